noncomputable section
theorem ite_ap {c : Prop} [Decidable c] (A B : IM) (k : Nat) : (if c then A else B) k = if c then A k else B k := by split <;> rfl
theorem ne_of {k x : Nat} {l : List Nat} (hk : k ∉ l) (hx : x ∈ l) : k ≠ x := fun h => hk (h ▸ hx)
set_option maxRecDepth 10000 in
theorem frX12_finds {I : IM}  {k : Nat} (hk : k ∉ ([79] : List Nat)) : jX12_findsM I k = I k := by
  unfold jX12_findsM
  first | ((repeat' split) <;> first | rfl | simp only [up2_ne (ne_of hk (show 79 ∈ _ by decide))]) | simp only [ite_ap, up2_ne (ne_of hk (show 79 ∈ _ by decide)), ite_self]
set_option maxRecDepth 10000 in
theorem frX12_node {I : IM} {a1 : Int32} {k : Nat} (hk : k ∉ ([79, 80] : List Nat)) : jX12_nodeM I a1 k = I k := by
  unfold jX12_nodeM
  first | ((repeat' split) <;> first | rfl | simp only [up2_ne (ne_of hk (show 79 ∈ _ by decide)), up2_ne (ne_of hk (show 80 ∈ _ by decide)), frX12_finds (fun z => hk ((show ∀ x ∈ ([79] : List Nat), x ∈ ([79, 80] : List Nat) by decide) _ z))]) | simp only [ite_ap, up2_ne (ne_of hk (show 79 ∈ _ by decide)), up2_ne (ne_of hk (show 80 ∈ _ by decide)), frX12_finds (fun z => hk ((show ∀ x ∈ ([79] : List Nat), x ∈ ([79, 80] : List Nat) by decide) _ z)), ite_self]
set_option maxRecDepth 10000 in
theorem frX12_line {I : IM} {a1 : Int32} {a2 : Int32} {a3 : Int32} {a4 : Int32} {a5 : Int32} {k : Nat} (hk : k ∉ ([79, 81, 82, 83, 84, 85, 89] : List Nat)) : jX12_lineM I a1 a2 a3 a4 a5 k = I k := by
  unfold jX12_lineM
  first | ((repeat' split) <;> first | rfl | simp only [up2_ne (ne_of hk (show 79 ∈ _ by decide)), up2_ne (ne_of hk (show 81 ∈ _ by decide)), up2_ne (ne_of hk (show 82 ∈ _ by decide)), up2_ne (ne_of hk (show 83 ∈ _ by decide)), up2_ne (ne_of hk (show 84 ∈ _ by decide)), up2_ne (ne_of hk (show 85 ∈ _ by decide)), up2_ne (ne_of hk (show 89 ∈ _ by decide)), frX12_finds (fun z => hk ((show ∀ x ∈ ([79] : List Nat), x ∈ ([79, 81, 82, 83, 84, 85, 89] : List Nat) by decide) _ z))]) | simp only [ite_ap, up2_ne (ne_of hk (show 79 ∈ _ by decide)), up2_ne (ne_of hk (show 81 ∈ _ by decide)), up2_ne (ne_of hk (show 82 ∈ _ by decide)), up2_ne (ne_of hk (show 83 ∈ _ by decide)), up2_ne (ne_of hk (show 84 ∈ _ by decide)), up2_ne (ne_of hk (show 85 ∈ _ by decide)), up2_ne (ne_of hk (show 89 ∈ _ by decide)), frX12_finds (fun z => hk ((show ∀ x ∈ ([79] : List Nat), x ∈ ([79, 81, 82, 83, 84, 85, 89] : List Nat) by decide) _ z)), ite_self]
set_option maxRecDepth 10000 in
theorem frX12_up {I : IM} {a1 : Int32} {a2 : Int32} {k : Nat} (hk : k ∉ ([79, 89] : List Nat)) : jX12_upM I a1 a2 k = I k := by
  unfold jX12_upM
  first | ((repeat' split) <;> first | rfl | simp only [up2_ne (ne_of hk (show 89 ∈ _ by decide)), frX12_finds (fun z => hk ((show ∀ x ∈ ([79] : List Nat), x ∈ ([79, 89] : List Nat) by decide) _ z))]) | simp only [ite_ap, up2_ne (ne_of hk (show 89 ∈ _ by decide)), frX12_finds (fun z => hk ((show ∀ x ∈ ([79] : List Nat), x ∈ ([79, 89] : List Nat) by decide) _ z)), ite_self]
set_option maxRecDepth 10000 in
set_option maxHeartbeats 1000000 in
theorem frX12_recordI {a1 : Int32} {a2 : Int32} {a3 : Int32} {k : Nat} (hk : k ∉ ([115, 116, 117, 118, 119, 120] : List Nat)) : ∀ (n : Nat) (tg : Nat) (v4 v5 v6 v7 : Int32) (I : IM), (jX12_recordI a1 a2 a3 n tg v4 v5 v6 v7 I) k = I k := by
  intro n
  induction n with
  | zero => intros; rfl
  | succ n ih =>
    intro tg v4 v5 v6 v7 I
    show ((if tg = 0 then jX12_recordB12 a1 a2 a3 (jX12_recordI a1 a2 a3 n) v4 v5 v6 v7 I else (if tg = 1 then jX12_recordB84 a1 a2 a3 (jX12_recordI a1 a2 a3 n) v4 v5 v6 v7 I else I))) k = I k
    (repeat' split) <;> first | rfl | (simp only [jX12_recordB12, jX12_recordB84]; (repeat' split) <;> first | rfl | simp only [up2_ne (ne_of hk (show 115 ∈ _ by decide)), up2_ne (ne_of hk (show 116 ∈ _ by decide)), up2_ne (ne_of hk (show 117 ∈ _ by decide)), up2_ne (ne_of hk (show 118 ∈ _ by decide)), up2_ne (ne_of hk (show 119 ∈ _ by decide)), up2_ne (ne_of hk (show 120 ∈ _ by decide)), ih])
set_option maxRecDepth 10000 in
theorem frX12_record {I : IM} {a1 : Int32} {a2 : Int32} {a3 : Int32} {k : Nat} (hk : k ∉ ([115, 116, 117, 118, 119, 120] : List Nat)) : (jX12_record I a1 a2 a3) k = I k := by
  unfold jX12_record
  (repeat' split) <;> first | rfl | simp only [frX12_recordI hk, up2_ne (ne_of hk (show 115 ∈ _ by decide)), up2_ne (ne_of hk (show 116 ∈ _ by decide)), up2_ne (ne_of hk (show 117 ∈ _ by decide)), up2_ne (ne_of hk (show 118 ∈ _ by decide)), up2_ne (ne_of hk (show 119 ∈ _ by decide)), up2_ne (ne_of hk (show 120 ∈ _ by decide))]
set_option maxRecDepth 10000 in
set_option maxHeartbeats 1000000 in
theorem frX12_gatherI {a1 : Int32} {a2 : Int32} {a3 : Int32} {k : Nat} (hk : k ∉ ([115, 116, 117, 118, 119, 120, 121, 122, 123] : List Nat)) : ∀ (n : Nat) (v4 v5 : Int32) (I : IM), (jX12_gatherI a1 a2 a3 n v4 v5 I) k = I k := by
  intro n
  induction n with
  | zero => intros; rfl
  | succ n ih =>
    intro v4 v5 I
    rw [jX12_gatherI_29]
    (repeat' split) <;> first | rfl | simp only [up2_ne (ne_of hk (show 115 ∈ _ by decide)), up2_ne (ne_of hk (show 121 ∈ _ by decide)), up2_ne (ne_of hk (show 122 ∈ _ by decide)), up2_ne (ne_of hk (show 123 ∈ _ by decide)), frX12_record (fun z => hk ((show ∀ x ∈ ([115, 116, 117, 118, 119, 120] : List Nat), x ∈ ([115, 116, 117, 118, 119, 120, 121, 122, 123] : List Nat) by decide) _ z)), ih]
set_option maxRecDepth 10000 in
theorem frX12_gather {I : IM} {a1 : Int32} {a2 : Int32} {a3 : Int32} {k : Nat} (hk : k ∉ ([115, 116, 117, 118, 119, 120, 121, 122, 123] : List Nat)) : (jX12_gather I a1 a2 a3) k = I k := by
  unfold jX12_gather
  (repeat' split) <;> first | rfl | simp only [frX12_gatherI hk, up2_ne (ne_of hk (show 115 ∈ _ by decide)), up2_ne (ne_of hk (show 121 ∈ _ by decide)), up2_ne (ne_of hk (show 122 ∈ _ by decide)), up2_ne (ne_of hk (show 123 ∈ _ by decide)), frX12_record (fun z => hk ((show ∀ x ∈ ([115, 116, 117, 118, 119, 120] : List Nat), x ∈ ([115, 116, 117, 118, 119, 120, 121, 122, 123] : List Nat) by decide) _ z))]
set_option maxRecDepth 10000 in
theorem frX12_ways {I : IM} {a1 : Int32} {a2 : Int32} {k : Nat} (hk : k ∉ ([79, 115, 116, 117, 118, 119, 120, 121, 122, 123] : List Nat)) : jX12_waysM I a1 a2 k = I k := by
  unfold jX12_waysM
  first | ((repeat' split) <;> first | rfl | simp only [frX12_finds (fun z => hk ((show ∀ x ∈ ([79] : List Nat), x ∈ ([79, 115, 116, 117, 118, 119, 120, 121, 122, 123] : List Nat) by decide) _ z)), frX12_gather (fun z => hk ((show ∀ x ∈ ([115, 116, 117, 118, 119, 120, 121, 122, 123] : List Nat), x ∈ ([79, 115, 116, 117, 118, 119, 120, 121, 122, 123] : List Nat) by decide) _ z))]) | simp only [ite_ap, frX12_finds (fun z => hk ((show ∀ x ∈ ([79] : List Nat), x ∈ ([79, 115, 116, 117, 118, 119, 120, 121, 122, 123] : List Nat) by decide) _ z)), frX12_gather (fun z => hk ((show ∀ x ∈ ([115, 116, 117, 118, 119, 120, 121, 122, 123] : List Nat), x ∈ ([79, 115, 116, 117, 118, 119, 120, 121, 122, 123] : List Nat) by decide) _ z)), ite_self]
set_option maxRecDepth 10000 in
theorem frX12_way {I : IM} {a1 : Int32} {a2 : Int32} {a3 : Int32} {a4 : Int32} {k : Nat} (hk : k ∉ ([79, 115, 116, 117, 118, 119, 120, 121, 122, 123] : List Nat)) : jX12_wayM I a1 a2 a3 a4 k = I k := by
  unfold jX12_wayM
  first | ((repeat' split) <;> first | rfl | simp only [frX12_finds (fun z => hk ((show ∀ x ∈ ([79] : List Nat), x ∈ ([79, 115, 116, 117, 118, 119, 120, 121, 122, 123] : List Nat) by decide) _ z)), frX12_gather (fun z => hk ((show ∀ x ∈ ([115, 116, 117, 118, 119, 120, 121, 122, 123] : List Nat), x ∈ ([79, 115, 116, 117, 118, 119, 120, 121, 122, 123] : List Nat) by decide) _ z))]) | simp only [ite_ap, frX12_finds (fun z => hk ((show ∀ x ∈ ([79] : List Nat), x ∈ ([79, 115, 116, 117, 118, 119, 120, 121, 122, 123] : List Nat) by decide) _ z)), frX12_gather (fun z => hk ((show ∀ x ∈ ([115, 116, 117, 118, 119, 120, 121, 122, 123] : List Nat), x ∈ ([79, 115, 116, 117, 118, 119, 120, 121, 122, 123] : List Nat) by decide) _ z)), ite_self]
set_option maxRecDepth 10000 in
theorem frX12_slice {I : IM} {a1 : Int32} {a2 : Int32} {a3 : Int32} {a4 : Int32} {a5 : Int32} {k : Nat} (hk : k ∉ ([79, 90, 91, 92, 93, 94, 99] : List Nat)) : jX12_sliceM I a1 a2 a3 a4 a5 k = I k := by
  unfold jX12_sliceM
  first | ((repeat' split) <;> first | rfl | simp only [up2_ne (ne_of hk (show 79 ∈ _ by decide)), up2_ne (ne_of hk (show 90 ∈ _ by decide)), up2_ne (ne_of hk (show 91 ∈ _ by decide)), up2_ne (ne_of hk (show 92 ∈ _ by decide)), up2_ne (ne_of hk (show 93 ∈ _ by decide)), up2_ne (ne_of hk (show 94 ∈ _ by decide)), up2_ne (ne_of hk (show 99 ∈ _ by decide)), frX12_finds (fun z => hk ((show ∀ x ∈ ([79] : List Nat), x ∈ ([79, 90, 91, 92, 93, 94, 99] : List Nat) by decide) _ z))]) | simp only [ite_ap, up2_ne (ne_of hk (show 79 ∈ _ by decide)), up2_ne (ne_of hk (show 90 ∈ _ by decide)), up2_ne (ne_of hk (show 91 ∈ _ by decide)), up2_ne (ne_of hk (show 92 ∈ _ by decide)), up2_ne (ne_of hk (show 93 ∈ _ by decide)), up2_ne (ne_of hk (show 94 ∈ _ by decide)), up2_ne (ne_of hk (show 99 ∈ _ by decide)), frX12_finds (fun z => hk ((show ∀ x ∈ ([79] : List Nat), x ∈ ([79, 90, 91, 92, 93, 94, 99] : List Nat) by decide) _ z)), ite_self]
set_option maxRecDepth 10000 in
theorem frX12_terms {I : IM} {a1 : Int32} {a2 : Int32} {a3 : Int32} {a4 : Int32} {k : Nat} (hk : k ∉ ([79, 95, 96, 97] : List Nat)) : jX12_termsM I a1 a2 a3 a4 k = I k := by
  unfold jX12_termsM
  first | ((repeat' split) <;> first | rfl | simp only [up2_ne (ne_of hk (show 95 ∈ _ by decide)), up2_ne (ne_of hk (show 96 ∈ _ by decide)), up2_ne (ne_of hk (show 97 ∈ _ by decide)), frX12_finds (fun z => hk ((show ∀ x ∈ ([79] : List Nat), x ∈ ([79, 95, 96, 97] : List Nat) by decide) _ z))]) | simp only [ite_ap, up2_ne (ne_of hk (show 95 ∈ _ by decide)), up2_ne (ne_of hk (show 96 ∈ _ by decide)), up2_ne (ne_of hk (show 97 ∈ _ by decide)), frX12_finds (fun z => hk ((show ∀ x ∈ ([79] : List Nat), x ∈ ([79, 95, 96, 97] : List Nat) by decide) _ z)), ite_self]
set_option maxRecDepth 10000 in
theorem frX12_span {I : IM} {a1 : Int32} {a2 : Int32} {a3 : Int32} {a4 : Int32} {k : Nat} (hk : k ∉ ([79, 98, 99, 100] : List Nat)) : jX12_spanM I a1 a2 a3 a4 k = I k := by
  unfold jX12_spanM
  first | ((repeat' split) <;> first | rfl | simp only [up2_ne (ne_of hk (show 98 ∈ _ by decide)), up2_ne (ne_of hk (show 99 ∈ _ by decide)), up2_ne (ne_of hk (show 100 ∈ _ by decide)), frX12_finds (fun z => hk ((show ∀ x ∈ ([79] : List Nat), x ∈ ([79, 98, 99, 100] : List Nat) by decide) _ z))]) | simp only [ite_ap, up2_ne (ne_of hk (show 98 ∈ _ by decide)), up2_ne (ne_of hk (show 99 ∈ _ by decide)), up2_ne (ne_of hk (show 100 ∈ _ by decide)), frX12_finds (fun z => hk ((show ∀ x ∈ ([79] : List Nat), x ∈ ([79, 98, 99, 100] : List Nat) by decide) _ z)), ite_self]
set_option maxRecDepth 10000 in
theorem frX12_as {I : IM} {a1 : Int32} {a2 : Int32} {k : Nat} (hk : k ∉ ([79] : List Nat)) : jX12_asM I a1 a2 k = I k := by
  unfold jX12_asM
  first | ((repeat' split) <;> first | rfl | simp only [frX12_finds (fun z => hk ((show ∀ x ∈ ([79] : List Nat), x ∈ ([79] : List Nat) by decide) _ z))]) | simp only [ite_ap, frX12_finds (fun z => hk ((show ∀ x ∈ ([79] : List Nat), x ∈ ([79] : List Nat) by decide) _ z)), ite_self]
set_option maxRecDepth 10000 in
theorem frX12_of {I : IM} {a1 : Int32} {a2 : Int32} {k : Nat} (hk : k ∉ ([79] : List Nat)) : jX12_ofM I a1 a2 k = I k := by
  unfold jX12_ofM
  first | ((repeat' split) <;> first | rfl | simp only [frX12_finds (fun z => hk ((show ∀ x ∈ ([79] : List Nat), x ∈ ([79] : List Nat) by decide) _ z))]) | simp only [ite_ap, frX12_finds (fun z => hk ((show ∀ x ∈ ([79] : List Nat), x ∈ ([79] : List Nat) by decide) _ z)), ite_self]
set_option maxRecDepth 10000 in
theorem frX12_load {I : IM} {a1 : Int32} {a2 : Int32} {k : Nat} (hk : k ∉ ([79] : List Nat)) : jX12_loadM I a1 a2 k = I k := by
  unfold jX12_loadM
  first | ((repeat' split) <;> first | rfl | simp only [frX12_finds (fun z => hk ((show ∀ x ∈ ([79] : List Nat), x ∈ ([79] : List Nat) by decide) _ z))]) | simp only [ite_ap, frX12_finds (fun z => hk ((show ∀ x ∈ ([79] : List Nat), x ∈ ([79] : List Nat) by decide) _ z)), ite_self]
set_option maxRecDepth 10000 in
theorem frX12_fallRoom {I : IM} {a1 : Int32} {a2 : Int32} {k : Nat} (hk : k ∉ ([79] : List Nat)) : jX12_fallRoomM I a1 a2 k = I k := by
  unfold jX12_fallRoomM
  first | ((repeat' split) <;> first | rfl | simp only [frX12_finds (fun z => hk ((show ∀ x ∈ ([79] : List Nat), x ∈ ([79] : List Nat) by decide) _ z))]) | simp only [ite_ap, frX12_finds (fun z => hk ((show ∀ x ∈ ([79] : List Nat), x ∈ ([79] : List Nat) by decide) _ z)), ite_self]
set_option maxRecDepth 10000 in
theorem frX12_work {I : IM} {a1 : Int32} {a2 : Int32} {k : Nat} (hk : k ∉ ([79] : List Nat)) : jX12_workM I a1 a2 k = I k := by
  unfold jX12_workM
  first | ((repeat' split) <;> first | rfl | simp only [frX12_finds (fun z => hk ((show ∀ x ∈ ([79] : List Nat), x ∈ ([79] : List Nat) by decide) _ z))]) | simp only [ite_ap, frX12_finds (fun z => hk ((show ∀ x ∈ ([79] : List Nat), x ∈ ([79] : List Nat) by decide) _ z)), ite_self]
set_option maxRecDepth 10000 in
set_option maxHeartbeats 1000000 in
theorem frX12_spareI {a1 : Int32} {k : Nat} (hk : k ∉ ([79] : List Nat)) : ∀ (n : Nat) (v2 v3 : Int32) (I : IM), (jX12_spareI a1 n v2 v3 I).2 k = I k := by
  intro n
  induction n with
  | zero => intros; rfl
  | succ n ih =>
    intro v2 v3 I
    rw [jX12_spareI_20]
    (repeat' split) <;> first | rfl | simp only [frX12_finds (fun z => hk ((show ∀ x ∈ ([79] : List Nat), x ∈ ([79] : List Nat) by decide) _ z)), ih]
set_option maxRecDepth 10000 in
theorem frX12_spare {I : IM} {a1 : Int32} {k : Nat} (hk : k ∉ ([79] : List Nat)) : (jX12_spare I a1).2 k = I k := by
  unfold jX12_spare
  (repeat' split) <;> first | rfl | simp only [frX12_spareI hk, frX12_finds (fun z => hk ((show ∀ x ∈ ([79] : List Nat), x ∈ ([79] : List Nat) by decide) _ z))]
set_option maxRecDepth 10000 in
set_option maxHeartbeats 1000000 in
theorem frX12_findCutI {a1 : Int32} {a2 : Int32} {a3 : Int32} {k : Nat} (hk : k ∉ ([79] : List Nat)) : ∀ (n : Nat) (tg : Nat) (v4 v5 v6 : Int32) (I : IM), (jX12_findCutI a1 a2 a3 n tg v4 v5 v6 I) k = I k := by
  intro n
  induction n with
  | zero => intros; rfl
  | succ n ih =>
    intro tg v4 v5 v6 I
    show ((if tg = 0 then jX12_findCutB10 a1 a2 a3 (jX12_findCutI a1 a2 a3 n) v4 v5 v6 I else (if tg = 1 then jX12_findCutB48 a1 a2 a3 (jX12_findCutI a1 a2 a3 n) v4 v5 v6 I else I))) k = I k
    (repeat' split) <;> first | rfl | (simp only [jX12_findCutB10, jX12_findCutB48]; (repeat' split) <;> first | rfl | simp only [up2_ne (ne_of hk (show 79 ∈ _ by decide)), ih])
set_option maxRecDepth 10000 in
theorem frX12_findCut {I : IM} {a1 : Int32} {a2 : Int32} {a3 : Int32} {k : Nat} (hk : k ∉ ([79] : List Nat)) : (jX12_findCut I a1 a2 a3) k = I k := by
  unfold jX12_findCut
  (repeat' split) <;> first | rfl | simp only [frX12_findCutI hk, up2_ne (ne_of hk (show 79 ∈ _ by decide))]
set_option maxRecDepth 10000 in
theorem frX12_flow {I : IM} {a1 : Int32} {a2 : Int32} {a3 : Int32} {k : Nat} (hk : k ∉ ([79] : List Nat)) : jX12_flowM I a1 a2 a3 k = I k := by
  unfold jX12_flowM
  first | ((repeat' split) <;> first | rfl | simp only [frX12_findCut (fun z => hk ((show ∀ x ∈ ([79] : List Nat), x ∈ ([79] : List Nat) by decide) _ z)), frX12_finds (fun z => hk ((show ∀ x ∈ ([79] : List Nat), x ∈ ([79] : List Nat) by decide) _ z))]) | simp only [ite_ap, frX12_findCut (fun z => hk ((show ∀ x ∈ ([79] : List Nat), x ∈ ([79] : List Nat) by decide) _ z)), frX12_finds (fun z => hk ((show ∀ x ∈ ([79] : List Nat), x ∈ ([79] : List Nat) by decide) _ z)), ite_self]
set_option maxRecDepth 10000 in
theorem frX12_cut {I : IM} {a1 : Int32} {a2 : Int32} {a3 : Int32} {k : Nat} (hk : k ∉ ([79] : List Nat)) : jX12_cutM I a1 a2 a3 k = I k := by
  unfold jX12_cutM
  first | ((repeat' split) <;> first | rfl | simp only [frX12_findCut (fun z => hk ((show ∀ x ∈ ([79] : List Nat), x ∈ ([79] : List Nat) by decide) _ z)), frX12_finds (fun z => hk ((show ∀ x ∈ ([79] : List Nat), x ∈ ([79] : List Nat) by decide) _ z))]) | simp only [ite_ap, frX12_findCut (fun z => hk ((show ∀ x ∈ ([79] : List Nat), x ∈ ([79] : List Nat) by decide) _ z)), frX12_finds (fun z => hk ((show ∀ x ∈ ([79] : List Nat), x ∈ ([79] : List Nat) by decide) _ z)), ite_self]
set_option maxRecDepth 10000 in
theorem frX12_start {I : IM} {a1 : Int32} {k : Nat} (hk : k ∉ ([115, 116, 117, 118, 119, 120, 121, 122, 123, 124, 125, 126, 127] : List Nat)) : jX12_startM I a1 k = I k := by
  unfold jX12_startM
  first | ((repeat' split) <;> first | rfl | simp only [up2_ne (ne_of hk (show 124 ∈ _ by decide)), up2_ne (ne_of hk (show 125 ∈ _ by decide)), up2_ne (ne_of hk (show 126 ∈ _ by decide)), up2_ne (ne_of hk (show 127 ∈ _ by decide)), frX12_gather (fun z => hk ((show ∀ x ∈ ([115, 116, 117, 118, 119, 120, 121, 122, 123] : List Nat), x ∈ ([115, 116, 117, 118, 119, 120, 121, 122, 123, 124, 125, 126, 127] : List Nat) by decide) _ z))]) | simp only [ite_ap, up2_ne (ne_of hk (show 124 ∈ _ by decide)), up2_ne (ne_of hk (show 125 ∈ _ by decide)), up2_ne (ne_of hk (show 126 ∈ _ by decide)), up2_ne (ne_of hk (show 127 ∈ _ by decide)), frX12_gather (fun z => hk ((show ∀ x ∈ ([115, 116, 117, 118, 119, 120, 121, 122, 123] : List Nat), x ∈ ([115, 116, 117, 118, 119, 120, 121, 122, 123, 124, 125, 126, 127] : List Nat) by decide) _ z)), ite_self]
set_option maxRecDepth 10000 in
set_option maxHeartbeats 1000000 in
theorem frX12_advanceI {a1 : Int32} {k : Nat} (hk : k ∉ ([124, 125, 126, 127] : List Nat)) : ∀ (n : Nat) (tg : Nat) (v2 v5 v6 : Int32) (I : IM), (jX12_advanceI a1 n tg v2 v5 v6 I).2 k = I k := by
  intro n
  induction n with
  | zero => intros; rfl
  | succ n ih =>
    intro tg v2 v5 v6 I
    show ((if tg = 0 then jX12_advanceB26 a1 (jX12_advanceI a1 n) v2 v5 v6 I else (if tg = 1 then jX12_advanceB191 a1 (jX12_advanceI a1 n) v2 v5 v6 I else (0, I)))).2 k = I k
    (repeat' split) <;> first | rfl | (simp only [jX12_advanceB26, jX12_advanceB191]; (repeat' split) <;> first | rfl | simp only [up2_ne (ne_of hk (show 124 ∈ _ by decide)), up2_ne (ne_of hk (show 125 ∈ _ by decide)), up2_ne (ne_of hk (show 126 ∈ _ by decide)), up2_ne (ne_of hk (show 127 ∈ _ by decide)), ih])
set_option maxRecDepth 10000 in
theorem frX12_advance {I : IM} {a1 : Int32} {k : Nat} (hk : k ∉ ([124, 125, 126, 127] : List Nat)) : (jX12_advance I a1).2 k = I k := by
  unfold jX12_advance
  (repeat' split) <;> first | rfl | simp only [frX12_advanceI hk, up2_ne (ne_of hk (show 124 ∈ _ by decide)), up2_ne (ne_of hk (show 125 ∈ _ by decide)), up2_ne (ne_of hk (show 126 ∈ _ by decide)), up2_ne (ne_of hk (show 127 ∈ _ by decide))]
set_option maxRecDepth 10000 in
theorem frX12_out {I : IM} {a1 : Int32} {k : Nat} (hk : k ∉ ([79, 106] : List Nat)) : jX12_outM I a1 k = I k := by
  unfold jX12_outM
  first | ((repeat' split) <;> first | rfl | simp only [up2_ne (ne_of hk (show 106 ∈ _ by decide)), frX12_finds (fun z => hk ((show ∀ x ∈ ([79] : List Nat), x ∈ ([79, 106] : List Nat) by decide) _ z))]) | simp only [ite_ap, up2_ne (ne_of hk (show 106 ∈ _ by decide)), frX12_finds (fun z => hk ((show ∀ x ∈ ([79] : List Nat), x ∈ ([79, 106] : List Nat) by decide) _ z)), ite_self]
set_option maxRecDepth 10000 in
theorem frX12_wayOf {I : IM} {a1 : Int32} {a2 : Int32} {a3 : Int32} {k : Nat} (hk : k ∉ ([79] : List Nat)) : jX12_wayOfM I a1 a2 a3 k = I k := by
  unfold jX12_wayOfM
  first | ((repeat' split) <;> first | rfl | simp only [frX12_finds (fun z => hk ((show ∀ x ∈ ([79] : List Nat), x ∈ ([79] : List Nat) by decide) _ z))]) | simp only [ite_ap, frX12_finds (fun z => hk ((show ∀ x ∈ ([79] : List Nat), x ∈ ([79] : List Nat) by decide) _ z)), ite_self]
set_option maxRecDepth 10000 in
theorem frX12_host {I : IM} {a1 : Int32} {k : Nat} (hk : k ∉ ([79] : List Nat)) : jX12_hostM I a1 k = I k := by
  unfold jX12_hostM
  first | ((repeat' split) <;> first | rfl | simp only [frX12_finds (fun z => hk ((show ∀ x ∈ ([79] : List Nat), x ∈ ([79] : List Nat) by decide) _ z))]) | simp only [ite_ap, frX12_finds (fun z => hk ((show ∀ x ∈ ([79] : List Nat), x ∈ ([79] : List Nat) by decide) _ z)), ite_self]
set_option maxRecDepth 10000 in
set_option maxHeartbeats 1000000 in
theorem frX12_keepsI  {k : Nat} (hk : k ∉ ([128, 129, 130, 131, 132, 133] : List Nat)) : ∀ (n : Nat) (v1 : Int32) (I : IM), (jX12_keepsI  n v1 I) k = I k := by
  intro n
  induction n with
  | zero => intros; rfl
  | succ n ih =>
    intro v1 I
    rw [jX12_keepsI_2]
    (repeat' split) <;> first | rfl | simp only [up2_ne (ne_of hk (show 128 ∈ _ by decide)), up2_ne (ne_of hk (show 129 ∈ _ by decide)), up2_ne (ne_of hk (show 130 ∈ _ by decide)), up2_ne (ne_of hk (show 131 ∈ _ by decide)), up2_ne (ne_of hk (show 132 ∈ _ by decide)), up2_ne (ne_of hk (show 133 ∈ _ by decide)), ih]
set_option maxRecDepth 10000 in
theorem frX12_keeps {I : IM}  {k : Nat} (hk : k ∉ ([128, 129, 130, 131, 132, 133] : List Nat)) : (jX12_keeps I ) k = I k := by
  unfold jX12_keeps
  (repeat' split) <;> first | rfl | simp only [frX12_keepsI hk, up2_ne (ne_of hk (show 128 ∈ _ by decide)), up2_ne (ne_of hk (show 129 ∈ _ by decide)), up2_ne (ne_of hk (show 130 ∈ _ by decide)), up2_ne (ne_of hk (show 131 ∈ _ by decide)), up2_ne (ne_of hk (show 132 ∈ _ by decide)), up2_ne (ne_of hk (show 133 ∈ _ by decide))]
set_option maxRecDepth 10000 in
set_option maxHeartbeats 1000000 in
theorem frX12_backToI  {k : Nat} (hk : k ∉ ([106, 107, 108, 109, 110, 111] : List Nat)) : ∀ (n : Nat) (v1 : Int32) (I : IM), (jX12_backToI  n v1 I) k = I k := by
  intro n
  induction n with
  | zero => intros; rfl
  | succ n ih =>
    intro v1 I
    rw [jX12_backToI_2]
    (repeat' split) <;> first | rfl | simp only [up2_ne (ne_of hk (show 106 ∈ _ by decide)), up2_ne (ne_of hk (show 107 ∈ _ by decide)), up2_ne (ne_of hk (show 108 ∈ _ by decide)), up2_ne (ne_of hk (show 109 ∈ _ by decide)), up2_ne (ne_of hk (show 110 ∈ _ by decide)), up2_ne (ne_of hk (show 111 ∈ _ by decide)), ih]
set_option maxRecDepth 10000 in
theorem frX12_backTo {I : IM}  {k : Nat} (hk : k ∉ ([106, 107, 108, 109, 110, 111] : List Nat)) : (jX12_backTo I ) k = I k := by
  unfold jX12_backTo
  (repeat' split) <;> first | rfl | simp only [frX12_backToI hk, up2_ne (ne_of hk (show 106 ∈ _ by decide)), up2_ne (ne_of hk (show 107 ∈ _ by decide)), up2_ne (ne_of hk (show 108 ∈ _ by decide)), up2_ne (ne_of hk (show 109 ∈ _ by decide)), up2_ne (ne_of hk (show 110 ∈ _ by decide)), up2_ne (ne_of hk (show 111 ∈ _ by decide))]
set_option maxRecDepth 10000 in
theorem frX12_offer {I : IM} {a1 : Int32} {a2 : Int32} {k : Nat} (hk : k ∉ ([79, 101] : List Nat)) : jX12_offerM I a1 a2 k = I k := by
  unfold jX12_offerM
  first | ((repeat' split) <;> first | rfl | simp only [up2_ne (ne_of hk (show 101 ∈ _ by decide)), frX12_finds (fun z => hk ((show ∀ x ∈ ([79] : List Nat), x ∈ ([79, 101] : List Nat) by decide) _ z))]) | simp only [ite_ap, up2_ne (ne_of hk (show 101 ∈ _ by decide)), frX12_finds (fun z => hk ((show ∀ x ∈ ([79] : List Nat), x ∈ ([79, 101] : List Nat) by decide) _ z)), ite_self]
set_option maxRecDepth 10000 in
set_option maxHeartbeats 1000000 in
theorem frX12_passesI {a1 : Int32} {a2 : Int32} {a3 : Int32} {k : Nat} (hk : k ∉ ([79, 86, 87, 88, 101, 102, 104, 105] : List Nat)) : ∀ (n : Nat) (v4 v5 : Int32) (I : IM), (jX12_passesI a1 a2 a3 n v4 v5 I) k = I k := by
  intro n
  induction n with
  | zero => intros; rfl
  | succ n ih =>
    intro v4 v5 I
    rw [jX12_passesI_6]
    (repeat' split) <;> first | rfl | simp only [up2_ne (ne_of hk (show 79 ∈ _ by decide)), up2_ne (ne_of hk (show 86 ∈ _ by decide)), up2_ne (ne_of hk (show 87 ∈ _ by decide)), up2_ne (ne_of hk (show 88 ∈ _ by decide)), up2_ne (ne_of hk (show 101 ∈ _ by decide)), up2_ne (ne_of hk (show 102 ∈ _ by decide)), up2_ne (ne_of hk (show 104 ∈ _ by decide)), up2_ne (ne_of hk (show 105 ∈ _ by decide)), ih]
set_option maxRecDepth 10000 in
theorem frX12_passes {I : IM} {a1 : Int32} {a2 : Int32} {a3 : Int32} {k : Nat} (hk : k ∉ ([79, 86, 87, 88, 101, 102, 104, 105] : List Nat)) : (jX12_passes I a1 a2 a3) k = I k := by
  unfold jX12_passes
  (repeat' split) <;> first | rfl | simp only [frX12_passesI hk, up2_ne (ne_of hk (show 79 ∈ _ by decide)), up2_ne (ne_of hk (show 86 ∈ _ by decide)), up2_ne (ne_of hk (show 87 ∈ _ by decide)), up2_ne (ne_of hk (show 88 ∈ _ by decide)), up2_ne (ne_of hk (show 101 ∈ _ by decide)), up2_ne (ne_of hk (show 102 ∈ _ by decide)), up2_ne (ne_of hk (show 104 ∈ _ by decide)), up2_ne (ne_of hk (show 105 ∈ _ by decide))]
set_option maxRecDepth 10000 in
theorem frX12_about {I : IM} {a1 : Int32} {a2 : Int32} {k : Nat} (hk : k ∉ ([79] : List Nat)) : jX12_aboutM I a1 a2 k = I k := by
  unfold jX12_aboutM
  first | ((repeat' split) <;> first | rfl | simp only [frX12_finds (fun z => hk ((show ∀ x ∈ ([79] : List Nat), x ∈ ([79] : List Nat) by decide) _ z))]) | simp only [ite_ap, frX12_finds (fun z => hk ((show ∀ x ∈ ([79] : List Nat), x ∈ ([79] : List Nat) by decide) _ z)), ite_self]
set_option maxRecDepth 10000 in
set_option maxHeartbeats 1000000 in
theorem frX12_sheetI {a1 : Int32} {a2 : Int32} {a3 : Int32} {k : Nat} (hk : k ∉ ([79, 112, 113, 114] : List Nat)) : ∀ (n : Nat) (v4 : Int32) (I : IM), (jX12_sheetI a1 a2 a3 n v4 I).2 k = I k := by
  intro n
  induction n with
  | zero => intros; rfl
  | succ n ih =>
    intro v4 I
    rw [jX12_sheetI_86]
    (repeat' split) <;> first | rfl | simp only [up2_ne (ne_of hk (show 112 ∈ _ by decide)), up2_ne (ne_of hk (show 113 ∈ _ by decide)), up2_ne (ne_of hk (show 114 ∈ _ by decide)), frX12_finds (fun z => hk ((show ∀ x ∈ ([79] : List Nat), x ∈ ([79, 112, 113, 114] : List Nat) by decide) _ z)), ih]
set_option maxRecDepth 10000 in
theorem frX12_sheet {I : IM} {a1 : Int32} {a2 : Int32} {a3 : Int32} {k : Nat} (hk : k ∉ ([79, 112, 113, 114] : List Nat)) : (jX12_sheet I a1 a2 a3).2 k = I k := by
  unfold jX12_sheet
  (repeat' split) <;> first | rfl | simp only [frX12_sheetI hk, up2_ne (ne_of hk (show 112 ∈ _ by decide)), up2_ne (ne_of hk (show 113 ∈ _ by decide)), up2_ne (ne_of hk (show 114 ∈ _ by decide)), frX12_finds (fun z => hk ((show ∀ x ∈ ([79] : List Nat), x ∈ ([79, 112, 113, 114] : List Nat) by decide) _ z))]
set_option maxRecDepth 10000 in
theorem frX12_write {I : IM} {a1 : Int32} {a2 : Int32} {a3 : Int32} {k : Nat} (hk : k ∉ ([79, 114] : List Nat)) : jX12_writeM I a1 a2 a3 k = I k := by
  unfold jX12_writeM
  first | ((repeat' split) <;> first | rfl | simp only [up2_ne (ne_of hk (show 114 ∈ _ by decide)), frX12_finds (fun z => hk ((show ∀ x ∈ ([79] : List Nat), x ∈ ([79, 114] : List Nat) by decide) _ z))]) | simp only [ite_ap, up2_ne (ne_of hk (show 114 ∈ _ by decide)), frX12_finds (fun z => hk ((show ∀ x ∈ ([79] : List Nat), x ∈ ([79, 114] : List Nat) by decide) _ z)), ite_self]
set_option maxRecDepth 10000 in
set_option maxHeartbeats 1000000 in
theorem frX12_copyI {a1 : Int32} {a2 : Int32} {a3 : Int32} {a4 : Int32} {a5 : Int32} {k : Nat} (hk : k ∉ ([79, 114, 135] : List Nat)) : ∀ (n : Nat) (tg : Nat) (v6 : Int32) (I : IM), (jX12_copyI a1 a2 a3 a4 a5 n tg v6 I).2 k = I k := by
  intro n
  induction n with
  | zero => intros; rfl
  | succ n ih =>
    intro tg v6 I
    show ((if tg = 0 then jX12_copyB128 a1 a2 a3 a4 a5 (jX12_copyI a1 a2 a3 a4 a5 n) v6 I else (if tg = 1 then jX12_copyB165 a1 a2 a3 a4 a5 (jX12_copyI a1 a2 a3 a4 a5 n) v6 I else (0, I)))).2 k = I k
    (repeat' split) <;> first | rfl | (simp only [jX12_copyB128, jX12_copyB165]; (repeat' split) <;> first | rfl | simp only [up2_ne (ne_of hk (show 114 ∈ _ by decide)), up2_ne (ne_of hk (show 135 ∈ _ by decide)), frX12_finds (fun z => hk ((show ∀ x ∈ ([79] : List Nat), x ∈ ([79, 114, 135] : List Nat) by decide) _ z)), ih])
set_option maxRecDepth 10000 in
theorem frX12_copy {I : IM} {a1 : Int32} {a2 : Int32} {a3 : Int32} {a4 : Int32} {a5 : Int32} {k : Nat} (hk : k ∉ ([79, 114, 135] : List Nat)) : (jX12_copy I a1 a2 a3 a4 a5).2 k = I k := by
  unfold jX12_copy
  (repeat' split) <;> first | rfl | simp only [frX12_copyI hk, up2_ne (ne_of hk (show 114 ∈ _ by decide)), up2_ne (ne_of hk (show 135 ∈ _ by decide)), frX12_finds (fun z => hk ((show ∀ x ∈ ([79] : List Nat), x ∈ ([79, 114, 135] : List Nat) by decide) _ z))]
set_option maxRecDepth 10000 in
set_option maxHeartbeats 1000000 in
theorem frX12_readI {a1 : Int32} {k : Nat} (hk : k ∉ ([79, 101] : List Nat)) : ∀ (n : Nat) (tg : Nat) (v2 v3 : Int32) (I : IM), (jX12_readI a1 n tg v2 v3 I).2 k = I k := by
  intro n
  induction n with
  | zero => intros; rfl
  | succ n ih =>
    intro tg v2 v3 I
    show ((if tg = 0 then jX12_readB53 a1 (jX12_readI a1 n) v2 v3 I else (if tg = 1 then jX12_readB94 a1 (jX12_readI a1 n) v2 v3 I else (if tg = 2 then jX12_readB159 a1 (jX12_readI a1 n) v2 v3 I else (0, I))))).2 k = I k
    (repeat' split) <;> first | rfl | (simp only [jX12_readB53, jX12_readB94, jX12_readB159]; (repeat' split) <;> first | rfl | simp only [up2_ne (ne_of hk (show 101 ∈ _ by decide)), frX12_finds (fun z => hk ((show ∀ x ∈ ([79] : List Nat), x ∈ ([79, 101] : List Nat) by decide) _ z)), ih])
set_option maxRecDepth 10000 in
theorem frX12_read {I : IM} {a1 : Int32} {k : Nat} (hk : k ∉ ([79, 101] : List Nat)) : (jX12_read I a1).2 k = I k := by
  unfold jX12_read
  (repeat' split) <;> first | rfl | simp only [frX12_readI hk, up2_ne (ne_of hk (show 101 ∈ _ by decide)), frX12_finds (fun z => hk ((show ∀ x ∈ ([79] : List Nat), x ∈ ([79, 101] : List Nat) by decide) _ z))]
set_option maxRecDepth 10000 in
theorem frX12_told {I : IM} {a1 : Int32} {k : Nat} (hk : k ∉ ([79] : List Nat)) : jX12_toldM I a1 k = I k := by
  unfold jX12_toldM
  first | ((repeat' split) <;> first | rfl | simp only [frX12_finds (fun z => hk ((show ∀ x ∈ ([79] : List Nat), x ∈ ([79] : List Nat) by decide) _ z))]) | simp only [ite_ap, frX12_finds (fun z => hk ((show ∀ x ∈ ([79] : List Nat), x ∈ ([79] : List Nat) by decide) _ z)), ite_self]
set_option maxRecDepth 10000 in
set_option maxHeartbeats 1000000 in
theorem frX12_placesI {a1 : Int32} {k : Nat} (hk : k ∉ ([79, 115, 116, 117, 118, 119, 120, 121, 122, 123, 124, 125, 126, 127] : List Nat)) : ∀ (n : Nat) (v2 : Int32) (I : IM), (jX12_placesI a1 n v2 I).2 k = I k := by
  intro n
  induction n with
  | zero => intros; rfl
  | succ n ih =>
    intro v2 I
    rw [jX12_placesI_22]
    (repeat' split) <;> first | rfl | simp only [frX12_advance (fun z => hk ((show ∀ x ∈ ([124, 125, 126, 127] : List Nat), x ∈ ([79, 115, 116, 117, 118, 119, 120, 121, 122, 123, 124, 125, 126, 127] : List Nat) by decide) _ z)), frX12_finds (fun z => hk ((show ∀ x ∈ ([79] : List Nat), x ∈ ([79, 115, 116, 117, 118, 119, 120, 121, 122, 123, 124, 125, 126, 127] : List Nat) by decide) _ z)), frX12_start (fun z => hk ((show ∀ x ∈ ([115, 116, 117, 118, 119, 120, 121, 122, 123, 124, 125, 126, 127] : List Nat), x ∈ ([79, 115, 116, 117, 118, 119, 120, 121, 122, 123, 124, 125, 126, 127] : List Nat) by decide) _ z)), ih]
set_option maxRecDepth 10000 in
theorem frX12_places {I : IM} {a1 : Int32} {k : Nat} (hk : k ∉ ([79, 115, 116, 117, 118, 119, 120, 121, 122, 123, 124, 125, 126, 127] : List Nat)) : (jX12_places I a1).2 k = I k := by
  unfold jX12_places
  (repeat' split) <;> first | rfl | simp only [frX12_placesI hk, frX12_advance (fun z => hk ((show ∀ x ∈ ([124, 125, 126, 127] : List Nat), x ∈ ([79, 115, 116, 117, 118, 119, 120, 121, 122, 123, 124, 125, 126, 127] : List Nat) by decide) _ z)), frX12_finds (fun z => hk ((show ∀ x ∈ ([79] : List Nat), x ∈ ([79, 115, 116, 117, 118, 119, 120, 121, 122, 123, 124, 125, 126, 127] : List Nat) by decide) _ z)), frX12_start (fun z => hk ((show ∀ x ∈ ([115, 116, 117, 118, 119, 120, 121, 122, 123, 124, 125, 126, 127] : List Nat), x ∈ ([79, 115, 116, 117, 118, 119, 120, 121, 122, 123, 124, 125, 126, 127] : List Nat) by decide) _ z))]
set_option maxRecDepth 10000 in
theorem frX12_puts {I : IM} {a1 : Int32} {k : Nat} (hk : k ∉ ([107, 108, 109, 110, 111] : List Nat)) : jX12_putsM I a1 k = I k := by
  unfold jX12_putsM
  first | ((repeat' split) <;> first | rfl | simp only [up2_ne (ne_of hk (show 107 ∈ _ by decide)), up2_ne (ne_of hk (show 108 ∈ _ by decide)), up2_ne (ne_of hk (show 109 ∈ _ by decide)), up2_ne (ne_of hk (show 110 ∈ _ by decide)), up2_ne (ne_of hk (show 111 ∈ _ by decide))]) | simp only [ite_ap, up2_ne (ne_of hk (show 107 ∈ _ by decide)), up2_ne (ne_of hk (show 108 ∈ _ by decide)), up2_ne (ne_of hk (show 109 ∈ _ by decide)), up2_ne (ne_of hk (show 110 ∈ _ by decide)), up2_ne (ne_of hk (show 111 ∈ _ by decide)), ite_self]
set_option maxRecDepth 10000 in
set_option maxHeartbeats 1000000 in
theorem frX12_letInI {a1 : Int32} {k : Nat} (hk : k ∉ ([79, 106, 107, 108, 109, 110, 111, 115, 116, 117, 118, 119, 120, 121, 122, 123, 124, 125, 126, 127] : List Nat)) : ∀ (n : Nat) (I : IM), (jX12_letInI a1 n  I).2 k = I k := by
  intro n
  induction n with
  | zero => intros; rfl
  | succ n ih =>
    intro  I
    rw [jX12_letInI_36]
    (repeat' split) <;> first | rfl | simp only [up2_ne (ne_of hk (show 106 ∈ _ by decide)), frX12_advance (fun z => hk ((show ∀ x ∈ ([124, 125, 126, 127] : List Nat), x ∈ ([79, 106, 107, 108, 109, 110, 111, 115, 116, 117, 118, 119, 120, 121, 122, 123, 124, 125, 126, 127] : List Nat) by decide) _ z)), frX12_finds (fun z => hk ((show ∀ x ∈ ([79] : List Nat), x ∈ ([79, 106, 107, 108, 109, 110, 111, 115, 116, 117, 118, 119, 120, 121, 122, 123, 124, 125, 126, 127] : List Nat) by decide) _ z)), frX12_puts (fun z => hk ((show ∀ x ∈ ([107, 108, 109, 110, 111] : List Nat), x ∈ ([79, 106, 107, 108, 109, 110, 111, 115, 116, 117, 118, 119, 120, 121, 122, 123, 124, 125, 126, 127] : List Nat) by decide) _ z)), frX12_start (fun z => hk ((show ∀ x ∈ ([115, 116, 117, 118, 119, 120, 121, 122, 123, 124, 125, 126, 127] : List Nat), x ∈ ([79, 106, 107, 108, 109, 110, 111, 115, 116, 117, 118, 119, 120, 121, 122, 123, 124, 125, 126, 127] : List Nat) by decide) _ z)), ih]
set_option maxRecDepth 10000 in
theorem frX12_letIn {I : IM} {a1 : Int32} {k : Nat} (hk : k ∉ ([79, 106, 107, 108, 109, 110, 111, 115, 116, 117, 118, 119, 120, 121, 122, 123, 124, 125, 126, 127] : List Nat)) : (jX12_letIn I a1).2 k = I k := by
  unfold jX12_letIn
  (repeat' split) <;> first | rfl | simp only [frX12_letInI hk, up2_ne (ne_of hk (show 106 ∈ _ by decide)), frX12_advance (fun z => hk ((show ∀ x ∈ ([124, 125, 126, 127] : List Nat), x ∈ ([79, 106, 107, 108, 109, 110, 111, 115, 116, 117, 118, 119, 120, 121, 122, 123, 124, 125, 126, 127] : List Nat) by decide) _ z)), frX12_finds (fun z => hk ((show ∀ x ∈ ([79] : List Nat), x ∈ ([79, 106, 107, 108, 109, 110, 111, 115, 116, 117, 118, 119, 120, 121, 122, 123, 124, 125, 126, 127] : List Nat) by decide) _ z)), frX12_puts (fun z => hk ((show ∀ x ∈ ([107, 108, 109, 110, 111] : List Nat), x ∈ ([79, 106, 107, 108, 109, 110, 111, 115, 116, 117, 118, 119, 120, 121, 122, 123, 124, 125, 126, 127] : List Nat) by decide) _ z)), frX12_start (fun z => hk ((show ∀ x ∈ ([115, 116, 117, 118, 119, 120, 121, 122, 123, 124, 125, 126, 127] : List Nat), x ∈ ([79, 106, 107, 108, 109, 110, 111, 115, 116, 117, 118, 119, 120, 121, 122, 123, 124, 125, 126, 127] : List Nat) by decide) _ z))]
set_option maxRecDepth 10000 in
set_option maxHeartbeats 1000000 in
theorem frX12_whyI {a1 : Int32} {k : Nat} (hk : k ∉ ([79, 106, 107, 108, 109, 110, 111, 115, 116, 117, 118, 119, 120, 121, 122, 123, 124, 125, 126, 127] : List Nat)) : ∀ (n : Nat) (v2 : Int32) (I : IM), (jX12_whyI a1 n v2 I).2 k = I k := by
  intro n
  induction n with
  | zero => intros; rfl
  | succ n ih =>
    intro v2 I
    rw [jX12_whyI_38]
    (repeat' split) <;> first | rfl | simp only [up2_ne (ne_of hk (show 106 ∈ _ by decide)), frX12_advance (fun z => hk ((show ∀ x ∈ ([124, 125, 126, 127] : List Nat), x ∈ ([79, 106, 107, 108, 109, 110, 111, 115, 116, 117, 118, 119, 120, 121, 122, 123, 124, 125, 126, 127] : List Nat) by decide) _ z)), frX12_finds (fun z => hk ((show ∀ x ∈ ([79] : List Nat), x ∈ ([79, 106, 107, 108, 109, 110, 111, 115, 116, 117, 118, 119, 120, 121, 122, 123, 124, 125, 126, 127] : List Nat) by decide) _ z)), frX12_puts (fun z => hk ((show ∀ x ∈ ([107, 108, 109, 110, 111] : List Nat), x ∈ ([79, 106, 107, 108, 109, 110, 111, 115, 116, 117, 118, 119, 120, 121, 122, 123, 124, 125, 126, 127] : List Nat) by decide) _ z)), frX12_start (fun z => hk ((show ∀ x ∈ ([115, 116, 117, 118, 119, 120, 121, 122, 123, 124, 125, 126, 127] : List Nat), x ∈ ([79, 106, 107, 108, 109, 110, 111, 115, 116, 117, 118, 119, 120, 121, 122, 123, 124, 125, 126, 127] : List Nat) by decide) _ z)), ih]
set_option maxRecDepth 10000 in
theorem frX12_why {I : IM} {a1 : Int32} {k : Nat} (hk : k ∉ ([79, 106, 107, 108, 109, 110, 111, 115, 116, 117, 118, 119, 120, 121, 122, 123, 124, 125, 126, 127] : List Nat)) : (jX12_why I a1).2 k = I k := by
  unfold jX12_why
  (repeat' split) <;> first | rfl | simp only [frX12_whyI hk, up2_ne (ne_of hk (show 106 ∈ _ by decide)), frX12_advance (fun z => hk ((show ∀ x ∈ ([124, 125, 126, 127] : List Nat), x ∈ ([79, 106, 107, 108, 109, 110, 111, 115, 116, 117, 118, 119, 120, 121, 122, 123, 124, 125, 126, 127] : List Nat) by decide) _ z)), frX12_finds (fun z => hk ((show ∀ x ∈ ([79] : List Nat), x ∈ ([79, 106, 107, 108, 109, 110, 111, 115, 116, 117, 118, 119, 120, 121, 122, 123, 124, 125, 126, 127] : List Nat) by decide) _ z)), frX12_puts (fun z => hk ((show ∀ x ∈ ([107, 108, 109, 110, 111] : List Nat), x ∈ ([79, 106, 107, 108, 109, 110, 111, 115, 116, 117, 118, 119, 120, 121, 122, 123, 124, 125, 126, 127] : List Nat) by decide) _ z)), frX12_start (fun z => hk ((show ∀ x ∈ ([115, 116, 117, 118, 119, 120, 121, 122, 123, 124, 125, 126, 127] : List Nat), x ∈ ([79, 106, 107, 108, 109, 110, 111, 115, 116, 117, 118, 119, 120, 121, 122, 123, 124, 125, 126, 127] : List Nat) by decide) _ z))]
set_option maxRecDepth 10000 in
set_option maxHeartbeats 1000000 in
theorem frX12_tookI {a1 : Int32} {k : Nat} (hk : k ∉ ([79] : List Nat)) : ∀ (n : Nat) (v2 v3 : Int32) (I : IM), (jX12_tookI a1 n v2 v3 I).2 k = I k := by
  intro n
  induction n with
  | zero => intros; rfl
  | succ n ih =>
    intro v2 v3 I
    rw [jX12_tookI_24]
    (repeat' split) <;> first | rfl | simp only [frX12_finds (fun z => hk ((show ∀ x ∈ ([79] : List Nat), x ∈ ([79] : List Nat) by decide) _ z)), ih]
set_option maxRecDepth 10000 in
theorem frX12_took {I : IM} {a1 : Int32} {k : Nat} (hk : k ∉ ([79] : List Nat)) : (jX12_took I a1).2 k = I k := by
  unfold jX12_took
  (repeat' split) <;> first | rfl | simp only [frX12_tookI hk, frX12_finds (fun z => hk ((show ∀ x ∈ ([79] : List Nat), x ∈ ([79] : List Nat) by decide) _ z))]
set_option maxRecDepth 10000 in
set_option maxHeartbeats 1000000 in
theorem frX12_comesInI {a1 : Int32} {k : Nat} (hk : k ∉ ([79, 106, 107, 108, 109, 110, 111, 124, 125, 126, 127] : List Nat)) : ∀ (n : Nat) (I : IM), (jX12_comesInI a1 n  I).2 k = I k := by
  intro n
  induction n with
  | zero => intros; rfl
  | succ n ih =>
    intro  I
    rw [jX12_comesInI_7]
    (repeat' split) <;> first | rfl | simp only [up2_ne (ne_of hk (show 79 ∈ _ by decide)), up2_ne (ne_of hk (show 106 ∈ _ by decide)), frX12_advance (fun z => hk ((show ∀ x ∈ ([124, 125, 126, 127] : List Nat), x ∈ ([79, 106, 107, 108, 109, 110, 111, 124, 125, 126, 127] : List Nat) by decide) _ z)), frX12_puts (fun z => hk ((show ∀ x ∈ ([107, 108, 109, 110, 111] : List Nat), x ∈ ([79, 106, 107, 108, 109, 110, 111, 124, 125, 126, 127] : List Nat) by decide) _ z)), ih]
set_option maxRecDepth 10000 in
theorem frX12_comesIn {I : IM} {a1 : Int32} {k : Nat} (hk : k ∉ ([79, 106, 107, 108, 109, 110, 111, 124, 125, 126, 127] : List Nat)) : (jX12_comesIn I a1).2 k = I k := by
  unfold jX12_comesIn
  (repeat' split) <;> first | rfl | simp only [frX12_comesInI hk, up2_ne (ne_of hk (show 79 ∈ _ by decide)), up2_ne (ne_of hk (show 106 ∈ _ by decide)), frX12_advance (fun z => hk ((show ∀ x ∈ ([124, 125, 126, 127] : List Nat), x ∈ ([79, 106, 107, 108, 109, 110, 111, 124, 125, 126, 127] : List Nat) by decide) _ z)), frX12_puts (fun z => hk ((show ∀ x ∈ ([107, 108, 109, 110, 111] : List Nat), x ∈ ([79, 106, 107, 108, 109, 110, 111, 124, 125, 126, 127] : List Nat) by decide) _ z))]
set_option maxRecDepth 10000 in
set_option maxHeartbeats 1000000 in
theorem frX12_oneTickI  {k : Nat} (hk : k ∉ ([79, 86, 87, 88, 101, 102, 103, 104, 105] : List Nat)) : ∀ (n : Nat) (tg : Nat) (v1 v2 v3 : Int32) (I : IM), (jX12_oneTickI  n tg v1 v2 v3 I) k = I k := by
  intro n
  induction n with
  | zero => intros; rfl
  | succ n ih =>
    intro tg v1 v2 v3 I
    show ((if tg = 0 then jX12_oneTickB2  (jX12_oneTickI  n) v1 v2 v3 I else (if tg = 1 then jX12_oneTickB25  (jX12_oneTickI  n) v1 v2 v3 I else (if tg = 2 then jX12_oneTickB57  (jX12_oneTickI  n) v1 v2 v3 I else (if tg = 3 then jX12_oneTickB179  (jX12_oneTickI  n) v1 v2 v3 I else I))))) k = I k
    (repeat' split) <;> first | rfl | (simp only [jX12_oneTickB2, jX12_oneTickB25, jX12_oneTickB57, jX12_oneTickB179]; (repeat' split) <;> first | rfl | simp only [up2_ne (ne_of hk (show 79 ∈ _ by decide)), up2_ne (ne_of hk (show 87 ∈ _ by decide)), up2_ne (ne_of hk (show 103 ∈ _ by decide)), up2_ne (ne_of hk (show 105 ∈ _ by decide)), frX12_passes (fun z => hk ((show ∀ x ∈ ([79, 86, 87, 88, 101, 102, 104, 105] : List Nat), x ∈ ([79, 86, 87, 88, 101, 102, 103, 104, 105] : List Nat) by decide) _ z)), ih])
set_option maxRecDepth 10000 in
theorem frX12_oneTick {I : IM}  {k : Nat} (hk : k ∉ ([79, 86, 87, 88, 101, 102, 103, 104, 105] : List Nat)) : (jX12_oneTick I ) k = I k := by
  unfold jX12_oneTick
  (repeat' split) <;> first | rfl | simp only [frX12_oneTickI hk, up2_ne (ne_of hk (show 79 ∈ _ by decide)), up2_ne (ne_of hk (show 87 ∈ _ by decide)), up2_ne (ne_of hk (show 103 ∈ _ by decide)), up2_ne (ne_of hk (show 105 ∈ _ by decide)), frX12_passes (fun z => hk ((show ∀ x ∈ ([79, 86, 87, 88, 101, 102, 104, 105] : List Nat), x ∈ ([79, 86, 87, 88, 101, 102, 103, 104, 105] : List Nat) by decide) _ z))]
set_option maxRecDepth 10000 in
set_option maxHeartbeats 1000000 in
theorem frX12_runI {a1 : Int32} {k : Nat} (hk : k ∉ ([79, 86, 87, 88, 101, 102, 103, 104, 105] : List Nat)) : ∀ (n : Nat) (v2 v3 : Int32) (I : IM), (jX12_runI a1 n v2 v3 I).2 k = I k := by
  intro n
  induction n with
  | zero => intros; rfl
  | succ n ih =>
    intro v2 v3 I
    rw [jX12_runI_24]
    (repeat' split) <;> first | rfl | simp only [frX12_finds (fun z => hk ((show ∀ x ∈ ([79] : List Nat), x ∈ ([79, 86, 87, 88, 101, 102, 103, 104, 105] : List Nat) by decide) _ z)), frX12_oneTick (fun z => hk ((show ∀ x ∈ ([79, 86, 87, 88, 101, 102, 103, 104, 105] : List Nat), x ∈ ([79, 86, 87, 88, 101, 102, 103, 104, 105] : List Nat) by decide) _ z)), ih]
set_option maxRecDepth 10000 in
theorem frX12_run {I : IM} {a1 : Int32} {k : Nat} (hk : k ∉ ([79, 86, 87, 88, 101, 102, 103, 104, 105] : List Nat)) : (jX12_run I a1).2 k = I k := by
  unfold jX12_run
  (repeat' split) <;> first | rfl | simp only [frX12_runI hk, frX12_finds (fun z => hk ((show ∀ x ∈ ([79] : List Nat), x ∈ ([79, 86, 87, 88, 101, 102, 103, 104, 105] : List Nat) by decide) _ z)), frX12_oneTick (fun z => hk ((show ∀ x ∈ ([79, 86, 87, 88, 101, 102, 103, 104, 105] : List Nat), x ∈ ([79, 86, 87, 88, 101, 102, 103, 104, 105] : List Nat) by decide) _ z))]
set_option maxRecDepth 10000 in
set_option maxHeartbeats 1000000 in
theorem frX12_laysI {a1 : Int32} {k : Nat} (hk : k ∉ ([79, 106, 107, 108, 109, 110, 111, 115, 116, 117, 118, 119, 120, 121, 122, 123, 124, 125, 126, 127] : List Nat)) : ∀ (n : Nat) (tg : Nat) (v2 : Int32) (I : IM), (jX12_laysI a1 n tg v2 I).2 k = I k := by
  intro n
  induction n with
  | zero => intros; rfl
  | succ n ih =>
    intro tg v2 I
    show ((if tg = 0 then jX12_laysB2 a1 (jX12_laysI a1 n) v2 I else (if tg = 1 then jX12_laysB41 a1 (jX12_laysI a1 n) v2 I else (0, I)))).2 k = I k
    (repeat' split) <;> first | rfl | (simp only [jX12_laysB2, jX12_laysB41]; (repeat' split) <;> first | rfl | simp only [up2_ne (ne_of hk (show 106 ∈ _ by decide)), frX12_comesIn (fun z => hk ((show ∀ x ∈ ([79, 106, 107, 108, 109, 110, 111, 124, 125, 126, 127] : List Nat), x ∈ ([79, 106, 107, 108, 109, 110, 111, 115, 116, 117, 118, 119, 120, 121, 122, 123, 124, 125, 126, 127] : List Nat) by decide) _ z)), frX12_start (fun z => hk ((show ∀ x ∈ ([115, 116, 117, 118, 119, 120, 121, 122, 123, 124, 125, 126, 127] : List Nat), x ∈ ([79, 106, 107, 108, 109, 110, 111, 115, 116, 117, 118, 119, 120, 121, 122, 123, 124, 125, 126, 127] : List Nat) by decide) _ z)), ih])
set_option maxRecDepth 10000 in
theorem frX12_lays {I : IM} {a1 : Int32} {k : Nat} (hk : k ∉ ([79, 106, 107, 108, 109, 110, 111, 115, 116, 117, 118, 119, 120, 121, 122, 123, 124, 125, 126, 127] : List Nat)) : (jX12_lays I a1).2 k = I k := by
  unfold jX12_lays
  (repeat' split) <;> first | rfl | simp only [frX12_laysI hk, up2_ne (ne_of hk (show 106 ∈ _ by decide)), frX12_comesIn (fun z => hk ((show ∀ x ∈ ([79, 106, 107, 108, 109, 110, 111, 124, 125, 126, 127] : List Nat), x ∈ ([79, 106, 107, 108, 109, 110, 111, 115, 116, 117, 118, 119, 120, 121, 122, 123, 124, 125, 126, 127] : List Nat) by decide) _ z)), frX12_start (fun z => hk ((show ∀ x ∈ ([115, 116, 117, 118, 119, 120, 121, 122, 123, 124, 125, 126, 127] : List Nat), x ∈ ([79, 106, 107, 108, 109, 110, 111, 115, 116, 117, 118, 119, 120, 121, 122, 123, 124, 125, 126, 127] : List Nat) by decide) _ z))]
set_option maxRecDepth 10000 in
theorem frX12_can {I : IM} {a1 : Int32} {k : Nat} (hk : k ∉ ([79, 106, 107, 108, 109, 110, 111, 115, 116, 117, 118, 119, 120, 121, 122, 123, 124, 125, 126, 127, 128, 129, 130, 131, 132, 133] : List Nat)) : jX12_canM I a1 k = I k := by
  unfold jX12_canM
  first | ((repeat' split) <;> first | rfl | simp only [up2_ne (ne_of hk (show 79 ∈ _ by decide)), frX12_backTo (fun z => hk ((show ∀ x ∈ ([106, 107, 108, 109, 110, 111] : List Nat), x ∈ ([79, 106, 107, 108, 109, 110, 111, 115, 116, 117, 118, 119, 120, 121, 122, 123, 124, 125, 126, 127, 128, 129, 130, 131, 132, 133] : List Nat) by decide) _ z)), frX12_finds (fun z => hk ((show ∀ x ∈ ([79] : List Nat), x ∈ ([79, 106, 107, 108, 109, 110, 111, 115, 116, 117, 118, 119, 120, 121, 122, 123, 124, 125, 126, 127, 128, 129, 130, 131, 132, 133] : List Nat) by decide) _ z)), frX12_keeps (fun z => hk ((show ∀ x ∈ ([128, 129, 130, 131, 132, 133] : List Nat), x ∈ ([79, 106, 107, 108, 109, 110, 111, 115, 116, 117, 118, 119, 120, 121, 122, 123, 124, 125, 126, 127, 128, 129, 130, 131, 132, 133] : List Nat) by decide) _ z)), frX12_lays (fun z => hk ((show ∀ x ∈ ([79, 106, 107, 108, 109, 110, 111, 115, 116, 117, 118, 119, 120, 121, 122, 123, 124, 125, 126, 127] : List Nat), x ∈ ([79, 106, 107, 108, 109, 110, 111, 115, 116, 117, 118, 119, 120, 121, 122, 123, 124, 125, 126, 127, 128, 129, 130, 131, 132, 133] : List Nat) by decide) _ z))]) | simp only [ite_ap, up2_ne (ne_of hk (show 79 ∈ _ by decide)), frX12_backTo (fun z => hk ((show ∀ x ∈ ([106, 107, 108, 109, 110, 111] : List Nat), x ∈ ([79, 106, 107, 108, 109, 110, 111, 115, 116, 117, 118, 119, 120, 121, 122, 123, 124, 125, 126, 127, 128, 129, 130, 131, 132, 133] : List Nat) by decide) _ z)), frX12_finds (fun z => hk ((show ∀ x ∈ ([79] : List Nat), x ∈ ([79, 106, 107, 108, 109, 110, 111, 115, 116, 117, 118, 119, 120, 121, 122, 123, 124, 125, 126, 127, 128, 129, 130, 131, 132, 133] : List Nat) by decide) _ z)), frX12_keeps (fun z => hk ((show ∀ x ∈ ([128, 129, 130, 131, 132, 133] : List Nat), x ∈ ([79, 106, 107, 108, 109, 110, 111, 115, 116, 117, 118, 119, 120, 121, 122, 123, 124, 125, 126, 127, 128, 129, 130, 131, 132, 133] : List Nat) by decide) _ z)), frX12_lays (fun z => hk ((show ∀ x ∈ ([79, 106, 107, 108, 109, 110, 111, 115, 116, 117, 118, 119, 120, 121, 122, 123, 124, 125, 126, 127] : List Nat), x ∈ ([79, 106, 107, 108, 109, 110, 111, 115, 116, 117, 118, 119, 120, 121, 122, 123, 124, 125, 126, 127, 128, 129, 130, 131, 132, 133] : List Nat) by decide) _ z)), ite_self]
set_option maxRecDepth 10000 in
set_option maxHeartbeats 1000000 in
theorem frX12_bestI  {k : Nat} (hk : k ∉ ([79, 106, 107, 108, 109, 110, 111, 115, 116, 117, 118, 119, 120, 121, 122, 123, 124, 125, 126, 127, 128, 129, 130, 131, 132, 133, 134] : List Nat)) : ∀ (n : Nat) (tg : Nat) (v1 v2 : Int32) (I : IM), (jX12_bestI  n tg v1 v2 I).2 k = I k := by
  intro n
  induction n with
  | zero => intros; rfl
  | succ n ih =>
    intro tg v1 v2 I
    show ((if tg = 0 then jX12_bestB11  (jX12_bestI  n) v1 v2 I else (if tg = 1 then jX12_bestB31  (jX12_bestI  n) v1 v2 I else (if tg = 2 then jX12_bestB35  (jX12_bestI  n) v1 v2 I else (0, I))))).2 k = I k
    (repeat' split) <;> first | rfl | (simp only [jX12_bestB11, jX12_bestB31, jX12_bestB35]; (repeat' split) <;> first | rfl | simp only [up2_ne (ne_of hk (show 79 ∈ _ by decide)), up2_ne (ne_of hk (show 134 ∈ _ by decide)), frX12_backTo (fun z => hk ((show ∀ x ∈ ([106, 107, 108, 109, 110, 111] : List Nat), x ∈ ([79, 106, 107, 108, 109, 110, 111, 115, 116, 117, 118, 119, 120, 121, 122, 123, 124, 125, 126, 127, 128, 129, 130, 131, 132, 133, 134] : List Nat) by decide) _ z)), frX12_finds (fun z => hk ((show ∀ x ∈ ([79] : List Nat), x ∈ ([79, 106, 107, 108, 109, 110, 111, 115, 116, 117, 118, 119, 120, 121, 122, 123, 124, 125, 126, 127, 128, 129, 130, 131, 132, 133, 134] : List Nat) by decide) _ z)), frX12_keeps (fun z => hk ((show ∀ x ∈ ([128, 129, 130, 131, 132, 133] : List Nat), x ∈ ([79, 106, 107, 108, 109, 110, 111, 115, 116, 117, 118, 119, 120, 121, 122, 123, 124, 125, 126, 127, 128, 129, 130, 131, 132, 133, 134] : List Nat) by decide) _ z)), frX12_lays (fun z => hk ((show ∀ x ∈ ([79, 106, 107, 108, 109, 110, 111, 115, 116, 117, 118, 119, 120, 121, 122, 123, 124, 125, 126, 127] : List Nat), x ∈ ([79, 106, 107, 108, 109, 110, 111, 115, 116, 117, 118, 119, 120, 121, 122, 123, 124, 125, 126, 127, 128, 129, 130, 131, 132, 133, 134] : List Nat) by decide) _ z)), ih])
set_option maxRecDepth 10000 in
theorem frX12_best {I : IM}  {k : Nat} (hk : k ∉ ([79, 106, 107, 108, 109, 110, 111, 115, 116, 117, 118, 119, 120, 121, 122, 123, 124, 125, 126, 127, 128, 129, 130, 131, 132, 133, 134] : List Nat)) : (jX12_best I ).2 k = I k := by
  unfold jX12_best
  (repeat' split) <;> first | rfl | simp only [frX12_bestI hk, up2_ne (ne_of hk (show 79 ∈ _ by decide)), up2_ne (ne_of hk (show 134 ∈ _ by decide)), frX12_backTo (fun z => hk ((show ∀ x ∈ ([106, 107, 108, 109, 110, 111] : List Nat), x ∈ ([79, 106, 107, 108, 109, 110, 111, 115, 116, 117, 118, 119, 120, 121, 122, 123, 124, 125, 126, 127, 128, 129, 130, 131, 132, 133, 134] : List Nat) by decide) _ z)), frX12_finds (fun z => hk ((show ∀ x ∈ ([79] : List Nat), x ∈ ([79, 106, 107, 108, 109, 110, 111, 115, 116, 117, 118, 119, 120, 121, 122, 123, 124, 125, 126, 127, 128, 129, 130, 131, 132, 133, 134] : List Nat) by decide) _ z)), frX12_keeps (fun z => hk ((show ∀ x ∈ ([128, 129, 130, 131, 132, 133] : List Nat), x ∈ ([79, 106, 107, 108, 109, 110, 111, 115, 116, 117, 118, 119, 120, 121, 122, 123, 124, 125, 126, 127, 128, 129, 130, 131, 132, 133, 134] : List Nat) by decide) _ z)), frX12_lays (fun z => hk ((show ∀ x ∈ ([79, 106, 107, 108, 109, 110, 111, 115, 116, 117, 118, 119, 120, 121, 122, 123, 124, 125, 126, 127] : List Nat), x ∈ ([79, 106, 107, 108, 109, 110, 111, 115, 116, 117, 118, 119, 120, 121, 122, 123, 124, 125, 126, 127, 128, 129, 130, 131, 132, 133, 134] : List Nat) by decide) _ z))]
set_option maxRecDepth 10000 in
set_option maxHeartbeats 1000000 in
theorem frX12_layI {a1 : Int32} {k : Nat} (hk : k ∉ ([79, 106, 107, 108, 109, 110, 111, 115, 116, 117, 118, 119, 120, 121, 122, 123, 124, 125, 126, 127, 128, 129, 130, 131, 132, 133] : List Nat)) : ∀ (n : Nat) (v3 v4 : Int32) (I : IM), (jX12_layI a1 n v3 v4 I).2 k = I k := by
  intro n
  induction n with
  | zero => intros; rfl
  | succ n ih =>
    intro v3 v4 I
    rw [jX12_layI_64]
    (repeat' split) <;> first | rfl | simp only [up2_ne (ne_of hk (show 79 ∈ _ by decide)), frX12_backTo (fun z => hk ((show ∀ x ∈ ([106, 107, 108, 109, 110, 111] : List Nat), x ∈ ([79, 106, 107, 108, 109, 110, 111, 115, 116, 117, 118, 119, 120, 121, 122, 123, 124, 125, 126, 127, 128, 129, 130, 131, 132, 133] : List Nat) by decide) _ z)), frX12_finds (fun z => hk ((show ∀ x ∈ ([79] : List Nat), x ∈ ([79, 106, 107, 108, 109, 110, 111, 115, 116, 117, 118, 119, 120, 121, 122, 123, 124, 125, 126, 127, 128, 129, 130, 131, 132, 133] : List Nat) by decide) _ z)), frX12_keeps (fun z => hk ((show ∀ x ∈ ([128, 129, 130, 131, 132, 133] : List Nat), x ∈ ([79, 106, 107, 108, 109, 110, 111, 115, 116, 117, 118, 119, 120, 121, 122, 123, 124, 125, 126, 127, 128, 129, 130, 131, 132, 133] : List Nat) by decide) _ z)), frX12_lays (fun z => hk ((show ∀ x ∈ ([79, 106, 107, 108, 109, 110, 111, 115, 116, 117, 118, 119, 120, 121, 122, 123, 124, 125, 126, 127] : List Nat), x ∈ ([79, 106, 107, 108, 109, 110, 111, 115, 116, 117, 118, 119, 120, 121, 122, 123, 124, 125, 126, 127, 128, 129, 130, 131, 132, 133] : List Nat) by decide) _ z)), ih]
set_option maxRecDepth 10000 in
theorem frX12_lay {I : IM} {a1 : Int32} {k : Nat} (hk : k ∉ ([79, 106, 107, 108, 109, 110, 111, 115, 116, 117, 118, 119, 120, 121, 122, 123, 124, 125, 126, 127, 128, 129, 130, 131, 132, 133] : List Nat)) : (jX12_lay I a1).2 k = I k := by
  unfold jX12_lay
  (repeat' split) <;> first | rfl | simp only [frX12_layI hk, up2_ne (ne_of hk (show 79 ∈ _ by decide)), frX12_backTo (fun z => hk ((show ∀ x ∈ ([106, 107, 108, 109, 110, 111] : List Nat), x ∈ ([79, 106, 107, 108, 109, 110, 111, 115, 116, 117, 118, 119, 120, 121, 122, 123, 124, 125, 126, 127, 128, 129, 130, 131, 132, 133] : List Nat) by decide) _ z)), frX12_finds (fun z => hk ((show ∀ x ∈ ([79] : List Nat), x ∈ ([79, 106, 107, 108, 109, 110, 111, 115, 116, 117, 118, 119, 120, 121, 122, 123, 124, 125, 126, 127, 128, 129, 130, 131, 132, 133] : List Nat) by decide) _ z)), frX12_keeps (fun z => hk ((show ∀ x ∈ ([128, 129, 130, 131, 132, 133] : List Nat), x ∈ ([79, 106, 107, 108, 109, 110, 111, 115, 116, 117, 118, 119, 120, 121, 122, 123, 124, 125, 126, 127, 128, 129, 130, 131, 132, 133] : List Nat) by decide) _ z)), frX12_lays (fun z => hk ((show ∀ x ∈ ([79, 106, 107, 108, 109, 110, 111, 115, 116, 117, 118, 119, 120, 121, 122, 123, 124, 125, 126, 127] : List Nat), x ∈ ([79, 106, 107, 108, 109, 110, 111, 115, 116, 117, 118, 119, 120, 121, 122, 123, 124, 125, 126, 127, 128, 129, 130, 131, 132, 133] : List Nat) by decide) _ z))]
end
