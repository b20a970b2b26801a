noncomputable section
abbrev hN (I : IM) (a : Int32) : Prop := 0 ≤ a ∧ a < I 1 3
abbrev hL (I : IM) (a : Int32) : Prop := 0 ≤ a ∧ a < I 1 4
abbrev tw (I : IM) (a b : Int32) : Prop := hN I a ∧ hN I b ∧ ¬ a = b
abbrev hSl (I : IM) (a : Int32) : Prop := 0 ≤ a ∧ a < I 15 1
abbrev inS (I : IM) (i : Nat) : Prop := ¬ I (17 + 4 * i) 12 = 0

def fX5_hasNode_0 (T : Topo) (a1 : Int32) (Q : Int32 → Topo → IM → Prop)  (I : IM) : Prop :=
  (((a1 < 0) → Q 0 T I) ∧ ((¬ a1 < 0) → ((((I 1 3) ≤ a1) → Q 0 T I) ∧ ((¬ (I 1 3) ≤ a1) → Q 1 T I))))
set_option maxHeartbeats 4000000 in
set_option maxRecDepth 100000 in
theorem sX5_hasNode_0 (d : Nat) {T : Topo} (hT : Lay T) (a1 : Int32)    {Q : Int32 → Topo → IM → Prop}   (I : IM) (h : fX5_hasNode_0 T a1 Q  I) : J (d + 0) mX5_hasNode (PI Q) 0 0 0 [some (.ref 1), some (.int a1)] [] T I 0 0 := by
  unfold fX5_hasNode_0 at h
  refine J.iload_n dX5_hasNode_0 rfl rfl ?_
  refine J.if_lt (tgt := 16) dX5_hasNode_1 (by decide) (fun hc1 => ?_) (fun hc1 => ?_)
  · have h := h.1 hc1
    refine J.iconst (v := 0) dX5_hasNode_16 (by decide) ?_
    exact J.zretQ dX5_hasNode_17 rfl (Or.inl rfl) (Nat.le_refl _) (Nat.le_refl _) h
  · have h := h.2 hc1
    refine J.iload_n dX5_hasNode_4 rfl rfl ?_
    refine J.aload_n dX5_hasNode_5 rfl rfl ?_
    refine J.getI dX5_hasNode_6 fX5_29 (hT.k 1 rfl) rfl ?_
    refine J.icmp_ge (tgt := 16) dX5_hasNode_9 (by decide) (fun hc2 => ?_) (fun hc2 => ?_)
    · have h := h.1 hc2
      refine J.iconst (v := 0) dX5_hasNode_16 (by decide) ?_
      exact J.zretQ dX5_hasNode_17 rfl (Or.inl rfl) (Nat.le_refl _) (Nat.le_refl _) h
    · have h := h.2 hc2
      refine J.iconst (v := 1) dX5_hasNode_12 (by decide) ?_
      refine J.goto (tgt := 17) dX5_hasNode_13 (by decide) ?_
      exact J.zretQ dX5_hasNode_17 rfl (Or.inr rfl) (Nat.le_refl _) (Nat.le_refl _) h
set_option maxHeartbeats 4000000 in
set_option maxRecDepth 100000 in
theorem wX5_hasNode (d : Nat) {T : Topo} (hT : Lay T) (a1 : Int32)   {Q : Int32 → Topo → IM → Prop} {I : IM} (h : fX5_hasNode_0 T a1 Q I) : Ct (d + 0) mX5_hasNode [.ref 1, .int a1] T I 0 0 (PI Q) :=
  Ct.ofJ (by decide +kernel) rfl (by intro v hv; revert v hv; simp [Value.category]) rfl (sX5_hasNode_0 d hT a1   I h)

theorem qX5_hasNode (d : Nat) {T : Topo} {I : IM} (hT : Lay T) (a1 : Int32)  : CtP (d + 0) mX5_hasNode [.ref 1, .int a1] T I (bI (hN I a1)) :=
  wX5_hasNode d hT a1  (by
  unfold fX5_hasNode_0
  exact ⟨fun hc2 => ⟨by (simp only [bI, hN, hL, tw, hSl]; first | exact (if_pos (by first | assumption | (refine ⟨by assumption, ?_⟩; assumption) | (simp only [Int32.lt_iff_toInt_lt, Int32.le_iff_toInt_le, ← Int32.toInt_inj] at *; omega) | simp_all)).symm | exact (if_neg (by first | assumption | (simp only [Int32.lt_iff_toInt_lt, Int32.le_iff_toInt_le, ← Int32.toInt_inj] at *; omega) | simp_all)).symm), rfl, rfl⟩, fun hc2 => ⟨fun hc1 => ⟨by (simp only [bI, hN, hL, tw, hSl]; first | exact (if_pos (by first | assumption | (refine ⟨by assumption, ?_⟩; assumption) | (simp only [Int32.lt_iff_toInt_lt, Int32.le_iff_toInt_le, ← Int32.toInt_inj] at *; omega) | simp_all)).symm | exact (if_neg (by first | assumption | (simp only [Int32.lt_iff_toInt_lt, Int32.le_iff_toInt_le, ← Int32.toInt_inj] at *; omega) | simp_all)).symm), rfl, rfl⟩, fun hc1 => ⟨by (simp only [bI, hN, hL, tw, hSl]; first | exact (if_pos (by first | assumption | (refine ⟨by assumption, ?_⟩; assumption) | (simp only [Int32.lt_iff_toInt_lt, Int32.le_iff_toInt_le, ← Int32.toInt_inj] at *; omega) | simp_all)).symm | exact (if_neg (by first | assumption | (simp only [Int32.lt_iff_toInt_lt, Int32.le_iff_toInt_le, ← Int32.toInt_inj] at *; omega) | simp_all)).symm), rfl, rfl⟩⟩⟩)

def fX5_hasLine_0 (T : Topo) (a1 : Int32) (Q : Int32 → Topo → IM → Prop)  (I : IM) : Prop :=
  (((a1 < 0) → Q 0 T I) ∧ ((¬ a1 < 0) → ((((I 1 4) ≤ a1) → Q 0 T I) ∧ ((¬ (I 1 4) ≤ a1) → Q 1 T I))))
set_option maxHeartbeats 4000000 in
set_option maxRecDepth 100000 in
theorem sX5_hasLine_0 (d : Nat) {T : Topo} (hT : Lay T) (a1 : Int32)    {Q : Int32 → Topo → IM → Prop}   (I : IM) (h : fX5_hasLine_0 T a1 Q  I) : J (d + 0) mX5_hasLine (PI Q) 0 0 0 [some (.ref 1), some (.int a1)] [] T I 0 0 := by
  unfold fX5_hasLine_0 at h
  refine J.iload_n dX5_hasLine_0 rfl rfl ?_
  refine J.if_lt (tgt := 16) dX5_hasLine_1 (by decide) (fun hc1 => ?_) (fun hc1 => ?_)
  · have h := h.1 hc1
    refine J.iconst (v := 0) dX5_hasLine_16 (by decide) ?_
    exact J.zretQ dX5_hasLine_17 rfl (Or.inl rfl) (Nat.le_refl _) (Nat.le_refl _) h
  · have h := h.2 hc1
    refine J.iload_n dX5_hasLine_4 rfl rfl ?_
    refine J.aload_n dX5_hasLine_5 rfl rfl ?_
    refine J.getI dX5_hasLine_6 fX5_33 (hT.k 1 rfl) rfl ?_
    refine J.icmp_ge (tgt := 16) dX5_hasLine_9 (by decide) (fun hc2 => ?_) (fun hc2 => ?_)
    · have h := h.1 hc2
      refine J.iconst (v := 0) dX5_hasLine_16 (by decide) ?_
      exact J.zretQ dX5_hasLine_17 rfl (Or.inl rfl) (Nat.le_refl _) (Nat.le_refl _) h
    · have h := h.2 hc2
      refine J.iconst (v := 1) dX5_hasLine_12 (by decide) ?_
      refine J.goto (tgt := 17) dX5_hasLine_13 (by decide) ?_
      exact J.zretQ dX5_hasLine_17 rfl (Or.inr rfl) (Nat.le_refl _) (Nat.le_refl _) h
set_option maxHeartbeats 4000000 in
set_option maxRecDepth 100000 in
theorem wX5_hasLine (d : Nat) {T : Topo} (hT : Lay T) (a1 : Int32)   {Q : Int32 → Topo → IM → Prop} {I : IM} (h : fX5_hasLine_0 T a1 Q I) : Ct (d + 0) mX5_hasLine [.ref 1, .int a1] T I 0 0 (PI Q) :=
  Ct.ofJ (by decide +kernel) rfl (by intro v hv; revert v hv; simp [Value.category]) rfl (sX5_hasLine_0 d hT a1   I h)

theorem qX5_hasLine (d : Nat) {T : Topo} {I : IM} (hT : Lay T) (a1 : Int32)  : CtP (d + 0) mX5_hasLine [.ref 1, .int a1] T I (bI (hL I a1)) :=
  wX5_hasLine d hT a1  (by
  unfold fX5_hasLine_0
  exact ⟨fun hc2 => ⟨by (simp only [bI, hN, hL, tw, hSl]; first | exact (if_pos (by first | assumption | (refine ⟨by assumption, ?_⟩; assumption) | (simp only [Int32.lt_iff_toInt_lt, Int32.le_iff_toInt_le, ← Int32.toInt_inj] at *; omega) | simp_all)).symm | exact (if_neg (by first | assumption | (simp only [Int32.lt_iff_toInt_lt, Int32.le_iff_toInt_le, ← Int32.toInt_inj] at *; omega) | simp_all)).symm), rfl, rfl⟩, fun hc2 => ⟨fun hc1 => ⟨by (simp only [bI, hN, hL, tw, hSl]; first | exact (if_pos (by first | assumption | (refine ⟨by assumption, ?_⟩; assumption) | (simp only [Int32.lt_iff_toInt_lt, Int32.le_iff_toInt_le, ← Int32.toInt_inj] at *; omega) | simp_all)).symm | exact (if_neg (by first | assumption | (simp only [Int32.lt_iff_toInt_lt, Int32.le_iff_toInt_le, ← Int32.toInt_inj] at *; omega) | simp_all)).symm), rfl, rfl⟩, fun hc1 => ⟨by (simp only [bI, hN, hL, tw, hSl]; first | exact (if_pos (by first | assumption | (refine ⟨by assumption, ?_⟩; assumption) | (simp only [Int32.lt_iff_toInt_lt, Int32.le_iff_toInt_le, ← Int32.toInt_inj] at *; omega) | simp_all)).symm | exact (if_neg (by first | assumption | (simp only [Int32.lt_iff_toInt_lt, Int32.le_iff_toInt_le, ← Int32.toInt_inj] at *; omega) | simp_all)).symm), rfl, rfl⟩⟩⟩)

def fX5_areTwoNodes_0 (T : Topo) (a1 : Int32) (a2 : Int32) (Q : Int32 → Topo → IM → Prop)  (I : IM) : Prop :=
  ((((¬ (hN I a1)) → Q 0 T I) ∧ ((hN I a1) → ((((¬ (hN I a2)) → Q 0 T I) ∧ ((hN I a2) → (((a1 = a2) → Q 0 T I) ∧ ((¬ a1 = a2) → Q 1 T I))))))))
set_option maxHeartbeats 4000000 in
set_option maxRecDepth 100000 in
theorem sX5_areTwoNodes_0 (d : Nat) {T : Topo} (hT : Lay T) (a1 : Int32) (a2 : Int32)    {Q : Int32 → Topo → IM → Prop}   (I : IM) (h : fX5_areTwoNodes_0 T a1 a2 Q  I) : J (d + 1) mX5_areTwoNodes (PI Q) 0 0 0 [some (.ref 1), some (.int a1), some (.int a2)] [] T I 0 0 := by
  unfold fX5_areTwoNodes_0 at h
  refine J.aload_n dX5_areTwoNodes_0 rfl rfl ?_
  refine J.iload_n dX5_areTwoNodes_1 rfl rfl ?_
  refine J.callVP (k := 1) (as := [.int a1]) (rest := []) dX5_areTwoNodes_2 kX5_hasNode vX5_hasNode lX5_36 (hT.k 1 rfl) rfl rfl rfl rfl rfl (by omega) (Nat.le_refl _) (Nat.le_refl _) (qX5_hasNode (d + 0) hT a1 ) ?_
  refine J.bz_eq (tgt := 25) dX5_areTwoNodes_5 (by decide) (fun hc1 => ?_) (fun hc1 => ?_)
  · have h := h.1 hc1
    refine J.iconst (v := 0) dX5_areTwoNodes_25 (by decide) ?_
    exact J.zretQ dX5_areTwoNodes_26 rfl (Or.inl rfl) (Nat.le_refl _) (Nat.le_refl _) h
  · have h := h.2 hc1
    refine J.aload_n dX5_areTwoNodes_8 rfl rfl ?_
    refine J.iload_n dX5_areTwoNodes_9 rfl rfl ?_
    refine J.callVP (k := 1) (as := [.int a2]) (rest := []) dX5_areTwoNodes_10 kX5_hasNode vX5_hasNode lX5_36 (hT.k 1 rfl) rfl rfl rfl rfl rfl (by omega) (Nat.le_refl _) (Nat.le_refl _) (qX5_hasNode (d + 0) hT a2 ) ?_
    refine J.bz_eq (tgt := 25) dX5_areTwoNodes_13 (by decide) (fun hc2 => ?_) (fun hc2 => ?_)
    · have h := h.1 hc2
      refine J.iconst (v := 0) dX5_areTwoNodes_25 (by decide) ?_
      exact J.zretQ dX5_areTwoNodes_26 rfl (Or.inl rfl) (Nat.le_refl _) (Nat.le_refl _) h
    · have h := h.2 hc2
      refine J.iload_n dX5_areTwoNodes_16 rfl rfl ?_
      refine J.iload_n dX5_areTwoNodes_17 rfl rfl ?_
      refine J.icmp_eq (tgt := 25) dX5_areTwoNodes_18 (by decide) (fun hc3 => ?_) (fun hc3 => ?_)
      · have h := h.1 hc3
        refine J.iconst (v := 0) dX5_areTwoNodes_25 (by decide) ?_
        exact J.zretQ dX5_areTwoNodes_26 rfl (Or.inl rfl) (Nat.le_refl _) (Nat.le_refl _) h
      · have h := h.2 hc3
        refine J.iconst (v := 1) dX5_areTwoNodes_21 (by decide) ?_
        refine J.goto (tgt := 26) dX5_areTwoNodes_22 (by decide) ?_
        exact J.zretQ dX5_areTwoNodes_26 rfl (Or.inr rfl) (Nat.le_refl _) (Nat.le_refl _) h
set_option maxHeartbeats 4000000 in
set_option maxRecDepth 100000 in
theorem wX5_areTwoNodes (d : Nat) {T : Topo} (hT : Lay T) (a1 : Int32) (a2 : Int32)   {Q : Int32 → Topo → IM → Prop} {I : IM} (h : fX5_areTwoNodes_0 T a1 a2 Q I) : Ct (d + 1) mX5_areTwoNodes [.ref 1, .int a1, .int a2] T I 0 0 (PI Q) :=
  Ct.ofJ (by decide +kernel) rfl (by intro v hv; revert v hv; simp [Value.category]) rfl (sX5_areTwoNodes_0 d hT a1 a2   I h)

theorem qX5_areTwoNodes (d : Nat) {T : Topo} {I : IM} (hT : Lay T) (a1 : Int32) (a2 : Int32)  : CtP (d + 1) mX5_areTwoNodes [.ref 1, .int a1, .int a2] T I (bI (tw I a1 a2)) :=
  wX5_areTwoNodes d hT a1 a2  (by
  unfold fX5_areTwoNodes_0
  exact ⟨fun hc3 => ⟨by first | exact (bI_t ⟨hc3, hc2, hc1⟩).symm | exact (bI_f (fun z => hc3 z.1)).symm | exact (bI_f (fun z => hc2 z.2.1)).symm | exact (bI_f (fun z => z.2.2 hc1)).symm, rfl, rfl⟩, fun hc3 => ⟨fun hc2 => ⟨by first | exact (bI_t ⟨hc3, hc2, hc1⟩).symm | exact (bI_f (fun z => hc3 z.1)).symm | exact (bI_f (fun z => hc2 z.2.1)).symm | exact (bI_f (fun z => z.2.2 hc1)).symm, rfl, rfl⟩, fun hc2 => ⟨fun hc1 => ⟨by first | exact (bI_t ⟨hc3, hc2, hc1⟩).symm | exact (bI_f (fun z => hc3 z.1)).symm | exact (bI_f (fun z => hc2 z.2.1)).symm | exact (bI_f (fun z => z.2.2 hc1)).symm, rfl, rfl⟩, fun hc1 => ⟨by first | exact (bI_t ⟨hc3, hc2, hc1⟩).symm | exact (bI_f (fun z => hc3 z.1)).symm | exact (bI_f (fun z => hc2 z.2.1)).symm | exact (bI_f (fun z => z.2.2 hc1)).symm, rfl, rfl⟩⟩⟩⟩)

def fX9_hasSlice_0 (T : Topo) (a1 : Int32) (Q : Int32 → Topo → IM → Prop)  (I : IM) : Prop :=
  (((a1 < 0) → Q 0 T I) ∧ ((¬ a1 < 0) → ((((I 15 1) ≤ a1) → Q 0 T I) ∧ ((¬ (I 15 1) ≤ a1) → Q 1 T I))))
set_option maxHeartbeats 4000000 in
set_option maxRecDepth 100000 in
theorem sX9_hasSlice_0 (d : Nat) {T : Topo} (hT : Lay T) (a1 : Int32)    {Q : Int32 → Topo → IM → Prop}   (I : IM) (h : fX9_hasSlice_0 T a1 Q  I) : J (d + 0) mX9_hasSlice (PI Q) 0 0 0 [some (.ref 15), some (.int a1)] [] T I 0 0 := by
  unfold fX9_hasSlice_0 at h
  refine J.iload_n dX9_hasSlice_0 rfl rfl ?_
  refine J.if_lt (tgt := 16) dX9_hasSlice_1 (by decide) (fun hc1 => ?_) (fun hc1 => ?_)
  · have h := h.1 hc1
    refine J.iconst (v := 0) dX9_hasSlice_16 (by decide) ?_
    exact J.zretQ dX9_hasSlice_17 rfl (Or.inl rfl) (Nat.le_refl _) (Nat.le_refl _) h
  · have h := h.2 hc1
    refine J.iload_n dX9_hasSlice_4 rfl rfl ?_
    refine J.aload_n dX9_hasSlice_5 rfl rfl ?_
    refine J.getI dX9_hasSlice_6 fX9_18 (hT.k 15 rfl) rfl ?_
    refine J.icmp_ge (tgt := 16) dX9_hasSlice_9 (by decide) (fun hc2 => ?_) (fun hc2 => ?_)
    · have h := h.1 hc2
      refine J.iconst (v := 0) dX9_hasSlice_16 (by decide) ?_
      exact J.zretQ dX9_hasSlice_17 rfl (Or.inl rfl) (Nat.le_refl _) (Nat.le_refl _) h
    · have h := h.2 hc2
      refine J.iconst (v := 1) dX9_hasSlice_12 (by decide) ?_
      refine J.goto (tgt := 17) dX9_hasSlice_13 (by decide) ?_
      exact J.zretQ dX9_hasSlice_17 rfl (Or.inr rfl) (Nat.le_refl _) (Nat.le_refl _) h
set_option maxHeartbeats 4000000 in
set_option maxRecDepth 100000 in
theorem wX9_hasSlice (d : Nat) {T : Topo} (hT : Lay T) (a1 : Int32)   {Q : Int32 → Topo → IM → Prop} {I : IM} (h : fX9_hasSlice_0 T a1 Q I) : Ct (d + 0) mX9_hasSlice [.ref 15, .int a1] T I 0 0 (PI Q) :=
  Ct.ofJ (by decide +kernel) rfl (by intro v hv; revert v hv; simp [Value.category]) rfl (sX9_hasSlice_0 d hT a1   I h)

theorem qX9_hasSlice (d : Nat) {T : Topo} {I : IM} (hT : Lay T) (a1 : Int32)  : CtP (d + 0) mX9_hasSlice [.ref 15, .int a1] T I (bI (hSl I a1)) :=
  wX9_hasSlice d hT a1  (by
  unfold fX9_hasSlice_0
  exact ⟨fun hc2 => ⟨by (simp only [bI, hN, hL, tw, hSl]; first | exact (if_pos (by first | assumption | (refine ⟨by assumption, ?_⟩; assumption) | (simp only [Int32.lt_iff_toInt_lt, Int32.le_iff_toInt_le, ← Int32.toInt_inj] at *; omega) | simp_all)).symm | exact (if_neg (by first | assumption | (simp only [Int32.lt_iff_toInt_lt, Int32.le_iff_toInt_le, ← Int32.toInt_inj] at *; omega) | simp_all)).symm), rfl, rfl⟩, fun hc2 => ⟨fun hc1 => ⟨by (simp only [bI, hN, hL, tw, hSl]; first | exact (if_pos (by first | assumption | (refine ⟨by assumption, ?_⟩; assumption) | (simp only [Int32.lt_iff_toInt_lt, Int32.le_iff_toInt_le, ← Int32.toInt_inj] at *; omega) | simp_all)).symm | exact (if_neg (by first | assumption | (simp only [Int32.lt_iff_toInt_lt, Int32.le_iff_toInt_le, ← Int32.toInt_inj] at *; omega) | simp_all)).symm), rfl, rfl⟩, fun hc1 => ⟨by (simp only [bI, hN, hL, tw, hSl]; first | exact (if_pos (by first | assumption | (refine ⟨by assumption, ?_⟩; assumption) | (simp only [Int32.lt_iff_toInt_lt, Int32.le_iff_toInt_le, ← Int32.toInt_inj] at *; omega) | simp_all)).symm | exact (if_neg (by first | assumption | (simp only [Int32.lt_iff_toInt_lt, Int32.le_iff_toInt_le, ← Int32.toInt_inj] at *; omega) | simp_all)).symm), rfl, rfl⟩⟩⟩)

def fX5_lineAt_0 (T : Topo) (a1 : Int32) (Q : Nat → Topo → IM → Prop)  (I : IM) : Prop :=
  (vp_in a1 9 ∧ Q (6 + a1.toNatClampNeg) T I)
set_option maxHeartbeats 4000000 in
set_option maxRecDepth 100000 in
theorem sX5_lineAt_0 (d : Nat) {T : Topo} (hT : Lay T) (a1 : Int32)    {Q : Nat → Topo → IM → Prop}   (I : IM) (h : fX5_lineAt_0 T a1 Q  I) : J (d + 0) mX5_lineAt (PR Q) 0 0 0 [some (.ref 1), some (.int a1)] [] T I 0 0 := by
  unfold fX5_lineAt_0 at h
  refine J.aload_n dX5_lineAt_0 rfl rfl ?_
  refine J.getR (r := 3) dX5_lineAt_1 fX5_17 (hT.k 1 rfl) rfl (hT.r 1 1 rfl rfl) ?_
  refine J.iload_n dX5_lineAt_4 rfl rfl ?_
  obtain ⟨hs1, h⟩ := h
  refine J.aald (r := (6 + a1.toNatClampNeg)) dX5_lineAt_5 (hT.k 3 rfl) rfl rfl (hT.l 3 rfl) hs1 (hT.lineR (vp_lt hs1)) ?_
  exact J.aretQ dX5_lineAt_6 rfl (Or.inl ⟨_, rfl⟩) (Nat.le_refl _) (Nat.le_refl _) h
set_option maxHeartbeats 4000000 in
set_option maxRecDepth 100000 in
theorem wX5_lineAt (d : Nat) {T : Topo} (hT : Lay T) (a1 : Int32)   {Q : Nat → Topo → IM → Prop} {I : IM} (h : fX5_lineAt_0 T a1 Q I) : Ct (d + 0) mX5_lineAt [.ref 1, .int a1] T I 0 0 (PR Q) :=
  Ct.ofJ (by decide +kernel) rfl (by intro v hv; revert v hv; simp [Value.category]) rfl (sX5_lineAt_0 d hT a1   I h)

theorem qX5_lineAt (d : Nat) {T : Topo} {I : IM} (hT : Lay T) (a1 : Int32) (hp : vp_in a1 9) : CtF (d + 0) mX5_lineAt [.ref 1, .int a1] T I ((6 + (a1).toNatClampNeg)) :=
  wX5_lineAt d hT a1  (by
  unfold fX5_lineAt_0
  exact ⟨by exact hp, ⟨by rfl, rfl, rfl⟩⟩)

def fX9_at_0 (T : Topo) (a1 : Int32) (Q : Nat → Topo → IM → Prop)  (I : IM) : Prop :=
  (vp_in a1 8 ∧ Q (17 + 4 * a1.toNatClampNeg) T I)
set_option maxHeartbeats 4000000 in
set_option maxRecDepth 100000 in
theorem sX9_at_0 (d : Nat) {T : Topo} (hT : Lay T) (a1 : Int32)    {Q : Nat → Topo → IM → Prop}   (I : IM) (h : fX9_at_0 T a1 Q  I) : J (d + 0) mX9_at (PR Q) 0 0 0 [some (.ref 15), some (.int a1)] [] T I 0 0 := by
  unfold fX9_at_0 at h
  refine J.aload_n dX9_at_0 rfl rfl ?_
  refine J.getR (r := 16) dX9_at_1 fX9_11 (hT.k 15 rfl) rfl (hT.r 15 0 rfl rfl) ?_
  refine J.iload_n dX9_at_4 rfl rfl ?_
  obtain ⟨hs1, h⟩ := h
  refine J.aald (r := (17 + 4 * a1.toNatClampNeg)) dX9_at_5 (hT.k 16 rfl) rfl rfl (hT.l 16 rfl) hs1 (hT.sliceR (vp_lt hs1)) ?_
  exact J.aretQ dX9_at_6 rfl (Or.inl ⟨_, rfl⟩) (Nat.le_refl _) (Nat.le_refl _) h
set_option maxHeartbeats 4000000 in
set_option maxRecDepth 100000 in
theorem wX9_at (d : Nat) {T : Topo} (hT : Lay T) (a1 : Int32)   {Q : Nat → Topo → IM → Prop} {I : IM} (h : fX9_at_0 T a1 Q I) : Ct (d + 0) mX9_at [.ref 15, .int a1] T I 0 0 (PR Q) :=
  Ct.ofJ (by decide +kernel) rfl (by intro v hv; revert v hv; simp [Value.category]) rfl (sX9_at_0 d hT a1   I h)

theorem qX9_at (d : Nat) {T : Topo} {I : IM} (hT : Lay T) (a1 : Int32) (hp : vp_in a1 8) : CtF (d + 0) mX9_at [.ref 15, .int a1] T I ((17 + 4 * (a1).toNatClampNeg)) :=
  wX9_at d hT a1  (by
  unfold fX9_at_0
  exact ⟨by exact hp, ⟨by rfl, rfl, rfl⟩⟩)

def fX5_isUp_0 (T : Topo) (a1 : Int32) (Q : Int32 → Topo → IM → Prop)  (I : IM) : Prop :=
  (((¬ (a1 &&& (I 1 5)) = 0) → Q 0 T I) ∧ (((a1 &&& (I 1 5)) = 0) → Q 1 T I))
set_option maxHeartbeats 4000000 in
set_option maxRecDepth 100000 in
theorem sX5_isUp_0 (d : Nat) {T : Topo} (hT : Lay T) (a1 : Int32)    {Q : Int32 → Topo → IM → Prop}   (I : IM) (h : fX5_isUp_0 T a1 Q  I) : J (d + 0) mX5_isUp (PI Q) 0 0 0 [some (.ref 1), some (.int a1)] [] T I 0 0 := by
  unfold fX5_isUp_0 at h
  refine J.iload_n dX5_isUp_0 rfl rfl ?_
  refine J.aload_n dX5_isUp_1 rfl rfl ?_
  refine J.getI dX5_isUp_2 fX5_55 (hT.k 1 rfl) rfl ?_
  refine J.iand dX5_isUp_5 ?_
  refine J.if_ne (tgt := 13) dX5_isUp_6 (by decide) (fun hc1 => ?_) (fun hc1 => ?_)
  · have h := h.1 hc1
    refine J.iconst (v := 0) dX5_isUp_13 (by decide) ?_
    exact J.zretQ dX5_isUp_14 rfl (Or.inl rfl) (Nat.le_refl _) (Nat.le_refl _) h
  · have h := h.2 hc1
    refine J.iconst (v := 1) dX5_isUp_9 (by decide) ?_
    refine J.goto (tgt := 14) dX5_isUp_10 (by decide) ?_
    exact J.zretQ dX5_isUp_14 rfl (Or.inr rfl) (Nat.le_refl _) (Nat.le_refl _) h
set_option maxHeartbeats 4000000 in
set_option maxRecDepth 100000 in
theorem wX5_isUp (d : Nat) {T : Topo} (hT : Lay T) (a1 : Int32)   {Q : Int32 → Topo → IM → Prop} {I : IM} (h : fX5_isUp_0 T a1 Q I) : Ct (d + 0) mX5_isUp [.ref 1, .int a1] T I 0 0 (PI Q) :=
  Ct.ofJ (by decide +kernel) rfl (by intro v hv; revert v hv; simp [Value.category]) rfl (sX5_isUp_0 d hT a1   I h)

theorem qX5_isUp (d : Nat) {T : Topo} {I : IM} (hT : Lay T) (a1 : Int32)  : CtP (d + 0) mX5_isUp [.ref 1, .int a1] T I (bI ((a1 &&& I 1 5) = 0)) :=
  wX5_isUp d hT a1  (by
  unfold fX5_isUp_0
  exact ⟨fun hc1 => ⟨by (simp only [bI]; simp_all), rfl, rfl⟩, fun hc1 => ⟨by (simp only [bI]; simp_all), rfl, rfl⟩⟩)

def fX8_isIn_0 (T : Topo) (i : Nat) (Q : Int32 → Topo → IM → Prop)  (I : IM) : Prop :=
  ((((I (17 + 4 * i) 12) = 0) → Q 0 T I) ∧ ((¬ (I (17 + 4 * i) 12) = 0) → Q 1 T I))
set_option maxHeartbeats 4000000 in
set_option maxRecDepth 100000 in
theorem sX8_isIn_0 (d : Nat) {T : Topo} (hT : Lay T) (i : Nat) (hi : i < 8)   {Q : Int32 → Topo → IM → Prop}   (I : IM) (h : fX8_isIn_0 T i Q  I) : J (d + 0) mX8_isIn (PI Q) 0 0 0 [some (.ref (17 + 4 * i))] [] T I 0 0 := by
  unfold fX8_isIn_0 at h
  refine J.aload_n dX8_isIn_0 rfl rfl ?_
  refine J.getI dX8_isIn_1 fX8_47 (hT.sliceK hi) rfl ?_
  refine J.if_eq (tgt := 11) dX8_isIn_4 (by decide) (fun hc1 => ?_) (fun hc1 => ?_)
  · have h := h.1 hc1
    refine J.iconst (v := 0) dX8_isIn_11 (by decide) ?_
    exact J.zretQ dX8_isIn_12 rfl (Or.inl rfl) (Nat.le_refl _) (Nat.le_refl _) h
  · have h := h.2 hc1
    refine J.iconst (v := 1) dX8_isIn_7 (by decide) ?_
    refine J.goto (tgt := 12) dX8_isIn_8 (by decide) ?_
    exact J.zretQ dX8_isIn_12 rfl (Or.inr rfl) (Nat.le_refl _) (Nat.le_refl _) h
set_option maxHeartbeats 4000000 in
set_option maxRecDepth 100000 in
theorem wX8_isIn (d : Nat) {T : Topo} (hT : Lay T) (i : Nat) (hi : i < 8)  {Q : Int32 → Topo → IM → Prop} {I : IM} (h : fX8_isIn_0 T i Q I) : Ct (d + 0) mX8_isIn [.ref (17 + 4 * i)] T I 0 0 (PI Q) :=
  Ct.ofJ (by decide +kernel) rfl (by intro v hv; revert v hv; simp [Value.category]) rfl (sX8_isIn_0 d hT i hi  I h)

theorem qX8_isIn (d : Nat) {T : Topo} {I : IM} (hT : Lay T) (i : Nat) (hi : i < 8)  : CtP (d + 0) mX8_isIn [.ref (17 + 4 * i)] T I (bI (inS I i)) :=
  wX8_isIn d hT i hi (by
  unfold fX8_isIn_0
  exact ⟨fun hc1 => ⟨by (simp only [bI, inS]; simp_all), rfl, rfl⟩, fun hc1 => ⟨by (simp only [bI, inS]; simp_all), rfl, rfl⟩⟩)

def fX5_addNode_0 (T : Topo) (a1 : Int32) (Q : Int32 → Topo → IM → Prop)  (I : IM) : Prop :=
  (vp_in (I 1 3) 6 ∧ Q (((I 1 3) + 1) - 1) T (up2 (up2 I 2 (I 1 3).toNatClampNeg a1) 1 3 ((I 1 3) + 1)))
set_option maxHeartbeats 4000000 in
set_option maxRecDepth 100000 in
theorem sX5_addNode_0 (d : Nat) {T : Topo} (hT : Lay T) (a1 : Int32)    {Q : Int32 → Topo → IM → Prop}   (I : IM) (h : fX5_addNode_0 T a1 Q  I) : J (d + 0) mX5_addNode (PI Q) 0 0 0 [some (.ref 1), some (.int a1)] [] T I 0 0 := by
  unfold fX5_addNode_0 at h
  refine J.aload_n dX5_addNode_0 rfl rfl ?_
  refine J.getR (r := 2) dX5_addNode_1 fX5_9 (hT.k 1 rfl) rfl (hT.r 1 0 rfl rfl) ?_
  refine J.aload_n dX5_addNode_4 rfl rfl ?_
  refine J.getI dX5_addNode_5 fX5_29 (hT.k 1 rfl) rfl ?_
  refine J.iload_n dX5_addNode_8 rfl rfl ?_
  obtain ⟨hs1, h⟩ := h
  refine J.iast dX5_addNode_9 (hT.k 2 rfl) (hT.l 2 rfl) hs1 ?_
  refine J.aload_n dX5_addNode_10 rfl rfl ?_
  refine J.dup dX5_addNode_11 rfl ?_
  refine J.getI dX5_addNode_12 fX5_29 (hT.k 1 rfl) rfl ?_
  refine J.topEq (y := (I 1 3)) (up2_o _ _ _ _ (by decide)) ?_
  refine J.iconst (v := 1) dX5_addNode_15 (by decide) ?_
  refine J.iadd dX5_addNode_16 ?_
  refine J.putI dX5_addNode_17 fX5_29 (hT.k 1 rfl) rfl ?_
  refine J.aload_n dX5_addNode_20 rfl rfl ?_
  refine J.atpc (pc' := 21) rfl ?_
  refine J.getI dX5_addNode_21 fX5_29 (hT.k 1 rfl) rfl ?_
  refine J.topEq (y := ((I 1 3) + 1)) (up2_at _ _ _ _) ?_
  refine J.iconst (v := 1) dX5_addNode_24 (by decide) ?_
  refine J.isub dX5_addNode_25 ?_
  exact J.iretQ dX5_addNode_26 rfl (Nat.le_refl _) (Nat.le_refl _) h
set_option maxHeartbeats 4000000 in
set_option maxRecDepth 100000 in
theorem wX5_addNode (d : Nat) {T : Topo} (hT : Lay T) (a1 : Int32)   {Q : Int32 → Topo → IM → Prop} {I : IM} (h : fX5_addNode_0 T a1 Q I) : Ct (d + 0) mX5_addNode [.ref 1, .int a1] T I 0 0 (PI Q) :=
  Ct.ofJ (by decide +kernel) rfl (by intro v hv; revert v hv; simp [Value.category]) rfl (sX5_addNode_0 d hT a1   I h)

def jX5_addNode (I : IM)  : Int32 := (((I 1 3) + 1) - 1)
def jX5_addNodeM (I : IM) (a1 : Int32) : IM := (up2 (up2 I 2 (I 1 3).toNatClampNeg a1) 1 3 ((I 1 3) + 1))
def jX5_addNodeK (I : IM)  : Prop := vp_in (I 1 3) 6
set_option maxRecDepth 10000 in
theorem qX5_addNode (d : Nat) {T : Topo} {I : IM} (hT : Lay T) (a1 : Int32)  (hp : (jX5_addNodeK I)) : CtI (d + 0) mX5_addNode [.ref 1, .int a1] T I (fun x_ J_ => x_ = (jX5_addNode I) ∧ J_ = (jX5_addNodeM I a1)) :=
  wX5_addNode d hT a1   (by
  unfold fX5_addNode_0
  exact ⟨hp, ⟨rfl, by unfold jX5_addNode; rfl, by unfold jX5_addNodeM; rfl⟩⟩)

def fX5_addLine_0 (T : Topo) (a1 : Int32) (a2 : Int32) (a3 : Int32) (a4 : Int32) (a5 : Int32) (Q : Int32 → Topo → IM → Prop)  (I : IM) : Prop :=
  (vp_in (I 1 4) 9 ∧ Q (((I 1 4) + 1) - 1) T (up2 (up2 (up2 (up2 (up2 (up2 I (6 + (I 1 4).toNatClampNeg) 0 a1) (6 + (I 1 4).toNatClampNeg) 1 a2) (6 + (I 1 4).toNatClampNeg) 2 a3) (6 + (I 1 4).toNatClampNeg) 3 a4) (6 + (I 1 4).toNatClampNeg) 4 a5) 1 4 ((I 1 4) + 1)))
set_option maxHeartbeats 4000000 in
set_option maxRecDepth 100000 in
theorem sX5_addLine_0 (d : Nat) {T : Topo} (hT : Lay T) (a1 : Int32) (a2 : Int32) (a3 : Int32) (a4 : Int32) (a5 : Int32)    {Q : Int32 → Topo → IM → Prop}   (I : IM) (h : fX5_addLine_0 T a1 a2 a3 a4 a5 Q  I) : J (d + 0) mX5_addLine (PI Q) 0 0 0 [some (.ref 1), some (.int a1), some (.int a2), some (.int a3), some (.int a4), some (.int a5), none] [] T I 0 0 := by
  unfold fX5_addLine_0 at h
  refine J.aload_n dX5_addLine_0 rfl rfl ?_
  refine J.getR (r := 3) dX5_addLine_1 fX5_17 (hT.k 1 rfl) rfl (hT.r 1 1 rfl rfl) ?_
  refine J.aload_n dX5_addLine_4 rfl rfl ?_
  refine J.getI dX5_addLine_5 fX5_33 (hT.k 1 rfl) rfl ?_
  obtain ⟨hs1, h⟩ := h
  refine J.aald (r := (6 + (I 1 4).toNatClampNeg)) dX5_addLine_8 (hT.k 3 rfl) rfl rfl (hT.l 3 rfl) hs1 (hT.lineR (vp_lt hs1)) ?_
  refine J.astore (ls' := [some (.ref 1), some (.int a1), some (.int a2), some (.int a3), some (.int a4), some (.int a5), some (.ref (6 + (I 1 4).toNatClampNeg))]) dX5_addLine_9 rfl rfl ?_
  refine J.aload dX5_addLine_11 rfl ?_
  refine J.iload_n dX5_addLine_13 rfl rfl ?_
  refine J.putI dX5_addLine_14 fX5_40 (hT.lineK (vp_lt hs1)) rfl ?_
  refine J.aload dX5_addLine_17 rfl ?_
  refine J.iload_n dX5_addLine_19 rfl rfl ?_
  refine J.putI dX5_addLine_20 fX5_43 (hT.lineK (vp_lt hs1)) rfl ?_
  refine J.atpc (pc' := 23) rfl ?_
  refine J.aload dX5_addLine_23 rfl ?_
  refine J.iload_n dX5_addLine_25 rfl rfl ?_
  refine J.putI dX5_addLine_26 fX5_46 (hT.lineK (vp_lt hs1)) rfl ?_
  refine J.aload dX5_addLine_29 rfl ?_
  refine J.iload dX5_addLine_31 rfl ?_
  refine J.putI dX5_addLine_33 fX5_49 (hT.lineK (vp_lt hs1)) rfl ?_
  refine J.aload dX5_addLine_36 rfl ?_
  refine J.iload dX5_addLine_38 rfl ?_
  refine J.atpc (pc' := 40) rfl ?_
  refine J.putI dX5_addLine_40 fX5_52 (hT.lineK (vp_lt hs1)) rfl ?_
  refine J.aload_n dX5_addLine_43 rfl rfl ?_
  refine J.dup dX5_addLine_44 rfl ?_
  refine J.getI dX5_addLine_45 fX5_33 (hT.k 1 rfl) rfl ?_
  refine J.topEq (y := (I 1 4)) (Eq.trans (up2_o _ _ _ _ (by (have := (vp_lt hs1); omega))) (Eq.trans (up2_o _ _ _ _ (by (have := (vp_lt hs1); omega))) (Eq.trans (up2_o _ _ _ _ (by (have := (vp_lt hs1); omega))) (Eq.trans (up2_o _ _ _ _ (by (have := (vp_lt hs1); omega))) (up2_o _ _ _ _ (by (have := (vp_lt hs1); omega))))))) ?_
  refine J.iconst (v := 1) dX5_addLine_48 (by decide) ?_
  refine J.iadd dX5_addLine_49 ?_
  refine J.putI dX5_addLine_50 fX5_33 (hT.k 1 rfl) rfl ?_
  refine J.aload_n dX5_addLine_53 rfl rfl ?_
  refine J.atpc (pc' := 54) rfl ?_
  refine J.getI dX5_addLine_54 fX5_33 (hT.k 1 rfl) rfl ?_
  refine J.topEq (y := ((I 1 4) + 1)) (up2_at _ _ _ _) ?_
  refine J.iconst (v := 1) dX5_addLine_57 (by decide) ?_
  refine J.isub dX5_addLine_58 ?_
  exact J.iretQ dX5_addLine_59 rfl (Nat.le_refl _) (Nat.le_refl _) h
set_option maxHeartbeats 4000000 in
set_option maxRecDepth 100000 in
theorem wX5_addLine (d : Nat) {T : Topo} (hT : Lay T) (a1 : Int32) (a2 : Int32) (a3 : Int32) (a4 : Int32) (a5 : Int32)   {Q : Int32 → Topo → IM → Prop} {I : IM} (h : fX5_addLine_0 T a1 a2 a3 a4 a5 Q I) : Ct (d + 0) mX5_addLine [.ref 1, .int a1, .int a2, .int a3, .int a4, .int a5] T I 0 0 (PI Q) :=
  Ct.ofJ (by decide +kernel) rfl (by intro v hv; revert v hv; simp [Value.category]) rfl (sX5_addLine_0 d hT a1 a2 a3 a4 a5   I h)

def jX5_addLine (I : IM)  : Int32 := (((I 1 4) + 1) - 1)
def jX5_addLineM (I : IM) (a1 : Int32) (a2 : Int32) (a3 : Int32) (a4 : Int32) (a5 : Int32) : IM := (up2 (up2 (up2 (up2 (up2 (up2 I (6 + (I 1 4).toNatClampNeg) 0 a1) (6 + (I 1 4).toNatClampNeg) 1 a2) (6 + (I 1 4).toNatClampNeg) 2 a3) (6 + (I 1 4).toNatClampNeg) 3 a4) (6 + (I 1 4).toNatClampNeg) 4 a5) 1 4 ((I 1 4) + 1))
def jX5_addLineK (I : IM)  : Prop := vp_in (I 1 4) 9
set_option maxRecDepth 10000 in
theorem qX5_addLine (d : Nat) {T : Topo} {I : IM} (hT : Lay T) (a1 : Int32) (a2 : Int32) (a3 : Int32) (a4 : Int32) (a5 : Int32)  (hp : (jX5_addLineK I)) : CtI (d + 0) mX5_addLine [.ref 1, .int a1, .int a2, .int a3, .int a4, .int a5] T I (fun x_ J_ => x_ = (jX5_addLine I) ∧ J_ = (jX5_addLineM I a1 a2 a3 a4 a5)) :=
  wX5_addLine d hT a1 a2 a3 a4 a5   (by
  unfold fX5_addLine_0
  exact ⟨hp, ⟨rfl, by unfold jX5_addLine; rfl, by unfold jX5_addLineM; rfl⟩⟩)

def fX5_setUp_0 (T : Topo) (a1 : Int32) (a2 : Int32) (Q : Int32 → Topo → IM → Prop)  (I : IM) : Prop :=
  (((((bI ((((1 : Int32) <<< (a1 &&& 31)) &&& I 1 5) = 0)) = a2) → (((a2 = 0) → Q 0 T (up2 I 1 5 ((I 1 5) ||| ((1 : Int32) <<< (a1 &&& 31))))) ∧ ((¬ a2 = 0) → Q 0 T (up2 I 1 5 ((I 1 5) &&& (((1 : Int32) <<< (a1 &&& 31)) ^^^ (-1))))))) ∧ ((¬ (bI ((((1 : Int32) <<< (a1 &&& 31)) &&& I 1 5) = 0)) = a2) → (((a2 = 0) → Q 1 T (up2 I 1 5 ((I 1 5) ||| ((1 : Int32) <<< (a1 &&& 31))))) ∧ ((¬ a2 = 0) → Q 1 T (up2 I 1 5 ((I 1 5) &&& (((1 : Int32) <<< (a1 &&& 31)) ^^^ (-1)))))))))
set_option maxHeartbeats 4000000 in
set_option maxRecDepth 100000 in
theorem sX5_setUp_0 (d : Nat) {T : Topo} (hT : Lay T) (a1 : Int32) (a2 : Int32)    {Q : Int32 → Topo → IM → Prop}   (I : IM) (h : fX5_setUp_0 T a1 a2 Q  I) : J (d + 1) mX5_setUp (PI Q) 0 0 0 [some (.ref 1), some (.int a1), some (.int a2), none] [] T I 0 0 := by
  unfold fX5_setUp_0 at h
  refine J.aload_n dX5_setUp_0 rfl rfl ?_
  refine J.iconst (v := 1) dX5_setUp_1 (by decide) ?_
  refine J.iload_n dX5_setUp_2 rfl rfl ?_
  refine J.ishl dX5_setUp_3 ?_
  refine J.callVP (k := 1) (as := [.int ((1 : Int32) <<< (a1 &&& 31))]) (rest := []) dX5_setUp_4 kX5_isUp vX5_isUp lX5_58 (hT.k 1 rfl) rfl rfl rfl rfl rfl (by omega) (Nat.le_refl _) (Nat.le_refl _) (qX5_isUp (d + 0) hT ((1 : Int32) <<< (a1 &&& 31)) ) ?_
  refine J.iload_n dX5_setUp_7 rfl rfl ?_
  refine J.icmp_eq (tgt := 15) dX5_setUp_8 (by decide) (fun hc1 => ?_) (fun hc1 => ?_)
  · have h := h.1 hc1
    refine J.iconst (v := 0) dX5_setUp_15 (by decide) ?_
    refine J.istore_n (ls' := [some (.ref 1), some (.int a1), some (.int a2), some (.int 0)]) dX5_setUp_16 rfl rfl rfl ?_
    refine J.aload_n dX5_setUp_17 rfl rfl ?_
    refine J.iload_n dX5_setUp_18 rfl rfl ?_
    refine J.if_eq (tgt := 35) dX5_setUp_19 (by decide) (fun hc2 => ?_) (fun hc2 => ?_)
    · have h := h.1 hc2
      refine J.aload_n dX5_setUp_35 rfl rfl ?_
      refine J.getI dX5_setUp_36 fX5_55 (hT.k 1 rfl) rfl ?_
      refine J.iconst (v := 1) dX5_setUp_39 (by decide) ?_
      refine J.iload_n dX5_setUp_40 rfl rfl ?_
      refine J.ishl dX5_setUp_41 ?_
      refine J.ior dX5_setUp_42 ?_
      refine J.putI dX5_setUp_43 fX5_55 (hT.k 1 rfl) rfl ?_
      refine J.atpc (pc' := 46) rfl ?_
      refine J.iload_n dX5_setUp_46 rfl rfl ?_
      exact J.zretQ dX5_setUp_47 rfl (Or.inl rfl) (Nat.le_refl _) (Nat.le_refl _) h
    · have h := h.2 hc2
      refine J.aload_n dX5_setUp_22 rfl rfl ?_
      refine J.getI dX5_setUp_23 fX5_55 (hT.k 1 rfl) rfl ?_
      refine J.iconst (v := 1) dX5_setUp_26 (by decide) ?_
      refine J.iload_n dX5_setUp_27 rfl rfl ?_
      refine J.ishl dX5_setUp_28 ?_
      refine J.iconst (v := (-1)) dX5_setUp_29 (by decide) ?_
      refine J.ixor dX5_setUp_30 ?_
      refine J.atpc (pc' := 31) rfl ?_
      refine J.iand dX5_setUp_31 ?_
      refine J.goto (tgt := 43) dX5_setUp_32 (by decide) ?_
      refine J.putI dX5_setUp_43 fX5_55 (hT.k 1 rfl) rfl ?_
      refine J.iload_n dX5_setUp_46 rfl rfl ?_
      exact J.zretQ dX5_setUp_47 rfl (Or.inl rfl) (Nat.le_refl _) (Nat.le_refl _) h
  · have h := h.2 hc1
    refine J.iconst (v := 1) dX5_setUp_11 (by decide) ?_
    refine J.goto (tgt := 16) dX5_setUp_12 (by decide) ?_
    refine J.istore_n (ls' := [some (.ref 1), some (.int a1), some (.int a2), some (.int 1)]) dX5_setUp_16 rfl rfl rfl ?_
    refine J.aload_n dX5_setUp_17 rfl rfl ?_
    refine J.iload_n dX5_setUp_18 rfl rfl ?_
    refine J.if_eq (tgt := 35) dX5_setUp_19 (by decide) (fun hc3 => ?_) (fun hc3 => ?_)
    · have h := h.1 hc3
      refine J.aload_n dX5_setUp_35 rfl rfl ?_
      refine J.getI dX5_setUp_36 fX5_55 (hT.k 1 rfl) rfl ?_
      refine J.iconst (v := 1) dX5_setUp_39 (by decide) ?_
      refine J.iload_n dX5_setUp_40 rfl rfl ?_
      refine J.ishl dX5_setUp_41 ?_
      refine J.ior dX5_setUp_42 ?_
      refine J.putI dX5_setUp_43 fX5_55 (hT.k 1 rfl) rfl ?_
      refine J.atpc (pc' := 46) rfl ?_
      refine J.iload_n dX5_setUp_46 rfl rfl ?_
      exact J.zretQ dX5_setUp_47 rfl (Or.inr rfl) (Nat.le_refl _) (Nat.le_refl _) h
    · have h := h.2 hc3
      refine J.aload_n dX5_setUp_22 rfl rfl ?_
      refine J.getI dX5_setUp_23 fX5_55 (hT.k 1 rfl) rfl ?_
      refine J.iconst (v := 1) dX5_setUp_26 (by decide) ?_
      refine J.iload_n dX5_setUp_27 rfl rfl ?_
      refine J.ishl dX5_setUp_28 ?_
      refine J.iconst (v := (-1)) dX5_setUp_29 (by decide) ?_
      refine J.ixor dX5_setUp_30 ?_
      refine J.atpc (pc' := 31) rfl ?_
      refine J.iand dX5_setUp_31 ?_
      refine J.goto (tgt := 43) dX5_setUp_32 (by decide) ?_
      refine J.putI dX5_setUp_43 fX5_55 (hT.k 1 rfl) rfl ?_
      refine J.iload_n dX5_setUp_46 rfl rfl ?_
      exact J.zretQ dX5_setUp_47 rfl (Or.inr rfl) (Nat.le_refl _) (Nat.le_refl _) h
set_option maxHeartbeats 4000000 in
set_option maxRecDepth 100000 in
theorem wX5_setUp (d : Nat) {T : Topo} (hT : Lay T) (a1 : Int32) (a2 : Int32)   {Q : Int32 → Topo → IM → Prop} {I : IM} (h : fX5_setUp_0 T a1 a2 Q I) : Ct (d + 1) mX5_setUp [.ref 1, .int a1, .int a2] T I 0 0 (PI Q) :=
  Ct.ofJ (by decide +kernel) rfl (by intro v hv; revert v hv; simp [Value.category]) rfl (sX5_setUp_0 d hT a1 a2   I h)

def jX5_setUp (I : IM) (a1 : Int32) (a2 : Int32) : Int32 := (if (bI ((((1 : Int32) <<< (a1 &&& 31)) &&& I 1 5) = 0)) = a2 then 0 else 1)
def jX5_setUpM (I : IM) (a1 : Int32) (a2 : Int32) : IM := (if a2 = 0 then (up2 I 1 5 ((I 1 5) ||| ((1 : Int32) <<< (a1 &&& 31)))) else (up2 I 1 5 ((I 1 5) &&& (((1 : Int32) <<< (a1 &&& 31)) ^^^ (-1)))))
set_option maxRecDepth 10000 in
theorem qX5_setUp (d : Nat) {T : Topo} {I : IM} (hT : Lay T) (a1 : Int32) (a2 : Int32)   : CtI (d + 1) mX5_setUp [.ref 1, .int a1, .int a2] T I (fun x_ J_ => x_ = (jX5_setUp I a1 a2) ∧ J_ = (jX5_setUpM I a1 a2)) :=
  wX5_setUp d hT a1 a2   (by
  unfold fX5_setUp_0
  exact ⟨fun hc1 => ⟨fun hc2 => ⟨rfl, by unfold jX5_setUp; rw [if_pos hc1], by unfold jX5_setUpM; rw [if_pos hc2]⟩, fun hc2 => ⟨rfl, by unfold jX5_setUp; rw [if_pos hc1], by unfold jX5_setUpM; rw [if_neg hc2]⟩⟩, fun hc1 => ⟨fun hc3 => ⟨rfl, by unfold jX5_setUp; rw [if_neg hc1], by unfold jX5_setUpM; rw [if_pos hc3]⟩, fun hc3 => ⟨rfl, by unfold jX5_setUp; rw [if_neg hc1], by unfold jX5_setUpM; rw [if_neg hc3]⟩⟩⟩)

def fX8_setSpan_0 (T : Topo) (i : Nat) (a1 : Int32) (a2 : Int32) (a3 : Int32) (Q : Topo → IM → Prop) (K26 : Int32 → IM → Prop) (I : IM) : Prop :=
  K26 a1 (up2 (up2 (up2 (up2 I (17 + 4 * i) 8 a1) (17 + 4 * i) 9 a2) (17 + 4 * i) 10 a3) (17 + 4 * i) 11 0)
def fX8_setSpan_26 (T : Topo) (i : Nat) (a1 : Int32) (a2 : Int32) (a3 : Int32) (Q : Topo → IM → Prop) (K26 : Int32 → IM → Prop) (v4 : Int32) (I : IM) : Prop :=
  ((((I (17 + 4 * i) 9) < v4) → Q T I) ∧ ((¬ (I (17 + 4 * i) 9) < v4) → (((24 ≤ v4) → Q T I) ∧ ((¬ 24 ≤ v4) → (((¬ (I (17 + 4 * i) 0) = 4) → K26 (v4 + 1) (up2 I (17 + 4 * i) 11 ((I (17 + 4 * i) 11) ||| ((1 : Int32) <<< (v4 &&& 31))))) ∧ (((I (17 + 4 * i) 0) = 4) → ((((¬ (hs (I (17 + 4 * i) 10) (v4 - v4 / 6 * 6))) → K26 (v4 + 1) I) ∧ ((hs (I (17 + 4 * i) 10) (v4 - v4 / 6 * 6)) → K26 (v4 + 1) (up2 I (17 + 4 * i) 11 ((I (17 + 4 * i) 11) ||| ((1 : Int32) <<< (v4 &&& 31)))))))))))))
set_option maxHeartbeats 4000000 in
set_option maxRecDepth 100000 in
theorem sX8_setSpan_0 (d : Nat) {T : Topo} (hT : Lay T) (i : Nat) (a1 : Int32) (a2 : Int32) (a3 : Int32) (hi : i < 8)   {Q : Topo → IM → Prop} {K26 : Int32 → IM → Prop} (hK26 : ∀ (v4 : Int32) (I : IM), K26 v4 I → J (d + 1) mX8_setSpan (PV Q) 0 0 26 [some (.ref (17 + 4 * i)), none, none, none, some (.int v4)] [] T I 0 0) (I : IM) (h : fX8_setSpan_0 T i a1 a2 a3 Q K26 I) : J (d + 1) mX8_setSpan (PV Q) 0 0 0 [some (.ref (17 + 4 * i)), some (.int a1), some (.int a2), some (.int a3), none] [] T I 0 0 := by
  unfold fX8_setSpan_0 at h
  refine J.aload_n dX8_setSpan_0 rfl rfl ?_
  refine J.iload_n dX8_setSpan_1 rfl rfl ?_
  refine J.putI dX8_setSpan_2 fX8_28 (hT.sliceK hi) rfl ?_
  refine J.aload_n dX8_setSpan_5 rfl rfl ?_
  refine J.iload_n dX8_setSpan_6 rfl rfl ?_
  refine J.putI dX8_setSpan_7 fX8_31 (hT.sliceK hi) rfl ?_
  refine J.aload_n dX8_setSpan_10 rfl rfl ?_
  refine J.atpc (pc' := 11) rfl ?_
  refine J.iload_n dX8_setSpan_11 rfl rfl ?_
  refine J.putI dX8_setSpan_12 fX8_34 (hT.sliceK hi) rfl ?_
  refine J.aload_n dX8_setSpan_15 rfl rfl ?_
  refine J.iconst (v := 0) dX8_setSpan_16 (by decide) ?_
  refine J.putI dX8_setSpan_17 fX8_37 (hT.sliceK hi) rfl ?_
  refine J.aload_n dX8_setSpan_20 rfl rfl ?_
  refine J.getI dX8_setSpan_21 fX8_28 (hT.sliceK hi) rfl ?_
  refine J.topEq (y := a1) (Eq.trans (up2_sj _ _ _ (by decide)) (Eq.trans (up2_sj _ _ _ (by decide)) (Eq.trans (up2_sj _ _ _ (by decide)) (up2_at _ _ _ _)))) ?_
  refine J.istore (ls' := [some (.ref (17 + 4 * i)), some (.int a1), some (.int a2), some (.int a3), some (.int a1)]) dX8_setSpan_24 rfl rfl ?_
  exact J.weaken (ls' := [some (.ref (17 + 4 * i)), none, none, none, some (.int a1)]) (And.intro rfl (And.intro rfl trivial)) (hK26 a1 (up2 (up2 (up2 (up2 I (17 + 4 * i) 8 a1) (17 + 4 * i) 9 a2) (17 + 4 * i) 10 a3) (17 + 4 * i) 11 0) h)
set_option maxHeartbeats 4000000 in
set_option maxRecDepth 100000 in
theorem sX8_setSpan_26 (d : Nat) {T : Topo} (hT : Lay T) (i : Nat) (a1 : Int32) (a2 : Int32) (a3 : Int32) (hi : i < 8)   {Q : Topo → IM → Prop} {K26 : Int32 → IM → Prop} (hK26 : ∀ (v4 : Int32) (I : IM), K26 v4 I → J (d + 1) mX8_setSpan (PV Q) 0 0 26 [some (.ref (17 + 4 * i)), none, none, none, some (.int v4)] [] T I 0 0) (v4 : Int32) (I : IM) (h : fX8_setSpan_26 T i a1 a2 a3 Q K26 v4 I) : J (d + 1) mX8_setSpan (PV Q) 0 0 26 [some (.ref (17 + 4 * i)), none, none, none, some (.int v4)] [] T I 0 0 := by
  unfold fX8_setSpan_26 at h
  refine J.iload dX8_setSpan_26 rfl ?_
  refine J.aload_n dX8_setSpan_28 rfl rfl ?_
  refine J.getI dX8_setSpan_29 fX8_31 (hT.sliceK hi) rfl ?_
  refine J.icmp_gt (tgt := 84) dX8_setSpan_32 (by decide) (fun hc1 => ?_) (fun hc1 => ?_)
  · have h := h.1 hc1
    exact J.vretQ dX8_setSpan_84 rfl (Nat.le_refl _) (Nat.le_refl _) h
  · have h := h.2 hc1
    refine J.iload dX8_setSpan_35 rfl ?_
    refine J.bipush (v := 24) dX8_setSpan_37 (by decide) ?_
    refine J.icmp_ge (tgt := 84) dX8_setSpan_39 (by decide) (fun hc2 => ?_) (fun hc2 => ?_)
    · have h := h.1 hc2
      exact J.vretQ dX8_setSpan_84 rfl (Nat.le_refl _) (Nat.le_refl _) h
    · have h := h.2 hc2
      refine J.aload_n dX8_setSpan_42 rfl rfl ?_
      refine J.getI dX8_setSpan_43 fX8_40 (hT.sliceK hi) rfl ?_
      refine J.iconst (v := 4) dX8_setSpan_46 (by decide) ?_
      refine J.icmp_ne (tgt := 65) dX8_setSpan_47 (by decide) (fun hc3 => ?_) (fun hc3 => ?_)
      · have h := h.1 hc3
        refine J.aload_n dX8_setSpan_65 rfl rfl ?_
        refine J.dup dX8_setSpan_66 rfl ?_
        refine J.getI dX8_setSpan_67 fX8_37 (hT.sliceK hi) rfl ?_
        refine J.iconst (v := 1) dX8_setSpan_70 (by decide) ?_
        refine J.iload dX8_setSpan_71 rfl ?_
        refine J.ishl dX8_setSpan_73 ?_
        refine J.ior dX8_setSpan_74 ?_
        refine J.atpc (pc' := 75) rfl ?_
        refine J.putI dX8_setSpan_75 fX8_37 (hT.sliceK hi) rfl ?_
        refine J.iinc (v := (v4 + 1)) (ls' := [some (.ref (17 + 4 * i)), none, none, none, some (.int (v4 + 1))]) dX8_setSpan_78 rfl (by rfl) rfl ?_
        refine J.goto (tgt := 26) dX8_setSpan_81 (by decide) ?_
        exact J.weaken (ls' := [some (.ref (17 + 4 * i)), none, none, none, some (.int (v4 + 1))]) (And.intro rfl (And.intro rfl trivial)) (hK26 (v4 + 1) (up2 I (17 + 4 * i) 11 ((I (17 + 4 * i) 11) ||| ((1 : Int32) <<< (v4 &&& 31)))) h)
      · have h := h.2 hc3
        refine J.aload_n dX8_setSpan_50 rfl rfl ?_
        refine J.getI dX8_setSpan_51 fX8_34 (hT.sliceK hi) rfl ?_
        refine J.iload dX8_setSpan_54 rfl ?_
        refine J.bipush (v := 6) dX8_setSpan_56 (by decide) ?_
        refine J.irem dX8_setSpan_58 (by decide) ?_
        refine J.callSP (as := [.int (I (17 + 4 * i) 10), .int (v4 - v4 / 6 * 6)]) (rest := []) dX8_setSpan_59 kX11_has vX11_has lX8_43 rfl rfl rfl (by omega) (Nat.le_refl _) (Nat.le_refl _) (qX11_has (d + 0) hT (I (17 + 4 * i) 10) (v4 - v4 / 6 * 6) ) ?_
        refine J.bz_eq (tgt := 78) dX8_setSpan_62 (by decide) (fun hc4 => ?_) (fun hc4 => ?_)
        · have h := h.1 hc4
          refine J.iinc (v := (v4 + 1)) (ls' := [some (.ref (17 + 4 * i)), none, none, none, some (.int (v4 + 1))]) dX8_setSpan_78 rfl (by rfl) rfl ?_
          refine J.goto (tgt := 26) dX8_setSpan_81 (by decide) ?_
          exact J.weaken (ls' := [some (.ref (17 + 4 * i)), none, none, none, some (.int (v4 + 1))]) (And.intro rfl (And.intro rfl trivial)) (hK26 (v4 + 1) I h)
        · have h := h.2 hc4
          refine J.aload_n dX8_setSpan_65 rfl rfl ?_
          refine J.dup dX8_setSpan_66 rfl ?_
          refine J.getI dX8_setSpan_67 fX8_37 (hT.sliceK hi) rfl ?_
          refine J.iconst (v := 1) dX8_setSpan_70 (by decide) ?_
          refine J.iload dX8_setSpan_71 rfl ?_
          refine J.ishl dX8_setSpan_73 ?_
          refine J.ior dX8_setSpan_74 ?_
          refine J.atpc (pc' := 75) rfl ?_
          refine J.putI dX8_setSpan_75 fX8_37 (hT.sliceK hi) rfl ?_
          refine J.iinc (v := (v4 + 1)) (ls' := [some (.ref (17 + 4 * i)), none, none, none, some (.int (v4 + 1))]) dX8_setSpan_78 rfl (by rfl) rfl ?_
          refine J.goto (tgt := 26) dX8_setSpan_81 (by decide) ?_
          exact J.weaken (ls' := [some (.ref (17 + 4 * i)), none, none, none, some (.int (v4 + 1))]) (And.intro rfl (And.intro rfl trivial)) (hK26 (v4 + 1) (up2 I (17 + 4 * i) 11 ((I (17 + 4 * i) 11) ||| ((1 : Int32) <<< (v4 &&& 31)))) h)
set_option maxHeartbeats 4000000 in
set_option maxRecDepth 100000 in
theorem wX8_setSpan (d : Nat) {T : Topo} (hT : Lay T) (i : Nat) (a1 : Int32) (a2 : Int32) (a3 : Int32) (hi : i < 8)  {Q : Topo → IM → Prop} (V26 : Int32 → IM → Prop) (μ26 : Int32 → IM → Nat) (vc26 : ∀ (v4 : Int32) (I : IM), V26 v4 I → fX8_setSpan_26 T i a1 a2 a3 Q (fun w4 I_ => V26 w4 I_ ∧ μ26 w4 I_ < μ26 v4 I) v4 I) {I : IM} (h : fX8_setSpan_0 T i a1 a2 a3 Q V26 I) : Ct (d + 1) mX8_setSpan [.ref (17 + 4 * i), .int a1, .int a2, .int a3] T I 0 0 (PV Q) := by
  have all : ∀ n : Nat, (∀ (v4 : Int32) (I : IM), V26 v4 I → μ26 v4 I < n → J (d + 1) mX8_setSpan (PV Q) 0 0 26 [some (.ref (17 + 4 * i)), none, none, none, some (.int v4)] [] T I 0 0) := by
    intro n
    induction n with
    | zero => exact fun _ _ _ hn => absurd hn (Nat.not_lt_zero _)
    | succ n ih =>
      exact fun v4 I hv hn => sX8_setSpan_26 d hT i a1 a2 a3 hi  (fun w4 I_ hw => ih w4 I_ hw.1 (by have := hw.2; omega)) v4 I (vc26 v4 I hv)
  exact Ct.ofJ (by decide +kernel) rfl (by intro v hv; revert v hv; simp [Value.category]) rfl (sX8_setSpan_0 d hT i a1 a2 a3 hi  (fun w4 I_ hw => (all (μ26 w4 I_ + 1)) w4 I_ hw (Nat.lt_succ_self _)) I h)

def jX8_setSpanI (i : Nat) (a1 : Int32) (a2 : Int32) (a3 : Int32) : Nat → Int32 → IM → IM
  | 0 => fun _ I => I
  | n + 1 => fun v4 I => (if (I (17 + 4 * i) 9) < v4 then I else (if 24 ≤ v4 then I else (if (I (17 + 4 * i) 0) = 4 then (if hs (I (17 + 4 * i) 10) (v4 - v4 / 6 * 6) then (jX8_setSpanI i a1 a2 a3 n (v4 + 1) (up2 I (17 + 4 * i) 11 ((I (17 + 4 * i) 11) ||| ((1 : Int32) <<< (v4 &&& 31))))) else (jX8_setSpanI i a1 a2 a3 n (v4 + 1) I)) else (jX8_setSpanI i a1 a2 a3 n (v4 + 1) (up2 I (17 + 4 * i) 11 ((I (17 + 4 * i) 11) ||| ((1 : Int32) <<< (v4 &&& 31))))))))
def jX8_setSpanO (i : Nat) (a1 : Int32) (a2 : Int32) (a3 : Int32) : Nat → Int32 → IM → Prop
  | 0 => fun _ _ => False
  | n + 1 => fun v4 I => ((((I (17 + 4 * i) 9) < v4) → True) ∧ ((¬ (I (17 + 4 * i) 9) < v4) → (((24 ≤ v4) → True) ∧ ((¬ 24 ≤ v4) → (((¬ (I (17 + 4 * i) 0) = 4) → (jX8_setSpanO i a1 a2 a3 n (v4 + 1) (up2 I (17 + 4 * i) 11 ((I (17 + 4 * i) 11) ||| ((1 : Int32) <<< (v4 &&& 31)))))) ∧ (((I (17 + 4 * i) 0) = 4) → (((¬ (hs (I (17 + 4 * i) 10) (v4 - v4 / 6 * 6))) → (jX8_setSpanO i a1 a2 a3 n (v4 + 1) I)) ∧ ((hs (I (17 + 4 * i) 10) (v4 - v4 / 6 * 6)) → (jX8_setSpanO i a1 a2 a3 n (v4 + 1) (up2 I (17 + 4 * i) 11 ((I (17 + 4 * i) 11) ||| ((1 : Int32) <<< (v4 &&& 31)))))))))))))
theorem jX8_setSpanI_26 (i : Nat) (a1 : Int32) (a2 : Int32) (a3 : Int32) (n : Nat) (v4 : Int32) (I : IM) : jX8_setSpanI i a1 a2 a3 (n + 1) v4 I = (if (I (17 + 4 * i) 9) < v4 then I else (if 24 ≤ v4 then I else (if (I (17 + 4 * i) 0) = 4 then (if hs (I (17 + 4 * i) 10) (v4 - v4 / 6 * 6) then (jX8_setSpanI i a1 a2 a3 n (v4 + 1) (up2 I (17 + 4 * i) 11 ((I (17 + 4 * i) 11) ||| ((1 : Int32) <<< (v4 &&& 31))))) else (jX8_setSpanI i a1 a2 a3 n (v4 + 1) I)) else (jX8_setSpanI i a1 a2 a3 n (v4 + 1) (up2 I (17 + 4 * i) 11 ((I (17 + 4 * i) 11) ||| ((1 : Int32) <<< (v4 &&& 31)))))))) := rfl
theorem jX8_setSpanO_26 (i : Nat) (a1 : Int32) (a2 : Int32) (a3 : Int32) (n : Nat) (v4 : Int32) (I : IM) : jX8_setSpanO i a1 a2 a3 (n + 1) v4 I = ((((I (17 + 4 * i) 9) < v4) → True) ∧ ((¬ (I (17 + 4 * i) 9) < v4) → (((24 ≤ v4) → True) ∧ ((¬ 24 ≤ v4) → (((¬ (I (17 + 4 * i) 0) = 4) → (jX8_setSpanO i a1 a2 a3 n (v4 + 1) (up2 I (17 + 4 * i) 11 ((I (17 + 4 * i) 11) ||| ((1 : Int32) <<< (v4 &&& 31)))))) ∧ (((I (17 + 4 * i) 0) = 4) → (((¬ (hs (I (17 + 4 * i) 10) (v4 - v4 / 6 * 6))) → (jX8_setSpanO i a1 a2 a3 n (v4 + 1) I)) ∧ ((hs (I (17 + 4 * i) 10) (v4 - v4 / 6 * 6)) → (jX8_setSpanO i a1 a2 a3 n (v4 + 1) (up2 I (17 + 4 * i) 11 ((I (17 + 4 * i) 11) ||| ((1 : Int32) <<< (v4 &&& 31))))))))))))) := rfl
def jX8_setSpan (I : IM) (i : Nat) (a1 : Int32) (a2 : Int32) (a3 : Int32) : IM := (jX8_setSpanI i a1 a2 a3 FU a1 (up2 (up2 (up2 (up2 I (17 + 4 * i) 8 a1) (17 + 4 * i) 9 a2) (17 + 4 * i) 10 a3) (17 + 4 * i) 11 0))
def jX8_setSpanK (I : IM) (i : Nat) (a1 : Int32) (a2 : Int32) (a3 : Int32) : Prop := (jX8_setSpanO i a1 a2 a3 FU a1 (up2 (up2 (up2 (up2 I (17 + 4 * i) 8 a1) (17 + 4 * i) 9 a2) (17 + 4 * i) 10 a3) (17 + 4 * i) 11 0))
set_option maxRecDepth 10000 in
set_option maxHeartbeats 1000000 in
theorem uX8_setSpan (d : Nat) {T : Topo} (hT : Lay T) (i : Nat) (a1 : Int32) (a2 : Int32) (a3 : Int32) (hi : i < 8)  {R : IM} : ∀ n : Nat, (∀ (v4 : Int32) (I : IM), jX8_setSpanO i a1 a2 a3 n v4 I → jX8_setSpanI i a1 a2 a3 n v4 I = R → J (d + 1) mX8_setSpan (PV (fun T' I' => T' = T ∧ I' = R)) 0 0 26 [some (.ref (17 + 4 * i)), none, none, none, some (.int v4)] [] T I 0 0) := by
  intro n
  induction n with
  | zero => exact fun _ _ hz => hz.elim
  | succ n ih =>
    exact fun v4 I hok hit => by
        rw [jX8_setSpanO_26] at hok
        exact sX8_setSpan_26 d hT i a1 a2 a3 hi  (K26 := fun w4 I_ => (jX8_setSpanO i a1 a2 a3 n w4 I_ ∧ jX8_setSpanI i a1 a2 a3 n w4 I_ = R)) (fun w4 I_ hw => ih w4 I_ hw.1 hw.2) v4 I (by
          unfold fX8_setSpan_26
          exact ⟨fun hc1 => ⟨rfl, by rw [jX8_setSpanI_26, if_pos hc1] at hit; exact hit⟩, fun hc1 => ⟨fun hc2 => ⟨rfl, by rw [jX8_setSpanI_26, if_neg hc1, if_pos hc2] at hit; exact hit⟩, fun hc2 => ⟨fun hc3 => ⟨(((hok).2 hc1).2 hc2).1 hc3, by rw [jX8_setSpanI_26, if_neg hc1, if_neg hc2, if_neg hc3] at hit; exact hit⟩, fun hc3 => ⟨fun hc4 => ⟨((((hok).2 hc1).2 hc2).2 hc3).1 hc4, by rw [jX8_setSpanI_26, if_neg hc1, if_neg hc2, if_pos hc3, if_neg hc4] at hit; exact hit⟩, fun hc4 => ⟨((((hok).2 hc1).2 hc2).2 hc3).2 hc4, by rw [jX8_setSpanI_26, if_neg hc1, if_neg hc2, if_pos hc3, if_pos hc4] at hit; exact hit⟩⟩⟩⟩⟩)
set_option maxRecDepth 10000 in
set_option maxHeartbeats 1000000 in
theorem qX8_setSpan (d : Nat) {T : Topo} {I : IM} (hT : Lay T) (i : Nat) (hi : i < 8) (a1 : Int32) (a2 : Int32) (a3 : Int32)  (hp : (jX8_setSpanK I i a1 a2 a3)) : CtV (d + 1) mX8_setSpan [.ref (17 + 4 * i), .int a1, .int a2, .int a3] T I (fun J_ => J_ = (jX8_setSpan I i a1 a2 a3)) := by
  unfold jX8_setSpanK at hp
  exact Ct.ofJ (by decide +kernel) rfl (by intro v hv; revert v hv; simp [Value.category]) rfl (sX8_setSpan_0 d hT i a1 a2 a3 hi  (K26 := fun w4 I_ => (jX8_setSpanO i a1 a2 a3 FU w4 I_ ∧ jX8_setSpanI i a1 a2 a3 FU w4 I_ = (jX8_setSpan I i a1 a2 a3))) (fun w4 I_ hw => uX8_setSpan d hT i a1 a2 a3 hi  FU w4 I_ hw.1 hw.2) I (by
    unfold fX8_setSpan_0
    exact ⟨hp, rfl⟩))

def fX8_setTerms_0 (T : Topo) (i : Nat) (a1 : Int32) (a2 : Int32) (a3 : Int32) (Q : Topo → IM → Prop)  (I : IM) : Prop :=
  Q T (up2 (up2 (up2 I (17 + 4 * i) 5 a1) (17 + 4 * i) 6 a2) (17 + 4 * i) 7 a3)
set_option maxHeartbeats 4000000 in
set_option maxRecDepth 100000 in
theorem sX8_setTerms_0 (d : Nat) {T : Topo} (hT : Lay T) (i : Nat) (a1 : Int32) (a2 : Int32) (a3 : Int32) (hi : i < 8)   {Q : Topo → IM → Prop}   (I : IM) (h : fX8_setTerms_0 T i a1 a2 a3 Q  I) : J (d + 0) mX8_setTerms (PV Q) 0 0 0 [some (.ref (17 + 4 * i)), some (.int a1), some (.int a2), some (.int a3)] [] T I 0 0 := by
  unfold fX8_setTerms_0 at h
  refine J.aload_n dX8_setTerms_0 rfl rfl ?_
  refine J.iload_n dX8_setTerms_1 rfl rfl ?_
  refine J.putI dX8_setTerms_2 fX8_18 (hT.sliceK hi) rfl ?_
  refine J.aload_n dX8_setTerms_5 rfl rfl ?_
  refine J.iload_n dX8_setTerms_6 rfl rfl ?_
  refine J.putI dX8_setTerms_7 fX8_22 (hT.sliceK hi) rfl ?_
  refine J.aload_n dX8_setTerms_10 rfl rfl ?_
  refine J.atpc (pc' := 11) rfl ?_
  refine J.iload_n dX8_setTerms_11 rfl rfl ?_
  refine J.putI dX8_setTerms_12 fX8_25 (hT.sliceK hi) rfl ?_
  exact J.vretQ dX8_setTerms_15 rfl (Nat.le_refl _) (Nat.le_refl _) h
set_option maxHeartbeats 4000000 in
set_option maxRecDepth 100000 in
theorem wX8_setTerms (d : Nat) {T : Topo} (hT : Lay T) (i : Nat) (a1 : Int32) (a2 : Int32) (a3 : Int32) (hi : i < 8)  {Q : Topo → IM → Prop} {I : IM} (h : fX8_setTerms_0 T i a1 a2 a3 Q I) : Ct (d + 0) mX8_setTerms [.ref (17 + 4 * i), .int a1, .int a2, .int a3] T I 0 0 (PV Q) :=
  Ct.ofJ (by decide +kernel) rfl (by intro v hv; revert v hv; simp [Value.category]) rfl (sX8_setTerms_0 d hT i a1 a2 a3 hi  I h)

def jX8_setTermsM (I : IM) (i : Nat) (a1 : Int32) (a2 : Int32) (a3 : Int32) : IM := (up2 (up2 (up2 I (17 + 4 * i) 5 a1) (17 + 4 * i) 6 a2) (17 + 4 * i) 7 a3)
set_option maxRecDepth 10000 in
theorem qX8_setTerms (d : Nat) {T : Topo} {I : IM} (hT : Lay T) (i : Nat) (hi : i < 8) (a1 : Int32) (a2 : Int32) (a3 : Int32)   : CtV (d + 0) mX8_setTerms [.ref (17 + 4 * i), .int a1, .int a2, .int a3] T I (fun J_ => J_ = (jX8_setTermsM I i a1 a2 a3)) :=
  wX8_setTerms d hT i a1 a2 a3 hi  (by
  unfold fX8_setTerms_0
  exact ⟨rfl, by unfold jX8_setTermsM; rfl⟩)

def fX8_isOf_0 (T : Topo) (i : Nat) (a1 : Int32) (Q : Int32 → Topo → IM → Prop) (K7 : Int32 → Int32 → IM → Prop) (I : IM) : Prop :=
  K7 (I (17 + 4 * i) 0) 0 I
def fX8_isOf_7 (T : Topo) (i : Nat) (a1 : Int32) (Q : Int32 → Topo → IM → Prop) (K7 : Int32 → Int32 → IM → Prop) (v2 v3 : Int32) (I : IM) : Prop :=
  (((5 ≤ v3) → Q 0 T I) ∧ ((¬ 5 ≤ v3) → (((v2 < 0) → Q 0 T I) ∧ ((¬ v2 < 0) → (((5 ≤ v2) → Q 0 T I) ∧ ((¬ 5 ≤ v2) → (((¬ v2 = a1) → (vp_in v2 5 ∧ K7 (abv v2.toNatClampNeg) (v3 + 1) I)) ∧ ((v2 = a1) → Q 1 T I))))))))
set_option maxHeartbeats 4000000 in
set_option maxRecDepth 100000 in
theorem sX8_isOf_0 (d : Nat) {T : Topo} (hT : Lay T) (i : Nat) (a1 : Int32) (hi : i < 8)   {Q : Int32 → Topo → IM → Prop} {K7 : Int32 → Int32 → IM → Prop} (hK7 : ∀ (v2 v3 : Int32) (I : IM), K7 v2 v3 I → J (d + 0) mX8_isOf (PI Q) 0 0 7 [none, some (.int a1), some (.int v2), some (.int v3)] [] T I 0 0) (I : IM) (h : fX8_isOf_0 T i a1 Q K7 I) : J (d + 0) mX8_isOf (PI Q) 0 0 0 [some (.ref (17 + 4 * i)), some (.int a1), none, none] [] T I 0 0 := by
  unfold fX8_isOf_0 at h
  refine J.aload_n dX8_isOf_0 rfl rfl ?_
  refine J.getI dX8_isOf_1 fX8_40 (hT.sliceK hi) rfl ?_
  refine J.istore_n (ls' := [some (.ref (17 + 4 * i)), some (.int a1), some (.int (I (17 + 4 * i) 0)), none]) dX8_isOf_4 rfl rfl rfl ?_
  refine J.iconst (v := 0) dX8_isOf_5 (by decide) ?_
  refine J.istore_n (ls' := [some (.ref (17 + 4 * i)), some (.int a1), some (.int (I (17 + 4 * i) 0)), some (.int 0)]) dX8_isOf_6 rfl rfl rfl ?_
  exact J.weaken (ls' := [none, some (.int a1), some (.int (I (17 + 4 * i) 0)), some (.int 0)]) (And.intro rfl (And.intro rfl (And.intro rfl trivial))) (hK7 (I (17 + 4 * i) 0) 0 I h)
set_option maxHeartbeats 4000000 in
set_option maxRecDepth 100000 in
theorem sX8_isOf_7 (d : Nat) {T : Topo} (hT : Lay T) (i : Nat) (a1 : Int32) (hi : i < 8)   {Q : Int32 → Topo → IM → Prop} {K7 : Int32 → Int32 → IM → Prop} (hK7 : ∀ (v2 v3 : Int32) (I : IM), K7 v2 v3 I → J (d + 0) mX8_isOf (PI Q) 0 0 7 [none, some (.int a1), some (.int v2), some (.int v3)] [] T I 0 0) (v2 v3 : Int32) (I : IM) (h : fX8_isOf_7 T i a1 Q K7 v2 v3 I) : J (d + 0) mX8_isOf (PI Q) 0 0 7 [none, some (.int a1), some (.int v2), some (.int v3)] [] T I 0 0 := by
  unfold fX8_isOf_7 at h
  refine J.iload_n dX8_isOf_7 rfl rfl ?_
  refine J.iconst (v := 5) dX8_isOf_8 (by decide) ?_
  refine J.icmp_ge (tgt := 40) dX8_isOf_9 (by decide) (fun hc1 => ?_) (fun hc1 => ?_)
  · have h := h.1 hc1
    refine J.iconst (v := 0) dX8_isOf_40 (by decide) ?_
    exact J.zretQ dX8_isOf_41 rfl (Or.inl rfl) (Nat.le_refl _) (Nat.le_refl _) h
  · have h := h.2 hc1
    refine J.iload_n dX8_isOf_12 rfl rfl ?_
    refine J.if_lt (tgt := 40) dX8_isOf_13 (by decide) (fun hc2 => ?_) (fun hc2 => ?_)
    · have h := h.1 hc2
      refine J.iconst (v := 0) dX8_isOf_40 (by decide) ?_
      exact J.zretQ dX8_isOf_41 rfl (Or.inl rfl) (Nat.le_refl _) (Nat.le_refl _) h
    · have h := h.2 hc2
      refine J.iload_n dX8_isOf_16 rfl rfl ?_
      refine J.iconst (v := 5) dX8_isOf_17 (by decide) ?_
      refine J.icmp_ge (tgt := 40) dX8_isOf_18 (by decide) (fun hc3 => ?_) (fun hc3 => ?_)
      · have h := h.1 hc3
        refine J.iconst (v := 0) dX8_isOf_40 (by decide) ?_
        exact J.zretQ dX8_isOf_41 rfl (Or.inl rfl) (Nat.le_refl _) (Nat.le_refl _) h
      · have h := h.2 hc3
        refine J.iload_n dX8_isOf_21 rfl rfl ?_
        refine J.iload_n dX8_isOf_22 rfl rfl ?_
        refine J.icmp_ne (tgt := 28) dX8_isOf_23 (by decide) (fun hc4 => ?_) (fun hc4 => ?_)
        · have h := h.1 hc4
          obtain ⟨hs5, h⟩ := h
          refine J.above dX8_isOf_28 dX8_isOf_31 dX8_isOf_32 fnX8_50 rfl hs5 ?_
          refine J.istore_n (ls' := [none, some (.int a1), some (.int (abv v2.toNatClampNeg)), some (.int v3)]) dX8_isOf_33 rfl rfl rfl ?_
          refine J.iinc (v := (v3 + 1)) (ls' := [none, some (.int a1), some (.int (abv v2.toNatClampNeg)), some (.int (v3 + 1))]) dX8_isOf_34 rfl (by rfl) rfl ?_
          refine J.goto (tgt := 7) dX8_isOf_37 (by decide) ?_
          exact J.weaken (ls' := [none, some (.int a1), some (.int (abv v2.toNatClampNeg)), some (.int (v3 + 1))]) (And.intro rfl (And.intro rfl (And.intro rfl trivial))) (hK7 (abv v2.toNatClampNeg) (v3 + 1) I h)
        · have h := h.2 hc4
          refine J.iconst (v := 1) dX8_isOf_26 (by decide) ?_
          exact J.zretQ dX8_isOf_27 rfl (Or.inr rfl) (Nat.le_refl _) (Nat.le_refl _) h
set_option maxHeartbeats 4000000 in
set_option maxRecDepth 100000 in
theorem wX8_isOf (d : Nat) {T : Topo} (hT : Lay T) (i : Nat) (a1 : Int32) (hi : i < 8)  {Q : Int32 → Topo → IM → Prop} (V7 : Int32 → Int32 → IM → Prop) (μ7 : Int32 → Int32 → IM → Nat) (vc7 : ∀ (v2 v3 : Int32) (I : IM), V7 v2 v3 I → fX8_isOf_7 T i a1 Q (fun w2 w3 I_ => V7 w2 w3 I_ ∧ μ7 w2 w3 I_ < μ7 v2 v3 I) v2 v3 I) {I : IM} (h : fX8_isOf_0 T i a1 Q V7 I) : Ct (d + 0) mX8_isOf [.ref (17 + 4 * i), .int a1] T I 0 0 (PI Q) := by
  have all : ∀ n : Nat, (∀ (v2 v3 : Int32) (I : IM), V7 v2 v3 I → μ7 v2 v3 I < n → J (d + 0) mX8_isOf (PI Q) 0 0 7 [none, some (.int a1), some (.int v2), some (.int v3)] [] T I 0 0) := by
    intro n
    induction n with
    | zero => exact fun _ _ _ _ hn => absurd hn (Nat.not_lt_zero _)
    | succ n ih =>
      exact fun v2 v3 I hv hn => sX8_isOf_7 d hT i a1 hi  (fun w2 w3 I_ hw => ih w2 w3 I_ hw.1 (by have := hw.2; omega)) v2 v3 I (vc7 v2 v3 I hv)
  exact Ct.ofJ (by decide +kernel) rfl (by intro v hv; revert v hv; simp [Value.category]) rfl (sX8_isOf_0 d hT i a1 hi  (fun w2 w3 I_ hw => (all (μ7 w2 w3 I_ + 1)) w2 w3 I_ hw (Nat.lt_succ_self _)) I h)

def jX8_isOfI (i : Nat) (a1 : Int32) : Nat → Int32 → Int32 → IM → Int32
  | 0 => fun _ _ I => 0
  | n + 1 => fun v2 v3 I => (if 5 ≤ v3 then 0 else (if v2 < 0 then 0 else (if 5 ≤ v2 then 0 else (if v2 = a1 then 1 else (jX8_isOfI i a1 n (abv v2.toNatClampNeg) (v3 + 1) I)))))
def jX8_isOfO (i : Nat) (a1 : Int32) : Nat → Int32 → Int32 → IM → Prop
  | 0 => fun _ _ _ => False
  | n + 1 => fun v2 v3 I => (((5 ≤ v3) → True) ∧ ((¬ 5 ≤ v3) → (((v2 < 0) → True) ∧ ((¬ v2 < 0) → (((5 ≤ v2) → True) ∧ ((¬ 5 ≤ v2) → (((¬ v2 = a1) → (vp_in v2 5 ∧ (jX8_isOfO i a1 n (abv v2.toNatClampNeg) (v3 + 1) I))) ∧ ((v2 = a1) → True))))))))
theorem jX8_isOfI_7 (i : Nat) (a1 : Int32) (n : Nat) (v2 v3 : Int32) (I : IM) : jX8_isOfI i a1 (n + 1) v2 v3 I = (if 5 ≤ v3 then 0 else (if v2 < 0 then 0 else (if 5 ≤ v2 then 0 else (if v2 = a1 then 1 else (jX8_isOfI i a1 n (abv v2.toNatClampNeg) (v3 + 1) I))))) := rfl
theorem jX8_isOfO_7 (i : Nat) (a1 : Int32) (n : Nat) (v2 v3 : Int32) (I : IM) : jX8_isOfO i a1 (n + 1) v2 v3 I = (((5 ≤ v3) → True) ∧ ((¬ 5 ≤ v3) → (((v2 < 0) → True) ∧ ((¬ v2 < 0) → (((5 ≤ v2) → True) ∧ ((¬ 5 ≤ v2) → (((¬ v2 = a1) → (vp_in v2 5 ∧ (jX8_isOfO i a1 n (abv v2.toNatClampNeg) (v3 + 1) I))) ∧ ((v2 = a1) → True)))))))) := rfl
def jX8_isOf (I : IM) (i : Nat) (a1 : Int32) : Int32 := (jX8_isOfI i a1 FU (I (17 + 4 * i) 0) 0 I)
def jX8_isOfK (I : IM) (i : Nat) (a1 : Int32) : Prop := (jX8_isOfO i a1 FU (I (17 + 4 * i) 0) 0 I)
set_option maxRecDepth 10000 in
set_option maxHeartbeats 1000000 in
theorem uX8_isOf (d : Nat) {T : Topo} (hT : Lay T) (i : Nat) (a1 : Int32) (hi : i < 8)  {R : Int32} {I00 : IM} : ∀ n : Nat, (∀ (v2 v3 : Int32) (I : IM), I = I00 → jX8_isOfO i a1 n v2 v3 I → jX8_isOfI i a1 n v2 v3 I = R → J (d + 0) mX8_isOf (PI (fun x T' I' => x = R ∧ T' = T ∧ I' = I00)) 0 0 7 [none, some (.int a1), some (.int v2), some (.int v3)] [] T I 0 0) := by
  intro n
  induction n with
  | zero => exact fun _ _ _ _ hz => hz.elim
  | succ n ih =>
    exact fun v2 v3 I hI hok hit => by
        rw [jX8_isOfO_7] at hok
        exact sX8_isOf_7 d hT i a1 hi  (K7 := fun w2 w3 I_ => (jX8_isOfO i a1 n w2 w3 I_ ∧ jX8_isOfI i a1 n w2 w3 I_ = R) ∧ I_ = I00) (fun w2 w3 I_ hw => ih w2 w3 I_ hw.2 hw.1.1 hw.1.2) v2 v3 I (by
          unfold fX8_isOf_7
          exact ⟨fun hc1 => ⟨by rw [jX8_isOfI_7, if_pos hc1] at hit; exact hit, rfl, hI⟩, fun hc1 => ⟨fun hc2 => ⟨by rw [jX8_isOfI_7, if_neg hc1, if_pos hc2] at hit; exact hit, rfl, hI⟩, fun hc2 => ⟨fun hc3 => ⟨by rw [jX8_isOfI_7, if_neg hc1, if_neg hc2, if_pos hc3] at hit; exact hit, rfl, hI⟩, fun hc3 => ⟨fun hc4 => ⟨(((((hok).2 hc1).2 hc2).2 hc3).1 hc4).1, ⟨⟨(((((hok).2 hc1).2 hc2).2 hc3).1 hc4).2, by rw [jX8_isOfI_7, if_neg hc1, if_neg hc2, if_neg hc3, if_neg hc4] at hit; exact hit⟩, hI⟩⟩, fun hc4 => ⟨by rw [jX8_isOfI_7, if_neg hc1, if_neg hc2, if_neg hc3, if_pos hc4] at hit; exact hit, rfl, hI⟩⟩⟩⟩⟩)
set_option maxRecDepth 10000 in
set_option maxHeartbeats 1000000 in
theorem qX8_isOf (d : Nat) {T : Topo} {I : IM} (hT : Lay T) (i : Nat) (hi : i < 8) (a1 : Int32)  (hp : (jX8_isOfK I i a1)) : CtP (d + 0) mX8_isOf [.ref (17 + 4 * i), .int a1] T I (jX8_isOf I i a1) := by
  unfold jX8_isOfK at hp
  exact Ct.ofJ (by decide +kernel) rfl (by intro v hv; revert v hv; simp [Value.category]) rfl (sX8_isOf_0 d hT i a1 hi  (K7 := fun w2 w3 I_ => (jX8_isOfO i a1 FU w2 w3 I_ ∧ jX8_isOfI i a1 FU w2 w3 I_ = (jX8_isOf I i a1)) ∧ I_ = I) (fun w2 w3 I_ hw => uX8_isOf d hT i a1 hi  FU w2 w3 I_ hw.2 hw.1.1 hw.1.2) I (by
    unfold fX8_isOf_0
    exact ⟨⟨hp, rfl⟩, rfl⟩))

theorem swd_0_9 {x : Int32} (h : x.toInt < 0 ∨ 9 < x.toInt) : ¬ x = 0 ∧ ¬ x = 1 ∧ ¬ x = 2 ∧ ¬ x = 3 ∧ ¬ x = 4 ∧ ¬ x = 5 ∧ ¬ x = 6 ∧ ¬ x = 7 ∧ ¬ x = 8 ∧ ¬ x = 9 := by
  refine ⟨?_, ?_, ?_, ?_, ?_, ?_, ?_, ?_, ?_, ?_⟩ <;> (intro e; subst e; revert h; decide)
theorem sw_0_9 (x : Int32) : x = 0 ∨ x = 1 ∨ x = 2 ∨ x = 3 ∨ x = 4 ∨ x = 5 ∨ x = 6 ∨ x = 7 ∨ x = 8 ∨ x = 9 ∨ (x.toInt < 0 ∨ 9 < x.toInt) := by
  by_cases hr : x.toInt < 0 ∨ 9 < x.toInt
  · exact Or.inr (Or.inr (Or.inr (Or.inr (Or.inr (Or.inr (Or.inr (Or.inr (Or.inr (Or.inr (hr))))))))))
  · have hc : x.toInt = 0 ∨ x.toInt = 1 ∨ x.toInt = 2 ∨ x.toInt = 3 ∨ x.toInt = 4 ∨ x.toInt = 5 ∨ x.toInt = 6 ∨ x.toInt = 7 ∨ x.toInt = 8 ∨ x.toInt = 9 := by omega
    rcases hc with hc | hc | hc | hc | hc | hc | hc | hc | hc | hc
    · exact Or.inl (Int32.toInt_inj.mp (hc.trans (by decide)))
    · exact Or.inr (Or.inl (Int32.toInt_inj.mp (hc.trans (by decide))))
    · exact Or.inr (Or.inr (Or.inl (Int32.toInt_inj.mp (hc.trans (by decide)))))
    · exact Or.inr (Or.inr (Or.inr (Or.inl (Int32.toInt_inj.mp (hc.trans (by decide))))))
    · exact Or.inr (Or.inr (Or.inr (Or.inr (Or.inl (Int32.toInt_inj.mp (hc.trans (by decide)))))))
    · exact Or.inr (Or.inr (Or.inr (Or.inr (Or.inr (Or.inl (Int32.toInt_inj.mp (hc.trans (by decide))))))))
    · exact Or.inr (Or.inr (Or.inr (Or.inr (Or.inr (Or.inr (Or.inl (Int32.toInt_inj.mp (hc.trans (by decide)))))))))
    · exact Or.inr (Or.inr (Or.inr (Or.inr (Or.inr (Or.inr (Or.inr (Or.inl (Int32.toInt_inj.mp (hc.trans (by decide))))))))))
    · exact Or.inr (Or.inr (Or.inr (Or.inr (Or.inr (Or.inr (Or.inr (Or.inr (Or.inl (Int32.toInt_inj.mp (hc.trans (by decide)))))))))))
    · exact Or.inr (Or.inr (Or.inr (Or.inr (Or.inr (Or.inr (Or.inr (Or.inr (Or.inr (Or.inl (Int32.toInt_inj.mp (hc.trans (by decide))))))))))))

def fX8_askedFor_0 (T : Topo) (i : Nat) (a1 : Int32) (Q : Int32 → Topo → IM → Prop)  (I : IM) : Prop :=
  ((a1 = 0 → Q (I (17 + 4 * i) 0) T I) ∧ (a1 = 1 → Q (I (17 + 4 * i) 1) T I) ∧ (a1 = 2 → Q (I (17 + 4 * i) 2) T I) ∧ (a1 = 3 → Q (I (17 + 4 * i) 3) T I) ∧ (a1 = 4 → Q (I (17 + 4 * i) 4) T I) ∧ (a1 = 5 → Q (I (17 + 4 * i) 5) T I) ∧ (a1 = 6 → Q (I (17 + 4 * i) 6) T I) ∧ (a1 = 7 → Q (I (17 + 4 * i) 7) T I) ∧ (a1 = 8 → Q (I (17 + 4 * i) 8) T I) ∧ (a1 = 9 → Q (I (17 + 4 * i) 9) T I) ∧ ((a1.toInt < 0 ∨ 9 < a1.toInt) → Q (I (17 + 4 * i) 10) T I))
set_option maxHeartbeats 4000000 in
set_option maxRecDepth 100000 in
theorem sX8_askedFor_0 (d : Nat) {T : Topo} (hT : Lay T) (i : Nat) (a1 : Int32) (hi : i < 8)   {Q : Int32 → Topo → IM → Prop}   (I : IM) (h : fX8_askedFor_0 T i a1 Q  I) : J (d + 0) mX8_askedFor (PI Q) 0 0 0 [some (.ref (17 + 4 * i)), some (.int a1)] [] T I 0 0 := by
  unfold fX8_askedFor_0 at h
  refine J.iload_n dX8_askedFor_0 rfl rfl ?_
  obtain ⟨h0_, h1_, h2_, h3_, h4_, h5_, h6_, h7_, h8_, h9_, hdf⟩ := h
  rcases sw_0_9 a1 with e | e | e | e | e | e | e | e | e | e | e
  · refine J.tableIn (off := 55) (tgt := 56) dX8_askedFor_1 (by rw [e]; decide) (by rw [e]; decide) (by rw [e]; decide) (by decide) ?_
    have h := h0_ e
    refine J.aload_n dX8_askedFor_56 rfl rfl ?_
    refine J.getI dX8_askedFor_57 fX8_40 (hT.sliceK hi) rfl ?_
    exact J.iretQ dX8_askedFor_60 rfl (Nat.le_refl _) (Nat.le_refl _) h
  · refine J.tableIn (off := 60) (tgt := 61) dX8_askedFor_1 (by rw [e]; decide) (by rw [e]; decide) (by rw [e]; decide) (by decide) ?_
    have h := h1_ e
    refine J.aload_n dX8_askedFor_61 rfl rfl ?_
    refine J.getI dX8_askedFor_62 fX8_64 (hT.sliceK hi) rfl ?_
    exact J.iretQ dX8_askedFor_65 rfl (Nat.le_refl _) (Nat.le_refl _) h
  · refine J.tableIn (off := 65) (tgt := 66) dX8_askedFor_1 (by rw [e]; decide) (by rw [e]; decide) (by rw [e]; decide) (by decide) ?_
    have h := h2_ e
    refine J.aload_n dX8_askedFor_66 rfl rfl ?_
    refine J.getI dX8_askedFor_67 fX8_67 (hT.sliceK hi) rfl ?_
    exact J.iretQ dX8_askedFor_70 rfl (Nat.le_refl _) (Nat.le_refl _) h
  · refine J.tableIn (off := 70) (tgt := 71) dX8_askedFor_1 (by rw [e]; decide) (by rw [e]; decide) (by rw [e]; decide) (by decide) ?_
    have h := h3_ e
    refine J.aload_n dX8_askedFor_71 rfl rfl ?_
    refine J.getI dX8_askedFor_72 fX8_54 (hT.sliceK hi) rfl ?_
    exact J.iretQ dX8_askedFor_75 rfl (Nat.le_refl _) (Nat.le_refl _) h
  · refine J.tableIn (off := 75) (tgt := 76) dX8_askedFor_1 (by rw [e]; decide) (by rw [e]; decide) (by rw [e]; decide) (by decide) ?_
    have h := h4_ e
    refine J.aload_n dX8_askedFor_76 rfl rfl ?_
    refine J.getI dX8_askedFor_77 fX8_70 (hT.sliceK hi) rfl ?_
    exact J.iretQ dX8_askedFor_80 rfl (Nat.le_refl _) (Nat.le_refl _) h
  · refine J.tableIn (off := 80) (tgt := 81) dX8_askedFor_1 (by rw [e]; decide) (by rw [e]; decide) (by rw [e]; decide) (by decide) ?_
    have h := h5_ e
    refine J.aload_n dX8_askedFor_81 rfl rfl ?_
    refine J.getI dX8_askedFor_82 fX8_18 (hT.sliceK hi) rfl ?_
    exact J.iretQ dX8_askedFor_85 rfl (Nat.le_refl _) (Nat.le_refl _) h
  · refine J.tableIn (off := 85) (tgt := 86) dX8_askedFor_1 (by rw [e]; decide) (by rw [e]; decide) (by rw [e]; decide) (by decide) ?_
    have h := h6_ e
    refine J.aload_n dX8_askedFor_86 rfl rfl ?_
    refine J.getI dX8_askedFor_87 fX8_22 (hT.sliceK hi) rfl ?_
    exact J.iretQ dX8_askedFor_90 rfl (Nat.le_refl _) (Nat.le_refl _) h
  · refine J.tableIn (off := 90) (tgt := 91) dX8_askedFor_1 (by rw [e]; decide) (by rw [e]; decide) (by rw [e]; decide) (by decide) ?_
    have h := h7_ e
    refine J.aload_n dX8_askedFor_91 rfl rfl ?_
    refine J.getI dX8_askedFor_92 fX8_25 (hT.sliceK hi) rfl ?_
    exact J.iretQ dX8_askedFor_95 rfl (Nat.le_refl _) (Nat.le_refl _) h
  · refine J.tableIn (off := 95) (tgt := 96) dX8_askedFor_1 (by rw [e]; decide) (by rw [e]; decide) (by rw [e]; decide) (by decide) ?_
    have h := h8_ e
    refine J.aload_n dX8_askedFor_96 rfl rfl ?_
    refine J.getI dX8_askedFor_97 fX8_28 (hT.sliceK hi) rfl ?_
    exact J.iretQ dX8_askedFor_100 rfl (Nat.le_refl _) (Nat.le_refl _) h
  · refine J.tableIn (off := 100) (tgt := 101) dX8_askedFor_1 (by rw [e]; decide) (by rw [e]; decide) (by rw [e]; decide) (by decide) ?_
    have h := h9_ e
    refine J.aload_n dX8_askedFor_101 rfl rfl ?_
    refine J.getI dX8_askedFor_102 fX8_31 (hT.sliceK hi) rfl ?_
    exact J.iretQ dX8_askedFor_105 rfl (Nat.le_refl _) (Nat.le_refl _) h
  · refine J.tableOut (tgt := 106) dX8_askedFor_1 e (by decide) ?_
    have h := hdf e
    refine J.aload_n dX8_askedFor_106 rfl rfl ?_
    refine J.getI dX8_askedFor_107 fX8_34 (hT.sliceK hi) rfl ?_
    exact J.iretQ dX8_askedFor_110 rfl (Nat.le_refl _) (Nat.le_refl _) h
set_option maxHeartbeats 4000000 in
set_option maxRecDepth 100000 in
theorem wX8_askedFor (d : Nat) {T : Topo} (hT : Lay T) (i : Nat) (a1 : Int32) (hi : i < 8)  {Q : Int32 → Topo → IM → Prop} {I : IM} (h : fX8_askedFor_0 T i a1 Q I) : Ct (d + 0) mX8_askedFor [.ref (17 + 4 * i), .int a1] T I 0 0 (PI Q) :=
  Ct.ofJ (by decide +kernel) rfl (by intro v hv; revert v hv; simp [Value.category]) rfl (sX8_askedFor_0 d hT i a1 hi  I h)

def jX8_askedFor (I : IM) (i : Nat) (a1 : Int32) : Int32 := (if a1 = 0 then (I (17 + 4 * i) 0) else (if a1 = 1 then (I (17 + 4 * i) 1) else (if a1 = 2 then (I (17 + 4 * i) 2) else (if a1 = 3 then (I (17 + 4 * i) 3) else (if a1 = 4 then (I (17 + 4 * i) 4) else (if a1 = 5 then (I (17 + 4 * i) 5) else (if a1 = 6 then (I (17 + 4 * i) 6) else (if a1 = 7 then (I (17 + 4 * i) 7) else (if a1 = 8 then (I (17 + 4 * i) 8) else (if a1 = 9 then (I (17 + 4 * i) 9) else (I (17 + 4 * i) 10)))))))))))
set_option maxRecDepth 10000 in
theorem qX8_askedFor (d : Nat) {T : Topo} {I : IM} (hT : Lay T) (i : Nat) (hi : i < 8) (a1 : Int32)   : CtP (d + 0) mX8_askedFor [.ref (17 + 4 * i), .int a1] T I ((jX8_askedFor I i a1)) :=
  wX8_askedFor d hT i a1 hi  (by
  unfold fX8_askedFor_0
  exact ⟨fun hw1 => ⟨by unfold jX8_askedFor; rw [if_pos hw1], rfl, rfl⟩, fun hw1 => ⟨by unfold jX8_askedFor; rw [if_neg (show ¬ a1 = 0 by rw [hw1]; decide), if_pos hw1], rfl, rfl⟩, fun hw1 => ⟨by unfold jX8_askedFor; rw [if_neg (show ¬ a1 = 0 by rw [hw1]; decide), if_neg (show ¬ a1 = 1 by rw [hw1]; decide), if_pos hw1], rfl, rfl⟩, fun hw1 => ⟨by unfold jX8_askedFor; rw [if_neg (show ¬ a1 = 0 by rw [hw1]; decide), if_neg (show ¬ a1 = 1 by rw [hw1]; decide), if_neg (show ¬ a1 = 2 by rw [hw1]; decide), if_pos hw1], rfl, rfl⟩, fun hw1 => ⟨by unfold jX8_askedFor; rw [if_neg (show ¬ a1 = 0 by rw [hw1]; decide), if_neg (show ¬ a1 = 1 by rw [hw1]; decide), if_neg (show ¬ a1 = 2 by rw [hw1]; decide), if_neg (show ¬ a1 = 3 by rw [hw1]; decide), if_pos hw1], rfl, rfl⟩, fun hw1 => ⟨by unfold jX8_askedFor; rw [if_neg (show ¬ a1 = 0 by rw [hw1]; decide), if_neg (show ¬ a1 = 1 by rw [hw1]; decide), if_neg (show ¬ a1 = 2 by rw [hw1]; decide), if_neg (show ¬ a1 = 3 by rw [hw1]; decide), if_neg (show ¬ a1 = 4 by rw [hw1]; decide), if_pos hw1], rfl, rfl⟩, fun hw1 => ⟨by unfold jX8_askedFor; rw [if_neg (show ¬ a1 = 0 by rw [hw1]; decide), if_neg (show ¬ a1 = 1 by rw [hw1]; decide), if_neg (show ¬ a1 = 2 by rw [hw1]; decide), if_neg (show ¬ a1 = 3 by rw [hw1]; decide), if_neg (show ¬ a1 = 4 by rw [hw1]; decide), if_neg (show ¬ a1 = 5 by rw [hw1]; decide), if_pos hw1], rfl, rfl⟩, fun hw1 => ⟨by unfold jX8_askedFor; rw [if_neg (show ¬ a1 = 0 by rw [hw1]; decide), if_neg (show ¬ a1 = 1 by rw [hw1]; decide), if_neg (show ¬ a1 = 2 by rw [hw1]; decide), if_neg (show ¬ a1 = 3 by rw [hw1]; decide), if_neg (show ¬ a1 = 4 by rw [hw1]; decide), if_neg (show ¬ a1 = 5 by rw [hw1]; decide), if_neg (show ¬ a1 = 6 by rw [hw1]; decide), if_pos hw1], rfl, rfl⟩, fun hw1 => ⟨by unfold jX8_askedFor; rw [if_neg (show ¬ a1 = 0 by rw [hw1]; decide), if_neg (show ¬ a1 = 1 by rw [hw1]; decide), if_neg (show ¬ a1 = 2 by rw [hw1]; decide), if_neg (show ¬ a1 = 3 by rw [hw1]; decide), if_neg (show ¬ a1 = 4 by rw [hw1]; decide), if_neg (show ¬ a1 = 5 by rw [hw1]; decide), if_neg (show ¬ a1 = 6 by rw [hw1]; decide), if_neg (show ¬ a1 = 7 by rw [hw1]; decide), if_pos hw1], rfl, rfl⟩, fun hw1 => ⟨by unfold jX8_askedFor; rw [if_neg (show ¬ a1 = 0 by rw [hw1]; decide), if_neg (show ¬ a1 = 1 by rw [hw1]; decide), if_neg (show ¬ a1 = 2 by rw [hw1]; decide), if_neg (show ¬ a1 = 3 by rw [hw1]; decide), if_neg (show ¬ a1 = 4 by rw [hw1]; decide), if_neg (show ¬ a1 = 5 by rw [hw1]; decide), if_neg (show ¬ a1 = 6 by rw [hw1]; decide), if_neg (show ¬ a1 = 7 by rw [hw1]; decide), if_neg (show ¬ a1 = 8 by rw [hw1]; decide), if_pos hw1], rfl, rfl⟩, fun hw1 => ⟨by unfold jX8_askedFor; rw [if_neg (swd_0_9 hw1).1, if_neg (swd_0_9 hw1).2.1, if_neg (swd_0_9 hw1).2.2.1, if_neg (swd_0_9 hw1).2.2.2.1, if_neg (swd_0_9 hw1).2.2.2.2.1, if_neg (swd_0_9 hw1).2.2.2.2.2.1, if_neg (swd_0_9 hw1).2.2.2.2.2.2.1, if_neg (swd_0_9 hw1).2.2.2.2.2.2.2.1, if_neg (swd_0_9 hw1).2.2.2.2.2.2.2.2.1, if_neg (swd_0_9 hw1).2.2.2.2.2.2.2.2.2], rfl, rfl⟩⟩)

def fX8_needed_0 (T : Topo) (i : Nat) (Q : Int32 → Topo → IM → Prop)  (I : IM) : Prop :=
  (((¬ (I (17 + 4 * i) 0) = 3) → (((¬ (I (17 + 4 * i) 0) = 2) → Q (I (17 + 4 * i) 3) T I) ∧ (((I (17 + 4 * i) 0) = 2) → Q (I (17 + 4 * i) 5) T I))) ∧ (((I (17 + 4 * i) 0) = 3) → Q 0 T I))
set_option maxHeartbeats 4000000 in
set_option maxRecDepth 100000 in
theorem sX8_needed_0 (d : Nat) {T : Topo} (hT : Lay T) (i : Nat) (hi : i < 8)   {Q : Int32 → Topo → IM → Prop}   (I : IM) (h : fX8_needed_0 T i Q  I) : J (d + 0) mX8_needed (PI Q) 0 0 0 [some (.ref (17 + 4 * i))] [] T I 0 0 := by
  unfold fX8_needed_0 at h
  refine J.aload_n dX8_needed_0 rfl rfl ?_
  refine J.getI dX8_needed_1 fX8_40 (hT.sliceK hi) rfl ?_
  refine J.iconst (v := 3) dX8_needed_4 (by decide) ?_
  refine J.icmp_ne (tgt := 10) dX8_needed_5 (by decide) (fun hc1 => ?_) (fun hc1 => ?_)
  · have h := h.1 hc1
    refine J.aload_n dX8_needed_10 rfl rfl ?_
    refine J.getI dX8_needed_11 fX8_40 (hT.sliceK hi) rfl ?_
    refine J.iconst (v := 2) dX8_needed_14 (by decide) ?_
    refine J.icmp_ne (tgt := 25) dX8_needed_15 (by decide) (fun hc2 => ?_) (fun hc2 => ?_)
    · have h := h.1 hc2
      refine J.aload_n dX8_needed_25 rfl rfl ?_
      refine J.getI dX8_needed_26 fX8_54 (hT.sliceK hi) rfl ?_
      exact J.iretQ dX8_needed_29 rfl (Nat.le_refl _) (Nat.le_refl _) h
    · have h := h.2 hc2
      refine J.aload_n dX8_needed_18 rfl rfl ?_
      refine J.getI dX8_needed_19 fX8_18 (hT.sliceK hi) rfl ?_
      refine J.goto (tgt := 29) dX8_needed_22 (by decide) ?_
      exact J.iretQ dX8_needed_29 rfl (Nat.le_refl _) (Nat.le_refl _) h
  · have h := h.2 hc1
    refine J.iconst (v := 0) dX8_needed_8 (by decide) ?_
    exact J.iretQ dX8_needed_9 rfl (Nat.le_refl _) (Nat.le_refl _) h
set_option maxHeartbeats 4000000 in
set_option maxRecDepth 100000 in
theorem wX8_needed (d : Nat) {T : Topo} (hT : Lay T) (i : Nat) (hi : i < 8)  {Q : Int32 → Topo → IM → Prop} {I : IM} (h : fX8_needed_0 T i Q I) : Ct (d + 0) mX8_needed [.ref (17 + 4 * i)] T I 0 0 (PI Q) :=
  Ct.ofJ (by decide +kernel) rfl (by intro v hv; revert v hv; simp [Value.category]) rfl (sX8_needed_0 d hT i hi  I h)

def jX8_needed (I : IM) (i : Nat) : Int32 := (if (I (17 + 4 * i) 0) = 3 then 0 else (if (I (17 + 4 * i) 0) = 2 then (I (17 + 4 * i) 5) else (I (17 + 4 * i) 3)))
set_option maxRecDepth 10000 in
theorem qX8_needed (d : Nat) {T : Topo} {I : IM} (hT : Lay T) (i : Nat) (hi : i < 8)   : CtP (d + 0) mX8_needed [.ref (17 + 4 * i)] T I ((jX8_needed I i)) :=
  wX8_needed d hT i hi  (by
  unfold fX8_needed_0
  exact ⟨fun hc1 => ⟨fun hc2 => ⟨by unfold jX8_needed; rw [if_neg hc1, if_neg hc2], rfl, rfl⟩, fun hc2 => ⟨by unfold jX8_needed; rw [if_neg hc1, if_pos hc2], rfl, rfl⟩⟩, fun hc1 => ⟨by unfold jX8_needed; rw [if_pos hc1], rfl, rfl⟩⟩)

def fX5_nodesOn_0 (T : Topo) (a1 : Int32) (Q : Int32 → Topo → IM → Prop) (K4 : Int32 → Int32 → IM → Prop) (I : IM) : Prop :=
  K4 0 0 I
def fX5_nodesOn_4 (T : Topo) (a1 : Int32) (Q : Int32 → Topo → IM → Prop) (K4 : Int32 → Int32 → IM → Prop) (v2 v3 : Int32) (I : IM) : Prop :=
  ((((I 1 4) ≤ v3) → Q v2 T I) ∧ ((¬ (I 1 4) ≤ v3) → ((((¬ (hs a1 v3)) → K4 v2 (v3 + 1) I) ∧ ((hs a1 v3) → (vp_in v3 9 ∧ (vp_in v3 9 ∧ K4 (v2 ||| (((1 : Int32) <<< ((I (6 + v3.toNatClampNeg) 0) &&& 31)) ||| ((1 : Int32) <<< ((I (6 + v3.toNatClampNeg) 1) &&& 31)))) (v3 + 1) I)))))))
set_option maxHeartbeats 4000000 in
set_option maxRecDepth 100000 in
theorem sX5_nodesOn_0 (d : Nat) {T : Topo} (hT : Lay T) (a1 : Int32)    {Q : Int32 → Topo → IM → Prop} {K4 : Int32 → Int32 → IM → Prop} (hK4 : ∀ (v2 v3 : Int32) (I : IM), K4 v2 v3 I → J (d + 1) mX5_nodesOn (PI Q) 0 0 4 [some (.ref 1), some (.int a1), some (.int v2), some (.int v3)] [] T I 0 0) (I : IM) (h : fX5_nodesOn_0 T a1 Q K4 I) : J (d + 1) mX5_nodesOn (PI Q) 0 0 0 [some (.ref 1), some (.int a1), none, none] [] T I 0 0 := by
  unfold fX5_nodesOn_0 at h
  refine J.iconst (v := 0) dX5_nodesOn_0 (by decide) ?_
  refine J.istore_n (ls' := [some (.ref 1), some (.int a1), some (.int 0), none]) dX5_nodesOn_1 rfl rfl rfl ?_
  refine J.iconst (v := 0) dX5_nodesOn_2 (by decide) ?_
  refine J.istore_n (ls' := [some (.ref 1), some (.int a1), some (.int 0), some (.int 0)]) dX5_nodesOn_3 rfl rfl rfl ?_
  exact J.weaken (ls' := [some (.ref 1), some (.int a1), some (.int 0), some (.int 0)]) (And.intro rfl (And.intro rfl (And.intro rfl (And.intro rfl trivial)))) (hK4 0 0 I h)
set_option maxHeartbeats 4000000 in
set_option maxRecDepth 100000 in
theorem sX5_nodesOn_4 (d : Nat) {T : Topo} (hT : Lay T) (a1 : Int32)    {Q : Int32 → Topo → IM → Prop} {K4 : Int32 → Int32 → IM → Prop} (hK4 : ∀ (v2 v3 : Int32) (I : IM), K4 v2 v3 I → J (d + 1) mX5_nodesOn (PI Q) 0 0 4 [some (.ref 1), some (.int a1), some (.int v2), some (.int v3)] [] T I 0 0) (v2 v3 : Int32) (I : IM) (h : fX5_nodesOn_4 T a1 Q K4 v2 v3 I) : J (d + 1) mX5_nodesOn (PI Q) 0 0 4 [some (.ref 1), some (.int a1), some (.int v2), some (.int v3)] [] T I 0 0 := by
  unfold fX5_nodesOn_4 at h
  refine J.iload_n dX5_nodesOn_4 rfl rfl ?_
  refine J.aload_n dX5_nodesOn_5 rfl rfl ?_
  refine J.getI dX5_nodesOn_6 fX5_33 (hT.k 1 rfl) rfl ?_
  refine J.icmp_ge (tgt := 52) dX5_nodesOn_9 (by decide) (fun hc1 => ?_) (fun hc1 => ?_)
  · have h := h.1 hc1
    refine J.iload_n dX5_nodesOn_52 rfl rfl ?_
    exact J.iretQ dX5_nodesOn_53 rfl (Nat.le_refl _) (Nat.le_refl _) h
  · have h := h.2 hc1
    refine J.iload_n dX5_nodesOn_12 rfl rfl ?_
    refine J.iload_n dX5_nodesOn_13 rfl rfl ?_
    refine J.callSP (as := [.int a1, .int v3]) (rest := []) dX5_nodesOn_14 kX11_has vX11_has lX5_65 rfl rfl rfl (by omega) (Nat.le_refl _) (Nat.le_refl _) (qX11_has (d + 0) hT a1 v3 ) ?_
    refine J.bz_eq (tgt := 46) dX5_nodesOn_17 (by decide) (fun hc2 => ?_) (fun hc2 => ?_)
    · have h := h.1 hc2
      refine J.iinc (v := (v3 + 1)) (ls' := [some (.ref 1), some (.int a1), some (.int v2), some (.int (v3 + 1))]) dX5_nodesOn_46 rfl (by rfl) rfl ?_
      refine J.goto (tgt := 4) dX5_nodesOn_49 (by decide) ?_
      exact J.weaken (ls' := [some (.ref 1), some (.int a1), some (.int v2), some (.int (v3 + 1))]) (And.intro rfl (And.intro rfl (And.intro rfl (And.intro rfl trivial)))) (hK4 v2 (v3 + 1) I h)
    · have h := h.2 hc2
      refine J.iload_n dX5_nodesOn_20 rfl rfl ?_
      refine J.iconst (v := 1) dX5_nodesOn_21 (by decide) ?_
      refine J.aload_n dX5_nodesOn_22 rfl rfl ?_
      refine J.getR (r := 3) dX5_nodesOn_23 fX5_17 (hT.k 1 rfl) rfl (hT.r 1 1 rfl rfl) ?_
      refine J.iload_n dX5_nodesOn_26 rfl rfl ?_
      obtain ⟨hs3, h⟩ := h
      refine J.aald (r := (6 + v3.toNatClampNeg)) dX5_nodesOn_27 (hT.k 3 rfl) rfl rfl (hT.l 3 rfl) hs3 (hT.lineR (vp_lt hs3)) ?_
      refine J.getI dX5_nodesOn_28 fX5_40 (hT.lineK (vp_lt hs3)) rfl ?_
      refine J.ishl dX5_nodesOn_31 ?_
      refine J.iconst (v := 1) dX5_nodesOn_32 (by decide) ?_
      refine J.aload_n dX5_nodesOn_33 rfl rfl ?_
      refine J.getR (r := 3) dX5_nodesOn_34 fX5_17 (hT.k 1 rfl) rfl (hT.r 1 1 rfl rfl) ?_
      refine J.iload_n dX5_nodesOn_37 rfl rfl ?_
      obtain ⟨hs4, h⟩ := h
      refine J.aald (r := (6 + v3.toNatClampNeg)) dX5_nodesOn_38 (hT.k 3 rfl) rfl rfl (hT.l 3 rfl) hs4 (hT.lineR (vp_lt hs4)) ?_
      refine J.getI dX5_nodesOn_39 fX5_43 (hT.lineK (vp_lt hs4)) rfl ?_
      refine J.ishl dX5_nodesOn_42 ?_
      refine J.ior dX5_nodesOn_43 ?_
      refine J.ior dX5_nodesOn_44 ?_
      refine J.istore_n (ls' := [some (.ref 1), some (.int a1), some (.int (v2 ||| (((1 : Int32) <<< ((I (6 + v3.toNatClampNeg) 0) &&& 31)) ||| ((1 : Int32) <<< ((I (6 + v3.toNatClampNeg) 1) &&& 31))))), some (.int v3)]) dX5_nodesOn_45 rfl rfl rfl ?_
      refine J.iinc (v := (v3 + 1)) (ls' := [some (.ref 1), some (.int a1), some (.int (v2 ||| (((1 : Int32) <<< ((I (6 + v3.toNatClampNeg) 0) &&& 31)) ||| ((1 : Int32) <<< ((I (6 + v3.toNatClampNeg) 1) &&& 31))))), some (.int (v3 + 1))]) dX5_nodesOn_46 rfl (by rfl) rfl ?_
      refine J.goto (tgt := 4) dX5_nodesOn_49 (by decide) ?_
      exact J.weaken (ls' := [some (.ref 1), some (.int a1), some (.int (v2 ||| (((1 : Int32) <<< ((I (6 + v3.toNatClampNeg) 0) &&& 31)) ||| ((1 : Int32) <<< ((I (6 + v3.toNatClampNeg) 1) &&& 31))))), some (.int (v3 + 1))]) (And.intro rfl (And.intro rfl (And.intro rfl (And.intro rfl trivial)))) (hK4 (v2 ||| (((1 : Int32) <<< ((I (6 + v3.toNatClampNeg) 0) &&& 31)) ||| ((1 : Int32) <<< ((I (6 + v3.toNatClampNeg) 1) &&& 31)))) (v3 + 1) I h)
set_option maxHeartbeats 4000000 in
set_option maxRecDepth 100000 in
theorem wX5_nodesOn (d : Nat) {T : Topo} (hT : Lay T) (a1 : Int32)   {Q : Int32 → Topo → IM → Prop} (V4 : Int32 → Int32 → IM → Prop) (μ4 : Int32 → Int32 → IM → Nat) (vc4 : ∀ (v2 v3 : Int32) (I : IM), V4 v2 v3 I → fX5_nodesOn_4 T a1 Q (fun w2 w3 I_ => V4 w2 w3 I_ ∧ μ4 w2 w3 I_ < μ4 v2 v3 I) v2 v3 I) {I : IM} (h : fX5_nodesOn_0 T a1 Q V4 I) : Ct (d + 1) mX5_nodesOn [.ref 1, .int a1] T I 0 0 (PI Q) := by
  have all : ∀ n : Nat, (∀ (v2 v3 : Int32) (I : IM), V4 v2 v3 I → μ4 v2 v3 I < n → J (d + 1) mX5_nodesOn (PI Q) 0 0 4 [some (.ref 1), some (.int a1), some (.int v2), some (.int v3)] [] T I 0 0) := by
    intro n
    induction n with
    | zero => exact fun _ _ _ _ hn => absurd hn (Nat.not_lt_zero _)
    | succ n ih =>
      exact fun v2 v3 I hv hn => sX5_nodesOn_4 d hT a1   (fun w2 w3 I_ hw => ih w2 w3 I_ hw.1 (by have := hw.2; omega)) v2 v3 I (vc4 v2 v3 I hv)
  exact Ct.ofJ (by decide +kernel) rfl (by intro v hv; revert v hv; simp [Value.category]) rfl (sX5_nodesOn_0 d hT a1   (fun w2 w3 I_ hw => (all (μ4 w2 w3 I_ + 1)) w2 w3 I_ hw (Nat.lt_succ_self _)) I h)

def jX5_nodesOnI (a1 : Int32) : Nat → Int32 → Int32 → IM → Int32
  | 0 => fun _ _ I => 0
  | n + 1 => fun v2 v3 I => (if (I 1 4) ≤ v3 then v2 else (if hs a1 v3 then (jX5_nodesOnI a1 n (v2 ||| (((1 : Int32) <<< ((I (6 + v3.toNatClampNeg) 0) &&& 31)) ||| ((1 : Int32) <<< ((I (6 + v3.toNatClampNeg) 1) &&& 31)))) (v3 + 1) I) else (jX5_nodesOnI a1 n v2 (v3 + 1) I)))
def jX5_nodesOnO (a1 : Int32) : Nat → Int32 → Int32 → IM → Prop
  | 0 => fun _ _ _ => False
  | n + 1 => fun v2 v3 I => ((((I 1 4) ≤ v3) → True) ∧ ((¬ (I 1 4) ≤ v3) → (((¬ (hs a1 v3)) → (jX5_nodesOnO a1 n v2 (v3 + 1) I)) ∧ ((hs a1 v3) → (vp_in v3 9 ∧ (vp_in v3 9 ∧ (jX5_nodesOnO a1 n (v2 ||| (((1 : Int32) <<< ((I (6 + v3.toNatClampNeg) 0) &&& 31)) ||| ((1 : Int32) <<< ((I (6 + v3.toNatClampNeg) 1) &&& 31)))) (v3 + 1) I)))))))
theorem jX5_nodesOnI_4 (a1 : Int32) (n : Nat) (v2 v3 : Int32) (I : IM) : jX5_nodesOnI a1 (n + 1) v2 v3 I = (if (I 1 4) ≤ v3 then v2 else (if hs a1 v3 then (jX5_nodesOnI a1 n (v2 ||| (((1 : Int32) <<< ((I (6 + v3.toNatClampNeg) 0) &&& 31)) ||| ((1 : Int32) <<< ((I (6 + v3.toNatClampNeg) 1) &&& 31)))) (v3 + 1) I) else (jX5_nodesOnI a1 n v2 (v3 + 1) I))) := rfl
theorem jX5_nodesOnO_4 (a1 : Int32) (n : Nat) (v2 v3 : Int32) (I : IM) : jX5_nodesOnO a1 (n + 1) v2 v3 I = ((((I 1 4) ≤ v3) → True) ∧ ((¬ (I 1 4) ≤ v3) → (((¬ (hs a1 v3)) → (jX5_nodesOnO a1 n v2 (v3 + 1) I)) ∧ ((hs a1 v3) → (vp_in v3 9 ∧ (vp_in v3 9 ∧ (jX5_nodesOnO a1 n (v2 ||| (((1 : Int32) <<< ((I (6 + v3.toNatClampNeg) 0) &&& 31)) ||| ((1 : Int32) <<< ((I (6 + v3.toNatClampNeg) 1) &&& 31)))) (v3 + 1) I))))))) := rfl
def jX5_nodesOn (I : IM) (a1 : Int32) : Int32 := (jX5_nodesOnI a1 FU 0 0 I)
def jX5_nodesOnK (I : IM) (a1 : Int32) : Prop := (jX5_nodesOnO a1 FU 0 0 I)
set_option maxRecDepth 10000 in
set_option maxHeartbeats 1000000 in
theorem uX5_nodesOn (d : Nat) {T : Topo} (hT : Lay T) (a1 : Int32)   {R : Int32} {I00 : IM} : ∀ n : Nat, (∀ (v2 v3 : Int32) (I : IM), I = I00 → jX5_nodesOnO a1 n v2 v3 I → jX5_nodesOnI a1 n v2 v3 I = R → J (d + 1) mX5_nodesOn (PI (fun x T' I' => x = R ∧ T' = T ∧ I' = I00)) 0 0 4 [some (.ref 1), some (.int a1), some (.int v2), some (.int v3)] [] T I 0 0) := by
  intro n
  induction n with
  | zero => exact fun _ _ _ _ hz => hz.elim
  | succ n ih =>
    exact fun v2 v3 I hI hok hit => by
        rw [jX5_nodesOnO_4] at hok
        exact sX5_nodesOn_4 d hT a1   (K4 := fun w2 w3 I_ => (jX5_nodesOnO a1 n w2 w3 I_ ∧ jX5_nodesOnI a1 n w2 w3 I_ = R) ∧ I_ = I00) (fun w2 w3 I_ hw => ih w2 w3 I_ hw.2 hw.1.1 hw.1.2) v2 v3 I (by
          unfold fX5_nodesOn_4
          exact ⟨fun hc1 => ⟨by rw [jX5_nodesOnI_4, if_pos hc1] at hit; exact hit, rfl, hI⟩, fun hc1 => ⟨fun hc2 => ⟨⟨((hok).2 hc1).1 hc2, by rw [jX5_nodesOnI_4, if_neg hc1, if_neg hc2] at hit; exact hit⟩, hI⟩, fun hc2 => ⟨(((hok).2 hc1).2 hc2).1, ⟨((((hok).2 hc1).2 hc2).2).1, ⟨⟨((((hok).2 hc1).2 hc2).2).2, by rw [jX5_nodesOnI_4, if_neg hc1, if_pos hc2] at hit; exact hit⟩, hI⟩⟩⟩⟩⟩)
set_option maxRecDepth 10000 in
set_option maxHeartbeats 1000000 in
theorem qX5_nodesOn (d : Nat) {T : Topo} {I : IM} (hT : Lay T) (a1 : Int32)  (hp : (jX5_nodesOnK I a1)) : CtP (d + 1) mX5_nodesOn [.ref 1, .int a1] T I (jX5_nodesOn I a1) := by
  unfold jX5_nodesOnK at hp
  exact Ct.ofJ (by decide +kernel) rfl (by intro v hv; revert v hv; simp [Value.category]) rfl (sX5_nodesOn_0 d hT a1   (K4 := fun w2 w3 I_ => (jX5_nodesOnO a1 FU w2 w3 I_ ∧ jX5_nodesOnI a1 FU w2 w3 I_ = (jX5_nodesOn I a1)) ∧ I_ = I) (fun w2 w3 I_ hw => uX5_nodesOn d hT a1   FU w2 w3 I_ hw.2 hw.1.1 hw.1.2) I (by
    unfold fX5_nodesOn_0
    exact ⟨⟨hp, rfl⟩, rfl⟩))

def fX5_workroomOf_0 (T : Topo) (a1 : Int32) (Q : Int32 → Topo → IM → Prop)  (I : IM) : Prop :=
  (vp_in a1 6 ∧ Q (I 2 a1.toNatClampNeg) T I)
set_option maxHeartbeats 4000000 in
set_option maxRecDepth 100000 in
theorem sX5_workroomOf_0 (d : Nat) {T : Topo} (hT : Lay T) (a1 : Int32)    {Q : Int32 → Topo → IM → Prop}   (I : IM) (h : fX5_workroomOf_0 T a1 Q  I) : J (d + 0) mX5_workroomOf (PI Q) 0 0 0 [some (.ref 1), some (.int a1)] [] T I 0 0 := by
  unfold fX5_workroomOf_0 at h
  refine J.aload_n dX5_workroomOf_0 rfl rfl ?_
  refine J.getR (r := 2) dX5_workroomOf_1 fX5_9 (hT.k 1 rfl) rfl (hT.r 1 0 rfl rfl) ?_
  refine J.iload_n dX5_workroomOf_4 rfl rfl ?_
  obtain ⟨hs1, h⟩ := h
  refine J.iald dX5_workroomOf_5 (hT.k 2 rfl) (hT.l 2 rfl) hs1 ?_
  exact J.iretQ dX5_workroomOf_6 rfl (Nat.le_refl _) (Nat.le_refl _) h
set_option maxHeartbeats 4000000 in
set_option maxRecDepth 100000 in
theorem wX5_workroomOf (d : Nat) {T : Topo} (hT : Lay T) (a1 : Int32)   {Q : Int32 → Topo → IM → Prop} {I : IM} (h : fX5_workroomOf_0 T a1 Q I) : Ct (d + 0) mX5_workroomOf [.ref 1, .int a1] T I 0 0 (PI Q) :=
  Ct.ofJ (by decide +kernel) rfl (by intro v hv; revert v hv; simp [Value.category]) rfl (sX5_workroomOf_0 d hT a1   I h)

def jX5_workroomOf (I : IM) (a1 : Int32) : Int32 := (I 2 a1.toNatClampNeg)
def jX5_workroomOfK (a1 : Int32) : Prop := vp_in a1 6
set_option maxRecDepth 10000 in
theorem qX5_workroomOf (d : Nat) {T : Topo} {I : IM} (hT : Lay T) (a1 : Int32)  (hp : (jX5_workroomOfK a1)) : CtP (d + 0) mX5_workroomOf [.ref 1, .int a1] T I ((jX5_workroomOf I a1)) :=
  wX5_workroomOf d hT a1   (by
  unfold fX5_workroomOf_0
  exact ⟨hp, ⟨by unfold jX5_workroomOf; rfl, rfl, rfl⟩⟩)

def fX5_lineFrom_0 (T : Topo) (a1 : Int32) (a2 : Int32) (Q : Int32 → Topo → IM → Prop) (K2 : Int32 → IM → Prop) (I : IM) : Prop :=
  K2 0 I
def fX5_lineFrom_2 (T : Topo) (a1 : Int32) (a2 : Int32) (Q : Int32 → Topo → IM → Prop) (K2 : Int32 → IM → Prop) (v3 : Int32) (I : IM) : Prop :=
  ((((I 1 4) ≤ v3) → Q (-1) T I) ∧ ((¬ (I 1 4) ≤ v3) → ((((¬ (hs a2 v3)) → K2 (v3 + 1) I) ∧ ((hs a2 v3) → (vp_in v3 9 ∧ (((((jOther I v3.toNatClampNeg a1) < 0) → K2 (v3 + 1) I) ∧ ((¬ (jOther I v3.toNatClampNeg a1) < 0) → Q v3 T I)))))))))
set_option maxHeartbeats 4000000 in
set_option maxRecDepth 100000 in
theorem sX5_lineFrom_0 (d : Nat) {T : Topo} (hT : Lay T) (a1 : Int32) (a2 : Int32)    {Q : Int32 → Topo → IM → Prop} {K2 : Int32 → IM → Prop} (hK2 : ∀ (v3 : Int32) (I : IM), K2 v3 I → J (d + 1) mX5_lineFrom (PI Q) 0 0 2 [some (.ref 1), some (.int a1), some (.int a2), some (.int v3)] [] T I 0 0) (I : IM) (h : fX5_lineFrom_0 T a1 a2 Q K2 I) : J (d + 1) mX5_lineFrom (PI Q) 0 0 0 [some (.ref 1), some (.int a1), some (.int a2), none] [] T I 0 0 := by
  unfold fX5_lineFrom_0 at h
  refine J.iconst (v := 0) dX5_lineFrom_0 (by decide) ?_
  refine J.istore_n (ls' := [some (.ref 1), some (.int a1), some (.int a2), some (.int 0)]) dX5_lineFrom_1 rfl rfl rfl ?_
  exact J.weaken (ls' := [some (.ref 1), some (.int a1), some (.int a2), some (.int 0)]) (And.intro rfl (And.intro rfl (And.intro rfl (And.intro rfl trivial)))) (hK2 0 I h)
set_option maxHeartbeats 4000000 in
set_option maxRecDepth 100000 in
theorem sX5_lineFrom_2 (d : Nat) {T : Topo} (hT : Lay T) (a1 : Int32) (a2 : Int32)    {Q : Int32 → Topo → IM → Prop} {K2 : Int32 → IM → Prop} (hK2 : ∀ (v3 : Int32) (I : IM), K2 v3 I → J (d + 1) mX5_lineFrom (PI Q) 0 0 2 [some (.ref 1), some (.int a1), some (.int a2), some (.int v3)] [] T I 0 0) (v3 : Int32) (I : IM) (h : fX5_lineFrom_2 T a1 a2 Q K2 v3 I) : J (d + 1) mX5_lineFrom (PI Q) 0 0 2 [some (.ref 1), some (.int a1), some (.int a2), some (.int v3)] [] T I 0 0 := by
  unfold fX5_lineFrom_2 at h
  refine J.iload_n dX5_lineFrom_2 rfl rfl ?_
  refine J.aload_n dX5_lineFrom_3 rfl rfl ?_
  refine J.getI dX5_lineFrom_4 fX5_33 (hT.k 1 rfl) rfl ?_
  refine J.icmp_ge (tgt := 39) dX5_lineFrom_7 (by decide) (fun hc1 => ?_) (fun hc1 => ?_)
  · have h := h.1 hc1
    refine J.iconst (v := (-1)) dX5_lineFrom_39 (by decide) ?_
    exact J.iretQ dX5_lineFrom_40 rfl (Nat.le_refl _) (Nat.le_refl _) h
  · have h := h.2 hc1
    refine J.iload_n dX5_lineFrom_10 rfl rfl ?_
    refine J.iload_n dX5_lineFrom_11 rfl rfl ?_
    refine J.callSP (as := [.int a2, .int v3]) (rest := []) dX5_lineFrom_12 kX11_has vX11_has lX5_65 rfl rfl rfl (by omega) (Nat.le_refl _) (Nat.le_refl _) (qX11_has (d + 0) hT a2 v3 ) ?_
    refine J.bz_eq (tgt := 33) dX5_lineFrom_15 (by decide) (fun hc2 => ?_) (fun hc2 => ?_)
    · have h := h.1 hc2
      refine J.iinc (v := (v3 + 1)) (ls' := [some (.ref 1), some (.int a1), some (.int a2), some (.int (v3 + 1))]) dX5_lineFrom_33 rfl (by rfl) rfl ?_
      refine J.goto (tgt := 2) dX5_lineFrom_36 (by decide) ?_
      exact J.weaken (ls' := [some (.ref 1), some (.int a1), some (.int a2), some (.int (v3 + 1))]) (And.intro rfl (And.intro rfl (And.intro rfl (And.intro rfl trivial)))) (hK2 (v3 + 1) I h)
    · have h := h.2 hc2
      refine J.aload_n dX5_lineFrom_18 rfl rfl ?_
      refine J.getR (r := 3) dX5_lineFrom_19 fX5_17 (hT.k 1 rfl) rfl (hT.r 1 1 rfl rfl) ?_
      refine J.iload_n dX5_lineFrom_22 rfl rfl ?_
      obtain ⟨hs3, h⟩ := h
      refine J.aald (r := (6 + v3.toNatClampNeg)) dX5_lineFrom_23 (hT.k 3 rfl) rfl rfl (hT.l 3 rfl) hs3 (hT.lineR (vp_lt hs3)) ?_
      refine J.iload_n dX5_lineFrom_24 rfl rfl ?_
      refine J.callVP (k := (6 + v3.toNatClampNeg)) (as := [.int a1]) (rest := []) dX5_lineFrom_25 kX4_otherEnd vX4_otherEnd lX5_73 (hT.lineK (vp_lt hs3)) rfl rfl rfl rfl rfl (by omega) (Nat.le_refl _) (Nat.le_refl _) (qX4_otherEnd (d + 0) hT v3.toNatClampNeg (vp_lt hs3) a1 ) ?_
      refine J.if_lt (tgt := 33) dX5_lineFrom_28 (by decide) (fun hc4 => ?_) (fun hc4 => ?_)
      · have h := h.1 hc4
        refine J.iinc (v := (v3 + 1)) (ls' := [some (.ref 1), some (.int a1), some (.int a2), some (.int (v3 + 1))]) dX5_lineFrom_33 rfl (by rfl) rfl ?_
        refine J.goto (tgt := 2) dX5_lineFrom_36 (by decide) ?_
        exact J.weaken (ls' := [some (.ref 1), some (.int a1), some (.int a2), some (.int (v3 + 1))]) (And.intro rfl (And.intro rfl (And.intro rfl (And.intro rfl trivial)))) (hK2 (v3 + 1) I h)
      · have h := h.2 hc4
        refine J.iload_n dX5_lineFrom_31 rfl rfl ?_
        exact J.iretQ dX5_lineFrom_32 rfl (Nat.le_refl _) (Nat.le_refl _) h
set_option maxHeartbeats 4000000 in
set_option maxRecDepth 100000 in
theorem wX5_lineFrom (d : Nat) {T : Topo} (hT : Lay T) (a1 : Int32) (a2 : Int32)   {Q : Int32 → Topo → IM → Prop} (V2 : Int32 → IM → Prop) (μ2 : Int32 → IM → Nat) (vc2 : ∀ (v3 : Int32) (I : IM), V2 v3 I → fX5_lineFrom_2 T a1 a2 Q (fun w3 I_ => V2 w3 I_ ∧ μ2 w3 I_ < μ2 v3 I) v3 I) {I : IM} (h : fX5_lineFrom_0 T a1 a2 Q V2 I) : Ct (d + 1) mX5_lineFrom [.ref 1, .int a1, .int a2] T I 0 0 (PI Q) := by
  have all : ∀ n : Nat, (∀ (v3 : Int32) (I : IM), V2 v3 I → μ2 v3 I < n → J (d + 1) mX5_lineFrom (PI Q) 0 0 2 [some (.ref 1), some (.int a1), some (.int a2), some (.int v3)] [] T I 0 0) := by
    intro n
    induction n with
    | zero => exact fun _ _ _ hn => absurd hn (Nat.not_lt_zero _)
    | succ n ih =>
      exact fun v3 I hv hn => sX5_lineFrom_2 d hT a1 a2   (fun w3 I_ hw => ih w3 I_ hw.1 (by have := hw.2; omega)) v3 I (vc2 v3 I hv)
  exact Ct.ofJ (by decide +kernel) rfl (by intro v hv; revert v hv; simp [Value.category]) rfl (sX5_lineFrom_0 d hT a1 a2   (fun w3 I_ hw => (all (μ2 w3 I_ + 1)) w3 I_ hw (Nat.lt_succ_self _)) I h)

def jX5_lineFromI (a1 : Int32) (a2 : Int32) : Nat → Int32 → IM → Int32
  | 0 => fun _ I => 0
  | n + 1 => fun v3 I => (if (I 1 4) ≤ v3 then (-1) else (if hs a2 v3 then (if (jOther I v3.toNatClampNeg a1) < 0 then (jX5_lineFromI a1 a2 n (v3 + 1) I) else v3) else (jX5_lineFromI a1 a2 n (v3 + 1) I)))
def jX5_lineFromO (a1 : Int32) (a2 : Int32) : Nat → Int32 → IM → Prop
  | 0 => fun _ _ => False
  | n + 1 => fun v3 I => ((((I 1 4) ≤ v3) → True) ∧ ((¬ (I 1 4) ≤ v3) → (((¬ (hs a2 v3)) → (jX5_lineFromO a1 a2 n (v3 + 1) I)) ∧ ((hs a2 v3) → (vp_in v3 9 ∧ ((((jOther I v3.toNatClampNeg a1) < 0) → (jX5_lineFromO a1 a2 n (v3 + 1) I)) ∧ ((¬ (jOther I v3.toNatClampNeg a1) < 0) → True)))))))
theorem jX5_lineFromI_2 (a1 : Int32) (a2 : Int32) (n : Nat) (v3 : Int32) (I : IM) : jX5_lineFromI a1 a2 (n + 1) v3 I = (if (I 1 4) ≤ v3 then (-1) else (if hs a2 v3 then (if (jOther I v3.toNatClampNeg a1) < 0 then (jX5_lineFromI a1 a2 n (v3 + 1) I) else v3) else (jX5_lineFromI a1 a2 n (v3 + 1) I))) := rfl
theorem jX5_lineFromO_2 (a1 : Int32) (a2 : Int32) (n : Nat) (v3 : Int32) (I : IM) : jX5_lineFromO a1 a2 (n + 1) v3 I = ((((I 1 4) ≤ v3) → True) ∧ ((¬ (I 1 4) ≤ v3) → (((¬ (hs a2 v3)) → (jX5_lineFromO a1 a2 n (v3 + 1) I)) ∧ ((hs a2 v3) → (vp_in v3 9 ∧ ((((jOther I v3.toNatClampNeg a1) < 0) → (jX5_lineFromO a1 a2 n (v3 + 1) I)) ∧ ((¬ (jOther I v3.toNatClampNeg a1) < 0) → True))))))) := rfl
def jX5_lineFrom (I : IM) (a1 : Int32) (a2 : Int32) : Int32 := (jX5_lineFromI a1 a2 FU 0 I)
def jX5_lineFromK (I : IM) (a1 : Int32) (a2 : Int32) : Prop := (jX5_lineFromO a1 a2 FU 0 I)
set_option maxRecDepth 10000 in
set_option maxHeartbeats 1000000 in
theorem uX5_lineFrom (d : Nat) {T : Topo} (hT : Lay T) (a1 : Int32) (a2 : Int32)   {R : Int32} {I00 : IM} : ∀ n : Nat, (∀ (v3 : Int32) (I : IM), I = I00 → jX5_lineFromO a1 a2 n v3 I → jX5_lineFromI a1 a2 n v3 I = R → J (d + 1) mX5_lineFrom (PI (fun x T' I' => x = R ∧ T' = T ∧ I' = I00)) 0 0 2 [some (.ref 1), some (.int a1), some (.int a2), some (.int v3)] [] T I 0 0) := by
  intro n
  induction n with
  | zero => exact fun _ _ _ hz => hz.elim
  | succ n ih =>
    exact fun v3 I hI hok hit => by
        rw [jX5_lineFromO_2] at hok
        exact sX5_lineFrom_2 d hT a1 a2   (K2 := fun w3 I_ => (jX5_lineFromO a1 a2 n w3 I_ ∧ jX5_lineFromI a1 a2 n w3 I_ = R) ∧ I_ = I00) (fun w3 I_ hw => ih w3 I_ hw.2 hw.1.1 hw.1.2) v3 I (by
          unfold fX5_lineFrom_2
          exact ⟨fun hc1 => ⟨by rw [jX5_lineFromI_2, if_pos hc1] at hit; exact hit, rfl, hI⟩, fun hc1 => ⟨fun hc2 => ⟨⟨((hok).2 hc1).1 hc2, by rw [jX5_lineFromI_2, if_neg hc1, if_neg hc2] at hit; exact hit⟩, hI⟩, fun hc2 => ⟨(((hok).2 hc1).2 hc2).1, ⟨fun hc3 => ⟨⟨((((hok).2 hc1).2 hc2).2).1 hc3, by rw [jX5_lineFromI_2, if_neg hc1, if_pos hc2, if_pos hc3] at hit; exact hit⟩, hI⟩, fun hc3 => ⟨by rw [jX5_lineFromI_2, if_neg hc1, if_pos hc2, if_neg hc3] at hit; exact hit, rfl, hI⟩⟩⟩⟩⟩)
set_option maxRecDepth 10000 in
set_option maxHeartbeats 1000000 in
theorem qX5_lineFrom (d : Nat) {T : Topo} {I : IM} (hT : Lay T) (a1 : Int32) (a2 : Int32)  (hp : (jX5_lineFromK I a1 a2)) : CtP (d + 1) mX5_lineFrom [.ref 1, .int a1, .int a2] T I (jX5_lineFrom I a1 a2) := by
  unfold jX5_lineFromK at hp
  exact Ct.ofJ (by decide +kernel) rfl (by intro v hv; revert v hv; simp [Value.category]) rfl (sX5_lineFrom_0 d hT a1 a2   (K2 := fun w3 I_ => (jX5_lineFromO a1 a2 FU w3 I_ ∧ jX5_lineFromI a1 a2 FU w3 I_ = (jX5_lineFrom I a1 a2)) ∧ I_ = I) (fun w3 I_ hw => uX5_lineFrom d hT a1 a2   FU w3 I_ hw.2 hw.1.1 hw.1.2) I (by
    unfold fX5_lineFrom_0
    exact ⟨⟨hp, rfl⟩, rfl⟩))

def fX8_takenWay_0 (T : Topo) (i : Nat) (a1 : Int32) (Q : Int32 → Topo → IM → Prop)  (I : IM) : Prop :=
  ((((¬ ((jWayIn (I (17 + 4 * i) 12)) &&& a1) = 0) → ((((¬ ((jSpareOf (I (17 + 4 * i) 12)) &&& a1) = 0) → Q 0 T I) ∧ ((((jSpareOf (I (17 + 4 * i) 12)) &&& a1) = 0) → (Q (jSpareOf (I (17 + 4 * i) 12)) T I))))) ∧ ((((jWayIn (I (17 + 4 * i) 12)) &&& a1) = 0) → (Q (jWayIn (I (17 + 4 * i) 12)) T I))))
set_option maxHeartbeats 4000000 in
set_option maxRecDepth 100000 in
theorem sX8_takenWay_0 (d : Nat) {T : Topo} (hT : Lay T) (i : Nat) (a1 : Int32) (hi : i < 8)   {Q : Int32 → Topo → IM → Prop}   (I : IM) (h : fX8_takenWay_0 T i a1 Q  I) : J (d + 1) mX8_takenWay (PI Q) 0 0 0 [some (.ref (17 + 4 * i)), some (.int a1)] [] T I 0 0 := by
  unfold fX8_takenWay_0 at h
  refine J.aload_n dX8_takenWay_0 rfl rfl ?_
  refine J.getI dX8_takenWay_1 fX8_47 (hT.sliceK hi) rfl ?_
  refine J.callSP (as := [.int (I (17 + 4 * i) 12)]) (rest := []) dX8_takenWay_4 kX11_wayIn vX11_wayIn lX8_57 rfl rfl rfl (by omega) (Nat.le_refl _) (Nat.le_refl _) (qX11_wayIn (d + 0) hT (I (17 + 4 * i) 12) ) ?_
  refine J.iload_n dX8_takenWay_7 rfl rfl ?_
  refine J.iand dX8_takenWay_8 ?_
  refine J.if_ne (tgt := 20) dX8_takenWay_9 (by decide) (fun hc1 => ?_) (fun hc1 => ?_)
  · have h := h.1 hc1
    refine J.aload_n dX8_takenWay_20 rfl rfl ?_
    refine J.getI dX8_takenWay_21 fX8_47 (hT.sliceK hi) rfl ?_
    refine J.callSP (as := [.int (I (17 + 4 * i) 12)]) (rest := []) dX8_takenWay_24 kX11_spareOf vX11_spareOf lX8_61 rfl rfl rfl (by omega) (Nat.le_refl _) (Nat.le_refl _) (qX11_spareOf (d + 0) hT (I (17 + 4 * i) 12) ) ?_
    refine J.iload_n dX8_takenWay_27 rfl rfl ?_
    refine J.iand dX8_takenWay_28 ?_
    refine J.if_ne (tgt := 42) dX8_takenWay_29 (by decide) (fun hc2 => ?_) (fun hc2 => ?_)
    · have h := h.1 hc2
      refine J.iconst (v := 0) dX8_takenWay_42 (by decide) ?_
      exact J.iretQ dX8_takenWay_43 rfl (Nat.le_refl _) (Nat.le_refl _) h
    · have h := h.2 hc2
      refine J.aload_n dX8_takenWay_32 rfl rfl ?_
      refine J.getI dX8_takenWay_33 fX8_47 (hT.sliceK hi) rfl ?_
      refine J.callSP (as := [.int (I (17 + 4 * i) 12)]) (rest := []) dX8_takenWay_36 kX11_spareOf vX11_spareOf lX8_61 rfl rfl rfl (by omega) (Nat.le_refl _) (Nat.le_refl _) (qX11_spareOf (d + 0) hT (I (17 + 4 * i) 12) ) ?_
      refine J.goto (tgt := 43) dX8_takenWay_39 (by decide) ?_
      exact J.iretQ dX8_takenWay_43 rfl (Nat.le_refl _) (Nat.le_refl _) h
  · have h := h.2 hc1
    refine J.aload_n dX8_takenWay_12 rfl rfl ?_
    refine J.getI dX8_takenWay_13 fX8_47 (hT.sliceK hi) rfl ?_
    refine J.callSP (as := [.int (I (17 + 4 * i) 12)]) (rest := []) dX8_takenWay_16 kX11_wayIn vX11_wayIn lX8_57 rfl rfl rfl (by omega) (Nat.le_refl _) (Nat.le_refl _) (qX11_wayIn (d + 0) hT (I (17 + 4 * i) 12) ) ?_
    exact J.iretQ dX8_takenWay_19 rfl (Nat.le_refl _) (Nat.le_refl _) h
set_option maxHeartbeats 4000000 in
set_option maxRecDepth 100000 in
theorem wX8_takenWay (d : Nat) {T : Topo} (hT : Lay T) (i : Nat) (a1 : Int32) (hi : i < 8)  {Q : Int32 → Topo → IM → Prop} {I : IM} (h : fX8_takenWay_0 T i a1 Q I) : Ct (d + 1) mX8_takenWay [.ref (17 + 4 * i), .int a1] T I 0 0 (PI Q) :=
  Ct.ofJ (by decide +kernel) rfl (by intro v hv; revert v hv; simp [Value.category]) rfl (sX8_takenWay_0 d hT i a1 hi  I h)

def jX8_takenWay (I : IM) (i : Nat) (a1 : Int32) : Int32 := (if ((jWayIn (I (17 + 4 * i) 12)) &&& a1) = 0 then (jWayIn (I (17 + 4 * i) 12)) else (if ((jSpareOf (I (17 + 4 * i) 12)) &&& a1) = 0 then (jSpareOf (I (17 + 4 * i) 12)) else 0))
set_option maxRecDepth 10000 in
theorem qX8_takenWay (d : Nat) {T : Topo} {I : IM} (hT : Lay T) (i : Nat) (hi : i < 8) (a1 : Int32)   : CtP (d + 1) mX8_takenWay [.ref (17 + 4 * i), .int a1] T I ((jX8_takenWay I i a1)) :=
  wX8_takenWay d hT i a1 hi  (by
  unfold fX8_takenWay_0
  exact ⟨fun hc1 => ⟨fun hc2 => ⟨by unfold jX8_takenWay; rw [if_neg hc1, if_neg hc2], rfl, rfl⟩, fun hc2 => ⟨by unfold jX8_takenWay; rw [if_neg hc1, if_pos hc2], rfl, rfl⟩⟩, fun hc1 => ⟨by unfold jX8_takenWay; rw [if_pos hc1], rfl, rfl⟩⟩)

def fX9_haveAll_0 (T : Topo) (a1 : Int32) (Q : Int32 → Topo → IM → Prop)  (I : IM) : Prop :=
  (((a1 < 0) → Q 0 T I) ∧ ((¬ a1 < 0) → (((((1 : Int32) <<< ((I 15 1) &&& 31)) ≤ a1) → Q 0 T I) ∧ ((¬ ((1 : Int32) <<< ((I 15 1) &&& 31)) ≤ a1) → Q 1 T I))))
set_option maxHeartbeats 4000000 in
set_option maxRecDepth 100000 in
theorem sX9_haveAll_0 (d : Nat) {T : Topo} (hT : Lay T) (a1 : Int32)    {Q : Int32 → Topo → IM → Prop}   (I : IM) (h : fX9_haveAll_0 T a1 Q  I) : J (d + 0) mX9_haveAll (PI Q) 0 0 0 [some (.ref 15), some (.int a1)] [] T I 0 0 := by
  unfold fX9_haveAll_0 at h
  refine J.iload_n dX9_haveAll_0 rfl rfl ?_
  refine J.if_lt (tgt := 18) dX9_haveAll_1 (by decide) (fun hc1 => ?_) (fun hc1 => ?_)
  · have h := h.1 hc1
    refine J.iconst (v := 0) dX9_haveAll_18 (by decide) ?_
    exact J.zretQ dX9_haveAll_19 rfl (Or.inl rfl) (Nat.le_refl _) (Nat.le_refl _) h
  · have h := h.2 hc1
    refine J.iload_n dX9_haveAll_4 rfl rfl ?_
    refine J.iconst (v := 1) dX9_haveAll_5 (by decide) ?_
    refine J.aload_n dX9_haveAll_6 rfl rfl ?_
    refine J.getI dX9_haveAll_7 fX9_18 (hT.k 15 rfl) rfl ?_
    refine J.ishl dX9_haveAll_10 ?_
    refine J.icmp_ge (tgt := 18) dX9_haveAll_11 (by decide) (fun hc2 => ?_) (fun hc2 => ?_)
    · have h := h.1 hc2
      refine J.iconst (v := 0) dX9_haveAll_18 (by decide) ?_
      exact J.zretQ dX9_haveAll_19 rfl (Or.inl rfl) (Nat.le_refl _) (Nat.le_refl _) h
    · have h := h.2 hc2
      refine J.iconst (v := 1) dX9_haveAll_14 (by decide) ?_
      refine J.goto (tgt := 19) dX9_haveAll_15 (by decide) ?_
      exact J.zretQ dX9_haveAll_19 rfl (Or.inr rfl) (Nat.le_refl _) (Nat.le_refl _) h
set_option maxHeartbeats 4000000 in
set_option maxRecDepth 100000 in
theorem wX9_haveAll (d : Nat) {T : Topo} (hT : Lay T) (a1 : Int32)   {Q : Int32 → Topo → IM → Prop} {I : IM} (h : fX9_haveAll_0 T a1 Q I) : Ct (d + 0) mX9_haveAll [.ref 15, .int a1] T I 0 0 (PI Q) :=
  Ct.ofJ (by decide +kernel) rfl (by intro v hv; revert v hv; simp [Value.category]) rfl (sX9_haveAll_0 d hT a1   I h)

def jX9_haveAll (I : IM) (a1 : Int32) : Int32 := (if a1 < 0 then 0 else (if ((1 : Int32) <<< ((I 15 1) &&& 31)) ≤ a1 then 0 else 1))
set_option maxRecDepth 10000 in
theorem qX9_haveAll (d : Nat) {T : Topo} {I : IM} (hT : Lay T) (a1 : Int32)   : CtP (d + 0) mX9_haveAll [.ref 15, .int a1] T I ((jX9_haveAll I a1)) :=
  wX9_haveAll d hT a1   (by
  unfold fX9_haveAll_0
  exact ⟨fun hc1 => ⟨by unfold jX9_haveAll; rw [if_pos hc1], rfl, rfl⟩, fun hc1 => ⟨fun hc2 => ⟨by unfold jX9_haveAll; rw [if_neg hc1, if_pos hc2], rfl, rfl⟩, fun hc2 => ⟨by unfold jX9_haveAll; rw [if_neg hc1, if_neg hc2], rfl, rfl⟩⟩⟩)

def fX9_wouldOverflow_0 (T : Topo) (i1 : Nat) (Q : Int32 → Topo → IM → Prop) (K2 : Int32 → IM → Prop) (I : IM) : Prop :=
  K2 0 I
def fX9_wouldOverflow_2 (T : Topo) (i1 : Nat) (Q : Int32 → Topo → IM → Prop) (K2 : Int32 → IM → Prop) (v2 : Int32) (I : IM) : Prop :=
  ((((I (71 + 2 * i1) 2) ≤ v2) → Q 0 T I) ∧ ((¬ (I (71 + 2 * i1) 2) ≤ v2) → ((((I 15 1) ≤ v2) → Q 0 T I) ∧ ((¬ (I 15 1) ≤ v2) → (vp_in v2 8 ∧ (((jUnitsK v2)) ∧ (((((I (17 + 4 * v2.toNatClampNeg) 13) + (jUnits I i1 v2)) ≤ 1000) → K2 (v2 + 1) I) ∧ ((¬ ((I (17 + 4 * v2.toNatClampNeg) 13) + (jUnits I i1 v2)) ≤ 1000) → Q 1 T I))))))))
set_option maxHeartbeats 4000000 in
set_option maxRecDepth 100000 in
theorem sX9_wouldOverflow_0 (d : Nat) {T : Topo} (hT : Lay T) (i1 : Nat) (hi1 : i1 < 4)   {Q : Int32 → Topo → IM → Prop} {K2 : Int32 → IM → Prop} (hK2 : ∀ (v2 : Int32) (I : IM), K2 v2 I → J (d + 2) mX9_wouldOverflow (PI Q) 0 0 2 [some (.ref 15), some (.ref (71 + 2 * i1)), some (.int v2)] [] T I 0 0) (I : IM) (h : fX9_wouldOverflow_0 T i1 Q K2 I) : J (d + 2) mX9_wouldOverflow (PI Q) 0 0 0 [some (.ref 15), some (.ref (71 + 2 * i1)), none] [] T I 0 0 := by
  unfold fX9_wouldOverflow_0 at h
  refine J.iconst (v := 0) dX9_wouldOverflow_0 (by decide) ?_
  refine J.istore_n (ls' := [some (.ref 15), some (.ref (71 + 2 * i1)), some (.int 0)]) dX9_wouldOverflow_1 rfl rfl rfl ?_
  exact J.weaken (ls' := [some (.ref 15), some (.ref (71 + 2 * i1)), some (.int 0)]) (And.intro rfl (And.intro rfl (And.intro rfl trivial))) (hK2 0 I h)
set_option maxHeartbeats 4000000 in
set_option maxRecDepth 100000 in
theorem sX9_wouldOverflow_2 (d : Nat) {T : Topo} (hT : Lay T) (i1 : Nat) (hi1 : i1 < 4)   {Q : Int32 → Topo → IM → Prop} {K2 : Int32 → IM → Prop} (hK2 : ∀ (v2 : Int32) (I : IM), K2 v2 I → J (d + 2) mX9_wouldOverflow (PI Q) 0 0 2 [some (.ref 15), some (.ref (71 + 2 * i1)), some (.int v2)] [] T I 0 0) (v2 : Int32) (I : IM) (h : fX9_wouldOverflow_2 T i1 Q K2 v2 I) : J (d + 2) mX9_wouldOverflow (PI Q) 0 0 2 [some (.ref 15), some (.ref (71 + 2 * i1)), some (.int v2)] [] T I 0 0 := by
  unfold fX9_wouldOverflow_2 at h
  refine J.iload_n dX9_wouldOverflow_2 rfl rfl ?_
  refine J.aload_n dX9_wouldOverflow_3 rfl rfl ?_
  refine J.getI dX9_wouldOverflow_4 fX9_55 (hT.sheetK hi1) rfl ?_
  refine J.icmp_ge (tgt := 47) dX9_wouldOverflow_7 (by decide) (fun hc1 => ?_) (fun hc1 => ?_)
  · have h := h.1 hc1
    refine J.iconst (v := 0) dX9_wouldOverflow_47 (by decide) ?_
    exact J.zretQ dX9_wouldOverflow_48 rfl (Or.inl rfl) (Nat.le_refl _) (Nat.le_refl _) h
  · have h := h.2 hc1
    refine J.iload_n dX9_wouldOverflow_10 rfl rfl ?_
    refine J.aload_n dX9_wouldOverflow_11 rfl rfl ?_
    refine J.getI dX9_wouldOverflow_12 fX9_18 (hT.k 15 rfl) rfl ?_
    refine J.icmp_ge (tgt := 47) dX9_wouldOverflow_15 (by decide) (fun hc2 => ?_) (fun hc2 => ?_)
    · have h := h.1 hc2
      refine J.iconst (v := 0) dX9_wouldOverflow_47 (by decide) ?_
      exact J.zretQ dX9_wouldOverflow_48 rfl (Or.inl rfl) (Nat.le_refl _) (Nat.le_refl _) h
    · have h := h.2 hc2
      refine J.aload_n dX9_wouldOverflow_18 rfl rfl ?_
      refine J.getR (r := 16) dX9_wouldOverflow_19 fX9_11 (hT.k 15 rfl) rfl (hT.r 15 0 rfl rfl) ?_
      refine J.iload_n dX9_wouldOverflow_22 rfl rfl ?_
      obtain ⟨hs3, h⟩ := h
      refine J.aald (r := (17 + 4 * v2.toNatClampNeg)) dX9_wouldOverflow_23 (hT.k 16 rfl) rfl rfl (hT.l 16 rfl) hs3 (hT.sliceR (vp_lt hs3)) ?_
      refine J.getI dX9_wouldOverflow_24 fX9_58 (hT.sliceK (vp_lt hs3)) rfl ?_
      refine J.aload_n dX9_wouldOverflow_27 rfl rfl ?_
      refine J.iload_n dX9_wouldOverflow_28 rfl rfl ?_
      obtain ⟨hp4, h⟩ := h
      refine J.callVP (k := (71 + 2 * i1)) (as := [.int v2]) (rest := [.int (I (17 + 4 * v2.toNatClampNeg) 13)]) dX9_wouldOverflow_29 kX7_unitsAt vX7_unitsAt lX9_61 (hT.sheetK hi1) rfl rfl rfl rfl rfl (by omega) (Nat.le_refl _) (Nat.le_refl _) (qX7_unitsAt (d + 0) hT i1 hi1 v2 hp4) ?_
      refine J.iadd dX9_wouldOverflow_32 ?_
      refine J.sipush (v := 1000) dX9_wouldOverflow_33 (by decide) ?_
      refine J.icmp_le (tgt := 41) dX9_wouldOverflow_36 (by decide) (fun hc5 => ?_) (fun hc5 => ?_)
      · have h := h.1 hc5
        refine J.iinc (v := (v2 + 1)) (ls' := [some (.ref 15), some (.ref (71 + 2 * i1)), some (.int (v2 + 1))]) dX9_wouldOverflow_41 rfl (by rfl) rfl ?_
        refine J.goto (tgt := 2) dX9_wouldOverflow_44 (by decide) ?_
        exact J.weaken (ls' := [some (.ref 15), some (.ref (71 + 2 * i1)), some (.int (v2 + 1))]) (And.intro rfl (And.intro rfl (And.intro rfl trivial))) (hK2 (v2 + 1) I h)
      · have h := h.2 hc5
        refine J.iconst (v := 1) dX9_wouldOverflow_39 (by decide) ?_
        exact J.zretQ dX9_wouldOverflow_40 rfl (Or.inr rfl) (Nat.le_refl _) (Nat.le_refl _) h
set_option maxHeartbeats 4000000 in
set_option maxRecDepth 100000 in
theorem wX9_wouldOverflow (d : Nat) {T : Topo} (hT : Lay T) (i1 : Nat) (hi1 : i1 < 4)  {Q : Int32 → Topo → IM → Prop} (V2 : Int32 → IM → Prop) (μ2 : Int32 → IM → Nat) (vc2 : ∀ (v2 : Int32) (I : IM), V2 v2 I → fX9_wouldOverflow_2 T i1 Q (fun w2 I_ => V2 w2 I_ ∧ μ2 w2 I_ < μ2 v2 I) v2 I) {I : IM} (h : fX9_wouldOverflow_0 T i1 Q V2 I) : Ct (d + 2) mX9_wouldOverflow [.ref 15, .ref (71 + 2 * i1)] T I 0 0 (PI Q) := by
  have all : ∀ n : Nat, (∀ (v2 : Int32) (I : IM), V2 v2 I → μ2 v2 I < n → J (d + 2) mX9_wouldOverflow (PI Q) 0 0 2 [some (.ref 15), some (.ref (71 + 2 * i1)), some (.int v2)] [] T I 0 0) := by
    intro n
    induction n with
    | zero => exact fun _ _ _ hn => absurd hn (Nat.not_lt_zero _)
    | succ n ih =>
      exact fun v2 I hv hn => sX9_wouldOverflow_2 d hT i1 hi1  (fun w2 I_ hw => ih w2 I_ hw.1 (by have := hw.2; omega)) v2 I (vc2 v2 I hv)
  exact Ct.ofJ (by decide +kernel) rfl (by intro v hv; revert v hv; simp [Value.category]) rfl (sX9_wouldOverflow_0 d hT i1 hi1  (fun w2 I_ hw => (all (μ2 w2 I_ + 1)) w2 I_ hw (Nat.lt_succ_self _)) I h)

def jX9_wouldOverflowI (i1 : Nat) : Nat → Int32 → IM → Int32
  | 0 => fun _ I => 0
  | n + 1 => fun v2 I => (if (I (71 + 2 * i1) 2) ≤ v2 then 0 else (if (I 15 1) ≤ v2 then 0 else (if ((I (17 + 4 * v2.toNatClampNeg) 13) + (jUnits I i1 v2)) ≤ 1000 then (jX9_wouldOverflowI i1 n (v2 + 1) I) else 1)))
def jX9_wouldOverflowO (i1 : Nat) : Nat → Int32 → IM → Prop
  | 0 => fun _ _ => False
  | n + 1 => fun v2 I => ((((I (71 + 2 * i1) 2) ≤ v2) → True) ∧ ((¬ (I (71 + 2 * i1) 2) ≤ v2) → ((((I 15 1) ≤ v2) → True) ∧ ((¬ (I 15 1) ≤ v2) → (vp_in v2 8 ∧ (((jUnitsK v2)) ∧ (((((I (17 + 4 * v2.toNatClampNeg) 13) + (jUnits I i1 v2)) ≤ 1000) → (jX9_wouldOverflowO i1 n (v2 + 1) I)) ∧ ((¬ ((I (17 + 4 * v2.toNatClampNeg) 13) + (jUnits I i1 v2)) ≤ 1000) → True))))))))
theorem jX9_wouldOverflowI_2 (i1 : Nat) (n : Nat) (v2 : Int32) (I : IM) : jX9_wouldOverflowI i1 (n + 1) v2 I = (if (I (71 + 2 * i1) 2) ≤ v2 then 0 else (if (I 15 1) ≤ v2 then 0 else (if ((I (17 + 4 * v2.toNatClampNeg) 13) + (jUnits I i1 v2)) ≤ 1000 then (jX9_wouldOverflowI i1 n (v2 + 1) I) else 1))) := rfl
theorem jX9_wouldOverflowO_2 (i1 : Nat) (n : Nat) (v2 : Int32) (I : IM) : jX9_wouldOverflowO i1 (n + 1) v2 I = ((((I (71 + 2 * i1) 2) ≤ v2) → True) ∧ ((¬ (I (71 + 2 * i1) 2) ≤ v2) → ((((I 15 1) ≤ v2) → True) ∧ ((¬ (I 15 1) ≤ v2) → (vp_in v2 8 ∧ (((jUnitsK v2)) ∧ (((((I (17 + 4 * v2.toNatClampNeg) 13) + (jUnits I i1 v2)) ≤ 1000) → (jX9_wouldOverflowO i1 n (v2 + 1) I)) ∧ ((¬ ((I (17 + 4 * v2.toNatClampNeg) 13) + (jUnits I i1 v2)) ≤ 1000) → True)))))))) := rfl
def jX9_wouldOverflow (I : IM) (i1 : Nat) : Int32 := (jX9_wouldOverflowI i1 FU 0 I)
def jX9_wouldOverflowK (I : IM) (i1 : Nat) : Prop := (jX9_wouldOverflowO i1 FU 0 I)
set_option maxRecDepth 10000 in
set_option maxHeartbeats 1000000 in
theorem uX9_wouldOverflow (d : Nat) {T : Topo} (hT : Lay T) (i1 : Nat) (hi1 : i1 < 4)  {R : Int32} {I00 : IM} : ∀ n : Nat, (∀ (v2 : Int32) (I : IM), I = I00 → jX9_wouldOverflowO i1 n v2 I → jX9_wouldOverflowI i1 n v2 I = R → J (d + 2) mX9_wouldOverflow (PI (fun x T' I' => x = R ∧ T' = T ∧ I' = I00)) 0 0 2 [some (.ref 15), some (.ref (71 + 2 * i1)), some (.int v2)] [] T I 0 0) := by
  intro n
  induction n with
  | zero => exact fun _ _ _ hz => hz.elim
  | succ n ih =>
    exact fun v2 I hI hok hit => by
        rw [jX9_wouldOverflowO_2] at hok
        exact sX9_wouldOverflow_2 d hT i1 hi1  (K2 := fun w2 I_ => (jX9_wouldOverflowO i1 n w2 I_ ∧ jX9_wouldOverflowI i1 n w2 I_ = R) ∧ I_ = I00) (fun w2 I_ hw => ih w2 I_ hw.2 hw.1.1 hw.1.2) v2 I (by
          unfold fX9_wouldOverflow_2
          exact ⟨fun hc1 => ⟨by rw [jX9_wouldOverflowI_2, if_pos hc1] at hit; exact hit, rfl, hI⟩, fun hc1 => ⟨fun hc2 => ⟨by rw [jX9_wouldOverflowI_2, if_neg hc1, if_pos hc2] at hit; exact hit, rfl, hI⟩, fun hc2 => ⟨(((hok).2 hc1).2 hc2).1, ⟨((((hok).2 hc1).2 hc2).2).1, ⟨fun hc3 => ⟨⟨(((((hok).2 hc1).2 hc2).2).2).1 hc3, by rw [jX9_wouldOverflowI_2, if_neg hc1, if_neg hc2, if_pos hc3] at hit; exact hit⟩, hI⟩, fun hc3 => ⟨by rw [jX9_wouldOverflowI_2, if_neg hc1, if_neg hc2, if_neg hc3] at hit; exact hit, rfl, hI⟩⟩⟩⟩⟩⟩)
set_option maxRecDepth 10000 in
set_option maxHeartbeats 1000000 in
theorem qX9_wouldOverflow (d : Nat) {T : Topo} {I : IM} (hT : Lay T) (i1 : Nat) (hi1 : i1 < 4)  (hp : (jX9_wouldOverflowK I i1)) : CtP (d + 2) mX9_wouldOverflow [.ref 15, .ref (71 + 2 * i1)] T I (jX9_wouldOverflow I i1) := by
  unfold jX9_wouldOverflowK at hp
  exact Ct.ofJ (by decide +kernel) rfl (by intro v hv; revert v hv; simp [Value.category]) rfl (sX9_wouldOverflow_0 d hT i1 hi1  (K2 := fun w2 I_ => (jX9_wouldOverflowO i1 FU w2 I_ ∧ jX9_wouldOverflowI i1 FU w2 I_ = (jX9_wouldOverflow I i1)) ∧ I_ = I) (fun w2 I_ hw => uX9_wouldOverflow d hT i1 hi1  FU w2 I_ hw.2 hw.1.1 hw.1.2) I (by
    unfold fX9_wouldOverflow_0
    exact ⟨⟨hp, rfl⟩, rfl⟩))

def fX9_offerAll_0 (T : Topo) (i1 : Nat) (Q : Int32 → Topo → IM → Prop) (K4 : Int32 → Int32 → IM → Prop) (I : IM) : Prop :=
  K4 0 0 I
def fX9_offerAll_4 (T : Topo) (i1 : Nat) (Q : Int32 → Topo → IM → Prop) (K4 : Int32 → Int32 → IM → Prop) (v2 v3 : Int32) (I : IM) : Prop :=
  ((((I (71 + 2 * i1) 2) ≤ v3) → Q v2 T I) ∧ ((¬ (I (71 + 2 * i1) 2) ≤ v3) → ((((I 15 1) ≤ v3) → Q v2 T I) ∧ ((¬ (I 15 1) ≤ v3) → (vp_in v3 8 ∧ (((jUnitsK v3)) ∧ (((jUnitsK v3)) ∧ K4 (v2 + (jUnits (up2 I (17 + 4 * v3.toNatClampNeg) 13 ((I (17 + 4 * v3.toNatClampNeg) 13) + (jUnits I i1 v3))) i1 v3)) (v3 + 1) (up2 I (17 + 4 * v3.toNatClampNeg) 13 ((I (17 + 4 * v3.toNatClampNeg) 13) + (jUnits I i1 v3))))))))))
set_option maxHeartbeats 4000000 in
set_option maxRecDepth 100000 in
theorem sX9_offerAll_0 (d : Nat) {T : Topo} (hT : Lay T) (i1 : Nat) (hi1 : i1 < 4)   {Q : Int32 → Topo → IM → Prop} {K4 : Int32 → Int32 → IM → Prop} (hK4 : ∀ (v2 v3 : Int32) (I : IM), K4 v2 v3 I → J (d + 2) mX9_offerAll (PI Q) 0 0 4 [some (.ref 15), some (.ref (71 + 2 * i1)), some (.int v2), some (.int v3)] [] T I 0 0) (I : IM) (h : fX9_offerAll_0 T i1 Q K4 I) : J (d + 2) mX9_offerAll (PI Q) 0 0 0 [some (.ref 15), some (.ref (71 + 2 * i1)), none, none] [] T I 0 0 := by
  unfold fX9_offerAll_0 at h
  refine J.iconst (v := 0) dX9_offerAll_0 (by decide) ?_
  refine J.istore_n (ls' := [some (.ref 15), some (.ref (71 + 2 * i1)), some (.int 0), none]) dX9_offerAll_1 rfl rfl rfl ?_
  refine J.iconst (v := 0) dX9_offerAll_2 (by decide) ?_
  refine J.istore_n (ls' := [some (.ref 15), some (.ref (71 + 2 * i1)), some (.int 0), some (.int 0)]) dX9_offerAll_3 rfl rfl rfl ?_
  exact J.weaken (ls' := [some (.ref 15), some (.ref (71 + 2 * i1)), some (.int 0), some (.int 0)]) (And.intro rfl (And.intro rfl (And.intro rfl (And.intro rfl trivial)))) (hK4 0 0 I h)
set_option maxHeartbeats 4000000 in
set_option maxRecDepth 100000 in
theorem sX9_offerAll_4 (d : Nat) {T : Topo} (hT : Lay T) (i1 : Nat) (hi1 : i1 < 4)   {Q : Int32 → Topo → IM → Prop} {K4 : Int32 → Int32 → IM → Prop} (hK4 : ∀ (v2 v3 : Int32) (I : IM), K4 v2 v3 I → J (d + 2) mX9_offerAll (PI Q) 0 0 4 [some (.ref 15), some (.ref (71 + 2 * i1)), some (.int v2), some (.int v3)] [] T I 0 0) (v2 v3 : Int32) (I : IM) (h : fX9_offerAll_4 T i1 Q K4 v2 v3 I) : J (d + 2) mX9_offerAll (PI Q) 0 0 4 [some (.ref 15), some (.ref (71 + 2 * i1)), some (.int v2), some (.int v3)] [] T I 0 0 := by
  unfold fX9_offerAll_4 at h
  refine J.iload_n dX9_offerAll_4 rfl rfl ?_
  refine J.aload_n dX9_offerAll_5 rfl rfl ?_
  refine J.getI dX9_offerAll_6 fX9_55 (hT.sheetK hi1) rfl ?_
  refine J.icmp_ge (tgt := 53) dX9_offerAll_9 (by decide) (fun hc1 => ?_) (fun hc1 => ?_)
  · have h := h.1 hc1
    refine J.iload_n dX9_offerAll_53 rfl rfl ?_
    exact J.iretQ dX9_offerAll_54 rfl (Nat.le_refl _) (Nat.le_refl _) h
  · have h := h.2 hc1
    refine J.iload_n dX9_offerAll_12 rfl rfl ?_
    refine J.aload_n dX9_offerAll_13 rfl rfl ?_
    refine J.getI dX9_offerAll_14 fX9_18 (hT.k 15 rfl) rfl ?_
    refine J.icmp_ge (tgt := 53) dX9_offerAll_17 (by decide) (fun hc2 => ?_) (fun hc2 => ?_)
    · have h := h.1 hc2
      refine J.iload_n dX9_offerAll_53 rfl rfl ?_
      exact J.iretQ dX9_offerAll_54 rfl (Nat.le_refl _) (Nat.le_refl _) h
    · have h := h.2 hc2
      refine J.aload_n dX9_offerAll_20 rfl rfl ?_
      refine J.getR (r := 16) dX9_offerAll_21 fX9_11 (hT.k 15 rfl) rfl (hT.r 15 0 rfl rfl) ?_
      refine J.iload_n dX9_offerAll_24 rfl rfl ?_
      obtain ⟨hs3, h⟩ := h
      refine J.aald (r := (17 + 4 * v3.toNatClampNeg)) dX9_offerAll_25 (hT.k 16 rfl) rfl rfl (hT.l 16 rfl) hs3 (hT.sliceR (vp_lt hs3)) ?_
      refine J.dup dX9_offerAll_26 rfl ?_
      refine J.getI dX9_offerAll_27 fX9_58 (hT.sliceK (vp_lt hs3)) rfl ?_
      refine J.aload_n dX9_offerAll_30 rfl rfl ?_
      refine J.iload_n dX9_offerAll_31 rfl rfl ?_
      obtain ⟨hp4, h⟩ := h
      refine J.callVP (k := (71 + 2 * i1)) (as := [.int v3]) (rest := [.int (I (17 + 4 * v3.toNatClampNeg) 13), .ref (17 + 4 * v3.toNatClampNeg)]) dX9_offerAll_32 kX7_unitsAt vX7_unitsAt lX9_61 (hT.sheetK hi1) rfl rfl rfl rfl rfl (by omega) (Nat.le_refl _) (Nat.le_refl _) (qX7_unitsAt (d + 0) hT i1 hi1 v3 hp4) ?_
      refine J.iadd dX9_offerAll_35 ?_
      refine J.putI dX9_offerAll_36 fX9_58 (hT.sliceK (vp_lt hs3)) rfl ?_
      refine J.iload_n dX9_offerAll_39 rfl rfl ?_
      refine J.aload_n dX9_offerAll_40 rfl rfl ?_
      refine J.iload_n dX9_offerAll_41 rfl rfl ?_
      obtain ⟨hp5, h⟩ := h
      refine J.callVP (k := (71 + 2 * i1)) (as := [.int v3]) (rest := [.int v2]) dX9_offerAll_42 kX7_unitsAt vX7_unitsAt lX9_61 (hT.sheetK hi1) rfl rfl rfl rfl rfl (by omega) (Nat.le_refl _) (Nat.le_refl _) (qX7_unitsAt (d + 0) hT i1 hi1 v3 hp5) ?_
      refine J.iadd dX9_offerAll_45 ?_
      refine J.istore_n (ls' := [some (.ref 15), some (.ref (71 + 2 * i1)), some (.int (v2 + (jUnits (up2 I (17 + 4 * v3.toNatClampNeg) 13 ((I (17 + 4 * v3.toNatClampNeg) 13) + (jUnits I i1 v3))) i1 v3))), some (.int v3)]) dX9_offerAll_46 rfl rfl rfl ?_
      refine J.iinc (v := (v3 + 1)) (ls' := [some (.ref 15), some (.ref (71 + 2 * i1)), some (.int (v2 + (jUnits (up2 I (17 + 4 * v3.toNatClampNeg) 13 ((I (17 + 4 * v3.toNatClampNeg) 13) + (jUnits I i1 v3))) i1 v3))), some (.int (v3 + 1))]) dX9_offerAll_47 rfl (by rfl) rfl ?_
      refine J.goto (tgt := 4) dX9_offerAll_50 (by decide) ?_
      exact J.weaken (ls' := [some (.ref 15), some (.ref (71 + 2 * i1)), some (.int (v2 + (jUnits (up2 I (17 + 4 * v3.toNatClampNeg) 13 ((I (17 + 4 * v3.toNatClampNeg) 13) + (jUnits I i1 v3))) i1 v3))), some (.int (v3 + 1))]) (And.intro rfl (And.intro rfl (And.intro rfl (And.intro rfl trivial)))) (hK4 (v2 + (jUnits (up2 I (17 + 4 * v3.toNatClampNeg) 13 ((I (17 + 4 * v3.toNatClampNeg) 13) + (jUnits I i1 v3))) i1 v3)) (v3 + 1) (up2 I (17 + 4 * v3.toNatClampNeg) 13 ((I (17 + 4 * v3.toNatClampNeg) 13) + (jUnits I i1 v3))) h)
set_option maxHeartbeats 4000000 in
set_option maxRecDepth 100000 in
theorem wX9_offerAll (d : Nat) {T : Topo} (hT : Lay T) (i1 : Nat) (hi1 : i1 < 4)  {Q : Int32 → Topo → IM → Prop} (V4 : Int32 → Int32 → IM → Prop) (μ4 : Int32 → Int32 → IM → Nat) (vc4 : ∀ (v2 v3 : Int32) (I : IM), V4 v2 v3 I → fX9_offerAll_4 T i1 Q (fun w2 w3 I_ => V4 w2 w3 I_ ∧ μ4 w2 w3 I_ < μ4 v2 v3 I) v2 v3 I) {I : IM} (h : fX9_offerAll_0 T i1 Q V4 I) : Ct (d + 2) mX9_offerAll [.ref 15, .ref (71 + 2 * i1)] T I 0 0 (PI Q) := by
  have all : ∀ n : Nat, (∀ (v2 v3 : Int32) (I : IM), V4 v2 v3 I → μ4 v2 v3 I < n → J (d + 2) mX9_offerAll (PI Q) 0 0 4 [some (.ref 15), some (.ref (71 + 2 * i1)), some (.int v2), some (.int v3)] [] T I 0 0) := by
    intro n
    induction n with
    | zero => exact fun _ _ _ _ hn => absurd hn (Nat.not_lt_zero _)
    | succ n ih =>
      exact fun v2 v3 I hv hn => sX9_offerAll_4 d hT i1 hi1  (fun w2 w3 I_ hw => ih w2 w3 I_ hw.1 (by have := hw.2; omega)) v2 v3 I (vc4 v2 v3 I hv)
  exact Ct.ofJ (by decide +kernel) rfl (by intro v hv; revert v hv; simp [Value.category]) rfl (sX9_offerAll_0 d hT i1 hi1  (fun w2 w3 I_ hw => (all (μ4 w2 w3 I_ + 1)) w2 w3 I_ hw (Nat.lt_succ_self _)) I h)

def jX9_offerAllI (i1 : Nat) : Nat → Int32 → Int32 → IM → Int32 × IM
  | 0 => fun _ _ I => (0, I)
  | n + 1 => fun v2 v3 I => (if (I (71 + 2 * i1) 2) ≤ v3 then (v2, I) else (if (I 15 1) ≤ v3 then (v2, I) else (jX9_offerAllI i1 n (v2 + (jUnits (up2 I (17 + 4 * v3.toNatClampNeg) 13 ((I (17 + 4 * v3.toNatClampNeg) 13) + (jUnits I i1 v3))) i1 v3)) (v3 + 1) (up2 I (17 + 4 * v3.toNatClampNeg) 13 ((I (17 + 4 * v3.toNatClampNeg) 13) + (jUnits I i1 v3))))))
def jX9_offerAllO (i1 : Nat) : Nat → Int32 → Int32 → IM → Prop
  | 0 => fun _ _ _ => False
  | n + 1 => fun v2 v3 I => ((((I (71 + 2 * i1) 2) ≤ v3) → True) ∧ ((¬ (I (71 + 2 * i1) 2) ≤ v3) → ((((I 15 1) ≤ v3) → True) ∧ ((¬ (I 15 1) ≤ v3) → (vp_in v3 8 ∧ (((jUnitsK v3)) ∧ (((jUnitsK v3)) ∧ (jX9_offerAllO i1 n (v2 + (jUnits (up2 I (17 + 4 * v3.toNatClampNeg) 13 ((I (17 + 4 * v3.toNatClampNeg) 13) + (jUnits I i1 v3))) i1 v3)) (v3 + 1) (up2 I (17 + 4 * v3.toNatClampNeg) 13 ((I (17 + 4 * v3.toNatClampNeg) 13) + (jUnits I i1 v3)))))))))))
theorem jX9_offerAllI_4 (i1 : Nat) (n : Nat) (v2 v3 : Int32) (I : IM) : jX9_offerAllI i1 (n + 1) v2 v3 I = (if (I (71 + 2 * i1) 2) ≤ v3 then (v2, I) else (if (I 15 1) ≤ v3 then (v2, I) else (jX9_offerAllI i1 n (v2 + (jUnits (up2 I (17 + 4 * v3.toNatClampNeg) 13 ((I (17 + 4 * v3.toNatClampNeg) 13) + (jUnits I i1 v3))) i1 v3)) (v3 + 1) (up2 I (17 + 4 * v3.toNatClampNeg) 13 ((I (17 + 4 * v3.toNatClampNeg) 13) + (jUnits I i1 v3)))))) := rfl
theorem jX9_offerAllO_4 (i1 : Nat) (n : Nat) (v2 v3 : Int32) (I : IM) : jX9_offerAllO i1 (n + 1) v2 v3 I = ((((I (71 + 2 * i1) 2) ≤ v3) → True) ∧ ((¬ (I (71 + 2 * i1) 2) ≤ v3) → ((((I 15 1) ≤ v3) → True) ∧ ((¬ (I 15 1) ≤ v3) → (vp_in v3 8 ∧ (((jUnitsK v3)) ∧ (((jUnitsK v3)) ∧ (jX9_offerAllO i1 n (v2 + (jUnits (up2 I (17 + 4 * v3.toNatClampNeg) 13 ((I (17 + 4 * v3.toNatClampNeg) 13) + (jUnits I i1 v3))) i1 v3)) (v3 + 1) (up2 I (17 + 4 * v3.toNatClampNeg) 13 ((I (17 + 4 * v3.toNatClampNeg) 13) + (jUnits I i1 v3))))))))))) := rfl
def jX9_offerAll (I : IM) (i1 : Nat) : Int32 × IM := (jX9_offerAllI i1 FU 0 0 I)
def jX9_offerAllK (I : IM) (i1 : Nat) : Prop := (jX9_offerAllO i1 FU 0 0 I)
set_option maxRecDepth 10000 in
set_option maxHeartbeats 1000000 in
theorem uX9_offerAll (d : Nat) {T : Topo} (hT : Lay T) (i1 : Nat) (hi1 : i1 < 4)  {R : Int32 × IM} : ∀ n : Nat, (∀ (v2 v3 : Int32) (I : IM), jX9_offerAllO i1 n v2 v3 I → jX9_offerAllI i1 n v2 v3 I = R → J (d + 2) mX9_offerAll (PI (fun x T' I' => T' = T ∧ x = R.1 ∧ I' = R.2)) 0 0 4 [some (.ref 15), some (.ref (71 + 2 * i1)), some (.int v2), some (.int v3)] [] T I 0 0) := by
  intro n
  induction n with
  | zero => exact fun _ _ _ hz => hz.elim
  | succ n ih =>
    exact fun v2 v3 I hok hit => by
        rw [jX9_offerAllO_4] at hok
        exact sX9_offerAll_4 d hT i1 hi1  (K4 := fun w2 w3 I_ => (jX9_offerAllO i1 n w2 w3 I_ ∧ jX9_offerAllI i1 n w2 w3 I_ = R)) (fun w2 w3 I_ hw => ih w2 w3 I_ hw.1 hw.2) v2 v3 I (by
          unfold fX9_offerAll_4
          exact ⟨fun hc1 => (by rw [jX9_offerAllI_4, if_pos hc1] at hit; exact ⟨rfl, by rw [← hit], by rw [← hit]⟩), fun hc1 => ⟨fun hc2 => (by rw [jX9_offerAllI_4, if_neg hc1, if_pos hc2] at hit; exact ⟨rfl, by rw [← hit], by rw [← hit]⟩), fun hc2 => ⟨(((hok).2 hc1).2 hc2).1, ⟨((((hok).2 hc1).2 hc2).2).1, ⟨(((((hok).2 hc1).2 hc2).2).2).1, ⟨(((((hok).2 hc1).2 hc2).2).2).2, by rw [jX9_offerAllI_4, if_neg hc1, if_neg hc2] at hit; exact hit⟩⟩⟩⟩⟩⟩)
set_option maxRecDepth 10000 in
set_option maxHeartbeats 1000000 in
theorem qX9_offerAll (d : Nat) {T : Topo} {I : IM} (hT : Lay T) (i1 : Nat) (hi1 : i1 < 4)  (hp : (jX9_offerAllK I i1)) : CtI (d + 2) mX9_offerAll [.ref 15, .ref (71 + 2 * i1)] T I (fun x_ J_ => x_ = (jX9_offerAll I i1).1 ∧ J_ = (jX9_offerAll I i1).2) := by
  unfold jX9_offerAllK at hp
  exact Ct.ofJ (by decide +kernel) rfl (by intro v hv; revert v hv; simp [Value.category]) rfl (sX9_offerAll_0 d hT i1 hi1  (K4 := fun w2 w3 I_ => (jX9_offerAllO i1 FU w2 w3 I_ ∧ jX9_offerAllI i1 FU w2 w3 I_ = (jX9_offerAll I i1))) (fun w2 w3 I_ hw => uX9_offerAll d hT i1 hi1  FU w2 w3 I_ hw.1 hw.2) I (by
    unfold fX9_offerAll_0
    exact ⟨hp, rfl⟩))

def fX9_countIn_0 (T : Topo)  (Q : Int32 → Topo → IM → Prop) (K4 : Int32 → Int32 → IM → Prop) (I : IM) : Prop :=
  K4 0 0 I
def fX9_countIn_4 (T : Topo)  (Q : Int32 → Topo → IM → Prop) (K4 : Int32 → Int32 → IM → Prop) (v1 v2 : Int32) (I : IM) : Prop :=
  ((((I 15 1) ≤ v2) → Q v1 T I) ∧ ((¬ (I 15 1) ≤ v2) → (vp_in v2 8 ∧ ((((¬ (inS I v2.toNatClampNeg)) → K4 (v1 + 0) (v2 + 1) I) ∧ ((inS I v2.toNatClampNeg) → K4 (v1 + 1) (v2 + 1) I))))))
set_option maxHeartbeats 4000000 in
set_option maxRecDepth 100000 in
theorem sX9_countIn_0 (d : Nat) {T : Topo} (hT : Lay T)     {Q : Int32 → Topo → IM → Prop} {K4 : Int32 → Int32 → IM → Prop} (hK4 : ∀ (v1 v2 : Int32) (I : IM), K4 v1 v2 I → J (d + 1) mX9_countIn (PI Q) 0 0 4 [some (.ref 15), some (.int v1), some (.int v2)] [] T I 0 0) (I : IM) (h : fX9_countIn_0 T  Q K4 I) : J (d + 1) mX9_countIn (PI Q) 0 0 0 [some (.ref 15), none, none] [] T I 0 0 := by
  unfold fX9_countIn_0 at h
  refine J.iconst (v := 0) dX9_countIn_0 (by decide) ?_
  refine J.istore_n (ls' := [some (.ref 15), some (.int 0), none]) dX9_countIn_1 rfl rfl rfl ?_
  refine J.iconst (v := 0) dX9_countIn_2 (by decide) ?_
  refine J.istore_n (ls' := [some (.ref 15), some (.int 0), some (.int 0)]) dX9_countIn_3 rfl rfl rfl ?_
  exact J.weaken (ls' := [some (.ref 15), some (.int 0), some (.int 0)]) (And.intro rfl (And.intro rfl (And.intro rfl trivial))) (hK4 0 0 I h)
set_option maxHeartbeats 4000000 in
set_option maxRecDepth 100000 in
theorem sX9_countIn_4 (d : Nat) {T : Topo} (hT : Lay T)     {Q : Int32 → Topo → IM → Prop} {K4 : Int32 → Int32 → IM → Prop} (hK4 : ∀ (v1 v2 : Int32) (I : IM), K4 v1 v2 I → J (d + 1) mX9_countIn (PI Q) 0 0 4 [some (.ref 15), some (.int v1), some (.int v2)] [] T I 0 0) (v1 v2 : Int32) (I : IM) (h : fX9_countIn_4 T  Q K4 v1 v2 I) : J (d + 1) mX9_countIn (PI Q) 0 0 4 [some (.ref 15), some (.int v1), some (.int v2)] [] T I 0 0 := by
  unfold fX9_countIn_4 at h
  refine J.iload_n dX9_countIn_4 rfl rfl ?_
  refine J.aload_n dX9_countIn_5 rfl rfl ?_
  refine J.getI dX9_countIn_6 fX9_18 (hT.k 15 rfl) rfl ?_
  refine J.icmp_ge (tgt := 38) dX9_countIn_9 (by decide) (fun hc1 => ?_) (fun hc1 => ?_)
  · have h := h.1 hc1
    refine J.iload_n dX9_countIn_38 rfl rfl ?_
    exact J.iretQ dX9_countIn_39 rfl (Nat.le_refl _) (Nat.le_refl _) h
  · have h := h.2 hc1
    refine J.iload_n dX9_countIn_12 rfl rfl ?_
    refine J.aload_n dX9_countIn_13 rfl rfl ?_
    refine J.getR (r := 16) dX9_countIn_14 fX9_11 (hT.k 15 rfl) rfl (hT.r 15 0 rfl rfl) ?_
    refine J.iload_n dX9_countIn_17 rfl rfl ?_
    obtain ⟨hs2, h⟩ := h
    refine J.aald (r := (17 + 4 * v2.toNatClampNeg)) dX9_countIn_18 (hT.k 16 rfl) rfl rfl (hT.l 16 rfl) hs2 (hT.sliceR (vp_lt hs2)) ?_
    refine J.callVP (k := (17 + 4 * v2.toNatClampNeg)) (as := []) (rest := [.int v1]) dX9_countIn_19 kX8_isIn vX8_isIn lX9_51 (hT.sliceK (vp_lt hs2)) rfl rfl rfl rfl rfl (by omega) (Nat.le_refl _) (Nat.le_refl _) (qX8_isIn (d + 0) hT v2.toNatClampNeg (vp_lt hs2) ) ?_
    refine J.bz_eq (tgt := 29) dX9_countIn_22 (by decide) (fun hc3 => ?_) (fun hc3 => ?_)
    · have h := h.1 hc3
      refine J.iconst (v := 0) dX9_countIn_29 (by decide) ?_
      refine J.iadd dX9_countIn_30 ?_
      refine J.istore_n (ls' := [some (.ref 15), some (.int (v1 + 0)), some (.int v2)]) dX9_countIn_31 rfl rfl rfl ?_
      refine J.iinc (v := (v2 + 1)) (ls' := [some (.ref 15), some (.int (v1 + 0)), some (.int (v2 + 1))]) dX9_countIn_32 rfl (by rfl) rfl ?_
      refine J.goto (tgt := 4) dX9_countIn_35 (by decide) ?_
      exact J.weaken (ls' := [some (.ref 15), some (.int (v1 + 0)), some (.int (v2 + 1))]) (And.intro rfl (And.intro rfl (And.intro rfl trivial))) (hK4 (v1 + 0) (v2 + 1) I h)
    · have h := h.2 hc3
      refine J.iconst (v := 1) dX9_countIn_25 (by decide) ?_
      refine J.goto (tgt := 30) dX9_countIn_26 (by decide) ?_
      refine J.iadd dX9_countIn_30 ?_
      refine J.istore_n (ls' := [some (.ref 15), some (.int (v1 + 1)), some (.int v2)]) dX9_countIn_31 rfl rfl rfl ?_
      refine J.iinc (v := (v2 + 1)) (ls' := [some (.ref 15), some (.int (v1 + 1)), some (.int (v2 + 1))]) dX9_countIn_32 rfl (by rfl) rfl ?_
      refine J.goto (tgt := 4) dX9_countIn_35 (by decide) ?_
      exact J.weaken (ls' := [some (.ref 15), some (.int (v1 + 1)), some (.int (v2 + 1))]) (And.intro rfl (And.intro rfl (And.intro rfl trivial))) (hK4 (v1 + 1) (v2 + 1) I h)
set_option maxHeartbeats 4000000 in
set_option maxRecDepth 100000 in
theorem wX9_countIn (d : Nat) {T : Topo} (hT : Lay T)    {Q : Int32 → Topo → IM → Prop} (V4 : Int32 → Int32 → IM → Prop) (μ4 : Int32 → Int32 → IM → Nat) (vc4 : ∀ (v1 v2 : Int32) (I : IM), V4 v1 v2 I → fX9_countIn_4 T  Q (fun w1 w2 I_ => V4 w1 w2 I_ ∧ μ4 w1 w2 I_ < μ4 v1 v2 I) v1 v2 I) {I : IM} (h : fX9_countIn_0 T  Q V4 I) : Ct (d + 1) mX9_countIn [.ref 15] T I 0 0 (PI Q) := by
  have all : ∀ n : Nat, (∀ (v1 v2 : Int32) (I : IM), V4 v1 v2 I → μ4 v1 v2 I < n → J (d + 1) mX9_countIn (PI Q) 0 0 4 [some (.ref 15), some (.int v1), some (.int v2)] [] T I 0 0) := by
    intro n
    induction n with
    | zero => exact fun _ _ _ _ hn => absurd hn (Nat.not_lt_zero _)
    | succ n ih =>
      exact fun v1 v2 I hv hn => sX9_countIn_4 d hT    (fun w1 w2 I_ hw => ih w1 w2 I_ hw.1 (by have := hw.2; omega)) v1 v2 I (vc4 v1 v2 I hv)
  exact Ct.ofJ (by decide +kernel) rfl (by intro v hv; revert v hv; simp [Value.category]) rfl (sX9_countIn_0 d hT    (fun w1 w2 I_ hw => (all (μ4 w1 w2 I_ + 1)) w1 w2 I_ hw (Nat.lt_succ_self _)) I h)

def jX9_countInI  : Nat → Int32 → Int32 → IM → Int32
  | 0 => fun _ _ I => 0
  | n + 1 => fun v1 v2 I => (if (I 15 1) ≤ v2 then v1 else (if inS I v2.toNatClampNeg then (jX9_countInI  n (v1 + 1) (v2 + 1) I) else (jX9_countInI  n (v1 + 0) (v2 + 1) I)))
def jX9_countInO  : Nat → Int32 → Int32 → IM → Prop
  | 0 => fun _ _ _ => False
  | n + 1 => fun v1 v2 I => ((((I 15 1) ≤ v2) → True) ∧ ((¬ (I 15 1) ≤ v2) → (vp_in v2 8 ∧ (((¬ (inS I v2.toNatClampNeg)) → (jX9_countInO  n (v1 + 0) (v2 + 1) I)) ∧ ((inS I v2.toNatClampNeg) → (jX9_countInO  n (v1 + 1) (v2 + 1) I))))))
theorem jX9_countInI_4  (n : Nat) (v1 v2 : Int32) (I : IM) : jX9_countInI  (n + 1) v1 v2 I = (if (I 15 1) ≤ v2 then v1 else (if inS I v2.toNatClampNeg then (jX9_countInI  n (v1 + 1) (v2 + 1) I) else (jX9_countInI  n (v1 + 0) (v2 + 1) I))) := rfl
theorem jX9_countInO_4  (n : Nat) (v1 v2 : Int32) (I : IM) : jX9_countInO  (n + 1) v1 v2 I = ((((I 15 1) ≤ v2) → True) ∧ ((¬ (I 15 1) ≤ v2) → (vp_in v2 8 ∧ (((¬ (inS I v2.toNatClampNeg)) → (jX9_countInO  n (v1 + 0) (v2 + 1) I)) ∧ ((inS I v2.toNatClampNeg) → (jX9_countInO  n (v1 + 1) (v2 + 1) I)))))) := rfl
def jX9_countIn (I : IM)  : Int32 := (jX9_countInI  FU 0 0 I)
def jX9_countInK (I : IM)  : Prop := (jX9_countInO  FU 0 0 I)
set_option maxRecDepth 10000 in
set_option maxHeartbeats 1000000 in
theorem uX9_countIn (d : Nat) {T : Topo} (hT : Lay T)    {R : Int32} {I00 : IM} : ∀ n : Nat, (∀ (v1 v2 : Int32) (I : IM), I = I00 → jX9_countInO  n v1 v2 I → jX9_countInI  n v1 v2 I = R → J (d + 1) mX9_countIn (PI (fun x T' I' => x = R ∧ T' = T ∧ I' = I00)) 0 0 4 [some (.ref 15), some (.int v1), some (.int v2)] [] T I 0 0) := by
  intro n
  induction n with
  | zero => exact fun _ _ _ _ hz => hz.elim
  | succ n ih =>
    exact fun v1 v2 I hI hok hit => by
        rw [jX9_countInO_4] at hok
        exact sX9_countIn_4 d hT    (K4 := fun w1 w2 I_ => (jX9_countInO  n w1 w2 I_ ∧ jX9_countInI  n w1 w2 I_ = R) ∧ I_ = I00) (fun w1 w2 I_ hw => ih w1 w2 I_ hw.2 hw.1.1 hw.1.2) v1 v2 I (by
          unfold fX9_countIn_4
          exact ⟨fun hc1 => ⟨by rw [jX9_countInI_4, if_pos hc1] at hit; exact hit, rfl, hI⟩, fun hc1 => ⟨((hok).2 hc1).1, ⟨fun hc2 => ⟨⟨(((hok).2 hc1).2).1 hc2, by rw [jX9_countInI_4, if_neg hc1, if_neg hc2] at hit; exact hit⟩, hI⟩, fun hc2 => ⟨⟨(((hok).2 hc1).2).2 hc2, by rw [jX9_countInI_4, if_neg hc1, if_pos hc2] at hit; exact hit⟩, hI⟩⟩⟩⟩)
set_option maxRecDepth 10000 in
set_option maxHeartbeats 1000000 in
theorem qX9_countIn (d : Nat) {T : Topo} {I : IM} (hT : Lay T)   (hp : (jX9_countInK I)) : CtP (d + 1) mX9_countIn [.ref 15] T I (jX9_countIn I) := by
  unfold jX9_countInK at hp
  exact Ct.ofJ (by decide +kernel) rfl (by intro v hv; revert v hv; simp [Value.category]) rfl (sX9_countIn_0 d hT    (K4 := fun w1 w2 I_ => (jX9_countInO  FU w1 w2 I_ ∧ jX9_countInI  FU w1 w2 I_ = (jX9_countIn I )) ∧ I_ = I) (fun w1 w2 I_ hw => uX9_countIn d hT    FU w1 w2 I_ hw.2 hw.1.1 hw.1.2) I (by
    unfold fX9_countIn_0
    exact ⟨⟨hp, rfl⟩, rfl⟩))

def fX9_add_0 (T : Topo) (a1 : Int32) (a2 : Int32) (a3 : Int32) (a4 : Int32) (a5 : Int32) (Q : Int32 → Topo → IM → Prop)  (I : IM) : Prop :=
  (vp_in (I 15 1) 8 ∧ (((jX8_setSpanK (up2 (up2 (up2 (up2 (up2 I (17 + 4 * (I 15 1).toNatClampNeg) 0 a1) (17 + 4 * (I 15 1).toNatClampNeg) 1 a2) (17 + 4 * (I 15 1).toNatClampNeg) 2 a3) (17 + 4 * (I 15 1).toNatClampNeg) 3 a4) (17 + 4 * (I 15 1).toNatClampNeg) 4 a5) (I 15 1).toNatClampNeg 0 23 0)) ∧ Q ((((jX8_setSpan (up2 (up2 (up2 (up2 (up2 I (17 + 4 * (I 15 1).toNatClampNeg) 0 a1) (17 + 4 * (I 15 1).toNatClampNeg) 1 a2) (17 + 4 * (I 15 1).toNatClampNeg) 2 a3) (17 + 4 * (I 15 1).toNatClampNeg) 3 a4) (17 + 4 * (I 15 1).toNatClampNeg) 4 a5) (I 15 1).toNatClampNeg 0 23 0) 15 1) + 1) - 1) T (up2 (jX8_setSpan (up2 (up2 (up2 (up2 (up2 I (17 + 4 * (I 15 1).toNatClampNeg) 0 a1) (17 + 4 * (I 15 1).toNatClampNeg) 1 a2) (17 + 4 * (I 15 1).toNatClampNeg) 2 a3) (17 + 4 * (I 15 1).toNatClampNeg) 3 a4) (17 + 4 * (I 15 1).toNatClampNeg) 4 a5) (I 15 1).toNatClampNeg 0 23 0) 15 1 (((jX8_setSpan (up2 (up2 (up2 (up2 (up2 I (17 + 4 * (I 15 1).toNatClampNeg) 0 a1) (17 + 4 * (I 15 1).toNatClampNeg) 1 a2) (17 + 4 * (I 15 1).toNatClampNeg) 2 a3) (17 + 4 * (I 15 1).toNatClampNeg) 3 a4) (17 + 4 * (I 15 1).toNatClampNeg) 4 a5) (I 15 1).toNatClampNeg 0 23 0) 15 1) + 1))))
set_option maxHeartbeats 4000000 in
set_option maxRecDepth 100000 in
theorem sX9_add_0 (d : Nat) {T : Topo} (hT : Lay T) (a1 : Int32) (a2 : Int32) (a3 : Int32) (a4 : Int32) (a5 : Int32)    {Q : Int32 → Topo → IM → Prop}   (I : IM) (h : fX9_add_0 T a1 a2 a3 a4 a5 Q  I) : J (d + 2) mX9_add (PI Q) 0 0 0 [some (.ref 15), some (.int a1), some (.int a2), some (.int a3), some (.int a4), some (.int a5), none] [] T I 0 0 := by
  unfold fX9_add_0 at h
  refine J.aload_n dX9_add_0 rfl rfl ?_
  refine J.getR (r := 16) dX9_add_1 fX9_11 (hT.k 15 rfl) rfl (hT.r 15 0 rfl rfl) ?_
  refine J.aload_n dX9_add_4 rfl rfl ?_
  refine J.getI dX9_add_5 fX9_18 (hT.k 15 rfl) rfl ?_
  obtain ⟨hs1, h⟩ := h
  refine J.aald (r := (17 + 4 * (I 15 1).toNatClampNeg)) dX9_add_8 (hT.k 16 rfl) rfl rfl (hT.l 16 rfl) hs1 (hT.sliceR (vp_lt hs1)) ?_
  refine J.astore (ls' := [some (.ref 15), some (.int a1), some (.int a2), some (.int a3), some (.int a4), some (.int a5), some (.ref (17 + 4 * (I 15 1).toNatClampNeg))]) dX9_add_9 rfl rfl ?_
  refine J.aload dX9_add_11 rfl ?_
  refine J.iload_n dX9_add_13 rfl rfl ?_
  refine J.putI dX9_add_14 fX9_22 (hT.sliceK (vp_lt hs1)) rfl ?_
  refine J.aload dX9_add_17 rfl ?_
  refine J.iload_n dX9_add_19 rfl rfl ?_
  refine J.putI dX9_add_20 fX9_25 (hT.sliceK (vp_lt hs1)) rfl ?_
  refine J.atpc (pc' := 23) rfl ?_
  refine J.aload dX9_add_23 rfl ?_
  refine J.iload_n dX9_add_25 rfl rfl ?_
  refine J.putI dX9_add_26 fX9_28 (hT.sliceK (vp_lt hs1)) rfl ?_
  refine J.aload dX9_add_29 rfl ?_
  refine J.iload dX9_add_31 rfl ?_
  refine J.putI dX9_add_33 fX9_31 (hT.sliceK (vp_lt hs1)) rfl ?_
  refine J.aload dX9_add_36 rfl ?_
  refine J.iload dX9_add_38 rfl ?_
  refine J.atpc (pc' := 40) rfl ?_
  refine J.putI dX9_add_40 fX9_34 (hT.sliceK (vp_lt hs1)) rfl ?_
  refine J.aload dX9_add_43 rfl ?_
  refine J.iconst (v := 0) dX9_add_45 (by decide) ?_
  refine J.bipush (v := 23) dX9_add_46 (by decide) ?_
  refine J.iconst (v := 0) dX9_add_48 (by decide) ?_
  obtain ⟨hp2, h⟩ := h
  refine J.callVD (k := (17 + 4 * (I 15 1).toNatClampNeg)) (as := [.int 0, .int 23, .int 0]) (rest := []) dX9_add_49 kX8_setSpan vX8_setSpan lX9_37 (hT.sliceK (vp_lt hs1)) rfl rfl rfl rfl rfl (by omega) (Nat.le_refl _) (Nat.le_refl _) (qX8_setSpan (d + 0) hT (I 15 1).toNatClampNeg (vp_lt hs1) 0 23 0 hp2) ?_
  refine J.aload_n dX9_add_52 rfl rfl ?_
  refine J.dup dX9_add_53 rfl ?_
  refine J.getI dX9_add_54 fX9_18 (hT.k 15 rfl) rfl ?_
  refine J.iconst (v := 1) dX9_add_57 (by decide) ?_
  refine J.iadd dX9_add_58 ?_
  refine J.putI dX9_add_59 fX9_18 (hT.k 15 rfl) rfl ?_
  refine J.aload_n dX9_add_62 rfl rfl ?_
  refine J.atpc (pc' := 63) rfl ?_
  refine J.getI dX9_add_63 fX9_18 (hT.k 15 rfl) rfl ?_
  refine J.topEq (y := (((jX8_setSpan (up2 (up2 (up2 (up2 (up2 I (17 + 4 * (I 15 1).toNatClampNeg) 0 a1) (17 + 4 * (I 15 1).toNatClampNeg) 1 a2) (17 + 4 * (I 15 1).toNatClampNeg) 2 a3) (17 + 4 * (I 15 1).toNatClampNeg) 3 a4) (17 + 4 * (I 15 1).toNatClampNeg) 4 a5) (I 15 1).toNatClampNeg 0 23 0) 15 1) + 1)) (up2_at _ _ _ _) ?_
  refine J.iconst (v := 1) dX9_add_66 (by decide) ?_
  refine J.isub dX9_add_67 ?_
  exact J.iretQ dX9_add_68 rfl (Nat.le_refl _) (Nat.le_refl _) h
set_option maxHeartbeats 4000000 in
set_option maxRecDepth 100000 in
theorem wX9_add (d : Nat) {T : Topo} (hT : Lay T) (a1 : Int32) (a2 : Int32) (a3 : Int32) (a4 : Int32) (a5 : Int32)   {Q : Int32 → Topo → IM → Prop} {I : IM} (h : fX9_add_0 T a1 a2 a3 a4 a5 Q I) : Ct (d + 2) mX9_add [.ref 15, .int a1, .int a2, .int a3, .int a4, .int a5] T I 0 0 (PI Q) :=
  Ct.ofJ (by decide +kernel) rfl (by intro v hv; revert v hv; simp [Value.category]) rfl (sX9_add_0 d hT a1 a2 a3 a4 a5   I h)

def jX9_add (I : IM) (a1 : Int32) (a2 : Int32) (a3 : Int32) (a4 : Int32) (a5 : Int32) : Int32 := ((((jX8_setSpan (up2 (up2 (up2 (up2 (up2 I (17 + 4 * (I 15 1).toNatClampNeg) 0 a1) (17 + 4 * (I 15 1).toNatClampNeg) 1 a2) (17 + 4 * (I 15 1).toNatClampNeg) 2 a3) (17 + 4 * (I 15 1).toNatClampNeg) 3 a4) (17 + 4 * (I 15 1).toNatClampNeg) 4 a5) (I 15 1).toNatClampNeg 0 23 0) 15 1) + 1) - 1)
def jX9_addM (I : IM) (a1 : Int32) (a2 : Int32) (a3 : Int32) (a4 : Int32) (a5 : Int32) : IM := (up2 (jX8_setSpan (up2 (up2 (up2 (up2 (up2 I (17 + 4 * (I 15 1).toNatClampNeg) 0 a1) (17 + 4 * (I 15 1).toNatClampNeg) 1 a2) (17 + 4 * (I 15 1).toNatClampNeg) 2 a3) (17 + 4 * (I 15 1).toNatClampNeg) 3 a4) (17 + 4 * (I 15 1).toNatClampNeg) 4 a5) (I 15 1).toNatClampNeg 0 23 0) 15 1 (((jX8_setSpan (up2 (up2 (up2 (up2 (up2 I (17 + 4 * (I 15 1).toNatClampNeg) 0 a1) (17 + 4 * (I 15 1).toNatClampNeg) 1 a2) (17 + 4 * (I 15 1).toNatClampNeg) 2 a3) (17 + 4 * (I 15 1).toNatClampNeg) 3 a4) (17 + 4 * (I 15 1).toNatClampNeg) 4 a5) (I 15 1).toNatClampNeg 0 23 0) 15 1) + 1))
def jX9_addK (I : IM) (a1 : Int32) (a2 : Int32) (a3 : Int32) (a4 : Int32) (a5 : Int32) : Prop := (vp_in (I 15 1) 8 ∧ ((jX8_setSpanK (up2 (up2 (up2 (up2 (up2 I (17 + 4 * (I 15 1).toNatClampNeg) 0 a1) (17 + 4 * (I 15 1).toNatClampNeg) 1 a2) (17 + 4 * (I 15 1).toNatClampNeg) 2 a3) (17 + 4 * (I 15 1).toNatClampNeg) 3 a4) (17 + 4 * (I 15 1).toNatClampNeg) 4 a5) (I 15 1).toNatClampNeg 0 23 0)))
set_option maxRecDepth 10000 in
theorem qX9_add (d : Nat) {T : Topo} {I : IM} (hT : Lay T) (a1 : Int32) (a2 : Int32) (a3 : Int32) (a4 : Int32) (a5 : Int32)  (hp : (jX9_addK I a1 a2 a3 a4 a5)) : CtI (d + 2) mX9_add [.ref 15, .int a1, .int a2, .int a3, .int a4, .int a5] T I (fun x_ J_ => x_ = (jX9_add I a1 a2 a3 a4 a5) ∧ J_ = (jX9_addM I a1 a2 a3 a4 a5)) :=
  wX9_add d hT a1 a2 a3 a4 a5   (by
  unfold fX9_add_0
  exact ⟨(hp).1, ⟨(hp).2, ⟨rfl, by unfold jX9_add; rfl, by unfold jX9_addM; rfl⟩⟩⟩)

theorem swd_11_16 {x : Int32} (h : x.toInt < 11 ∨ 16 < x.toInt) : ¬ x = 11 ∧ ¬ x = 12 ∧ ¬ x = 13 ∧ ¬ x = 14 ∧ ¬ x = 15 ∧ ¬ x = 16 := by
  refine ⟨?_, ?_, ?_, ?_, ?_, ?_⟩ <;> (intro e; subst e; revert h; decide)
theorem sw_11_16 (x : Int32) : x = 11 ∨ x = 12 ∨ x = 13 ∨ x = 14 ∨ x = 15 ∨ x = 16 ∨ (x.toInt < 11 ∨ 16 < x.toInt) := by
  by_cases hr : x.toInt < 11 ∨ 16 < x.toInt
  · exact Or.inr (Or.inr (Or.inr (Or.inr (Or.inr (Or.inr (hr))))))
  · have hc : x.toInt = 11 ∨ x.toInt = 12 ∨ x.toInt = 13 ∨ x.toInt = 14 ∨ x.toInt = 15 ∨ x.toInt = 16 := by omega
    rcases hc with hc | hc | hc | hc | hc | hc
    · exact Or.inl (Int32.toInt_inj.mp (hc.trans (by decide)))
    · exact Or.inr (Or.inl (Int32.toInt_inj.mp (hc.trans (by decide))))
    · exact Or.inr (Or.inr (Or.inl (Int32.toInt_inj.mp (hc.trans (by decide)))))
    · exact Or.inr (Or.inr (Or.inr (Or.inl (Int32.toInt_inj.mp (hc.trans (by decide))))))
    · exact Or.inr (Or.inr (Or.inr (Or.inr (Or.inl (Int32.toInt_inj.mp (hc.trans (by decide)))))))
    · exact Or.inr (Or.inr (Or.inr (Or.inr (Or.inr (Or.inl (Int32.toInt_inj.mp (hc.trans (by decide))))))))

def fX8_becameOf_0 (T : Topo) (i : Nat) (a1 : Int32) (Q : Int32 → Topo → IM → Prop)  (I : IM) : Prop :=
  ((a1 = 11 → ((((¬ (inS I i)) → Q 0 T I) ∧ ((inS I i) → Q 1 T I)))) ∧ (a1 = 12 → Q (I (17 + 4 * i) 13) T I) ∧ (a1 = 13 → Q (I (17 + 4 * i) 14) T I) ∧ (a1 = 14 → Q (I (17 + 4 * i) 15) T I) ∧ (a1 = 15 → Q (I (17 + 4 * i) 16) T I) ∧ (a1 = 16 → Q (I (17 + 4 * i) 17) T I) ∧ ((a1.toInt < 11 ∨ 16 < a1.toInt) → (Q (jX8_needed I i) T I)))
set_option maxHeartbeats 4000000 in
set_option maxRecDepth 100000 in
theorem sX8_becameOf_0 (d : Nat) {T : Topo} (hT : Lay T) (i : Nat) (a1 : Int32) (hi : i < 8)   {Q : Int32 → Topo → IM → Prop}   (I : IM) (h : fX8_becameOf_0 T i a1 Q  I) : J (d + 1) mX8_becameOf (PI Q) 0 0 0 [some (.ref (17 + 4 * i)), some (.int a1)] [] T I 0 0 := by
  unfold fX8_becameOf_0 at h
  refine J.iload_n dX8_becameOf_0 rfl rfl ?_
  obtain ⟨h0_, h1_, h2_, h3_, h4_, h5_, hdf⟩ := h
  rcases sw_11_16 a1 with e | e | e | e | e | e | e
  · refine J.tableIn (off := 39) (tgt := 40) dX8_becameOf_1 (by rw [e]; decide) (by rw [e]; decide) (by rw [e]; decide) (by decide) ?_
    have h := h0_ e
    refine J.aload_n dX8_becameOf_40 rfl rfl ?_
    refine J.callVP (k := (17 + 4 * i)) (as := []) (rest := []) dX8_becameOf_41 kX8_isIn vX8_isIn lX8_73 (hT.sliceK hi) rfl rfl rfl rfl rfl (by omega) (Nat.le_refl _) (Nat.le_refl _) (qX8_isIn (d + 0) hT i hi ) ?_
    refine J.bz_eq (tgt := 51) dX8_becameOf_44 (by decide) (fun hc1 => ?_) (fun hc1 => ?_)
    · have h := h.1 hc1
      refine J.iconst (v := 0) dX8_becameOf_51 (by decide) ?_
      exact J.iretQ dX8_becameOf_52 rfl (Nat.le_refl _) (Nat.le_refl _) h
    · have h := h.2 hc1
      refine J.iconst (v := 1) dX8_becameOf_47 (by decide) ?_
      refine J.goto (tgt := 52) dX8_becameOf_48 (by decide) ?_
      exact J.iretQ dX8_becameOf_52 rfl (Nat.le_refl _) (Nat.le_refl _) h
  · refine J.tableIn (off := 52) (tgt := 53) dX8_becameOf_1 (by rw [e]; decide) (by rw [e]; decide) (by rw [e]; decide) (by decide) ?_
    have h := h1_ e
    refine J.aload_n dX8_becameOf_53 rfl rfl ?_
    refine J.getI dX8_becameOf_54 fX8_77 (hT.sliceK hi) rfl ?_
    exact J.iretQ dX8_becameOf_57 rfl (Nat.le_refl _) (Nat.le_refl _) h
  · refine J.tableIn (off := 57) (tgt := 58) dX8_becameOf_1 (by rw [e]; decide) (by rw [e]; decide) (by rw [e]; decide) (by decide) ?_
    have h := h2_ e
    refine J.aload_n dX8_becameOf_58 rfl rfl ?_
    refine J.getI dX8_becameOf_59 fX8_80 (hT.sliceK hi) rfl ?_
    exact J.iretQ dX8_becameOf_62 rfl (Nat.le_refl _) (Nat.le_refl _) h
  · refine J.tableIn (off := 62) (tgt := 63) dX8_becameOf_1 (by rw [e]; decide) (by rw [e]; decide) (by rw [e]; decide) (by decide) ?_
    have h := h3_ e
    refine J.aload_n dX8_becameOf_63 rfl rfl ?_
    refine J.getI dX8_becameOf_64 fX8_83 (hT.sliceK hi) rfl ?_
    exact J.iretQ dX8_becameOf_67 rfl (Nat.le_refl _) (Nat.le_refl _) h
  · refine J.tableIn (off := 67) (tgt := 68) dX8_becameOf_1 (by rw [e]; decide) (by rw [e]; decide) (by rw [e]; decide) (by decide) ?_
    have h := h4_ e
    refine J.aload_n dX8_becameOf_68 rfl rfl ?_
    refine J.getI dX8_becameOf_69 fX8_86 (hT.sliceK hi) rfl ?_
    exact J.iretQ dX8_becameOf_72 rfl (Nat.le_refl _) (Nat.le_refl _) h
  · refine J.tableIn (off := 72) (tgt := 73) dX8_becameOf_1 (by rw [e]; decide) (by rw [e]; decide) (by rw [e]; decide) (by decide) ?_
    have h := h5_ e
    refine J.aload_n dX8_becameOf_73 rfl rfl ?_
    refine J.getI dX8_becameOf_74 fX8_89 (hT.sliceK hi) rfl ?_
    exact J.iretQ dX8_becameOf_77 rfl (Nat.le_refl _) (Nat.le_refl _) h
  · refine J.tableOut (tgt := 78) dX8_becameOf_1 e (by decide) ?_
    have h := hdf e
    refine J.aload_n dX8_becameOf_78 rfl rfl ?_
    refine J.callVP (k := (17 + 4 * i)) (as := []) (rest := []) dX8_becameOf_79 kX8_needed vX8_needed lX8_92 (hT.sliceK hi) rfl rfl rfl rfl rfl (by omega) (Nat.le_refl _) (Nat.le_refl _) (qX8_needed (d + 0) hT i hi ) ?_
    exact J.iretQ dX8_becameOf_82 rfl (Nat.le_refl _) (Nat.le_refl _) h
set_option maxHeartbeats 4000000 in
set_option maxRecDepth 100000 in
theorem wX8_becameOf (d : Nat) {T : Topo} (hT : Lay T) (i : Nat) (a1 : Int32) (hi : i < 8)  {Q : Int32 → Topo → IM → Prop} {I : IM} (h : fX8_becameOf_0 T i a1 Q I) : Ct (d + 1) mX8_becameOf [.ref (17 + 4 * i), .int a1] T I 0 0 (PI Q) :=
  Ct.ofJ (by decide +kernel) rfl (by intro v hv; revert v hv; simp [Value.category]) rfl (sX8_becameOf_0 d hT i a1 hi  I h)

def jX8_becameOf (I : IM) (i : Nat) (a1 : Int32) : Int32 := (if a1 = 11 then (if inS I i then 1 else 0) else (if a1 = 12 then (I (17 + 4 * i) 13) else (if a1 = 13 then (I (17 + 4 * i) 14) else (if a1 = 14 then (I (17 + 4 * i) 15) else (if a1 = 15 then (I (17 + 4 * i) 16) else (if a1 = 16 then (I (17 + 4 * i) 17) else (jX8_needed I i)))))))
set_option maxRecDepth 10000 in
theorem qX8_becameOf (d : Nat) {T : Topo} {I : IM} (hT : Lay T) (i : Nat) (hi : i < 8) (a1 : Int32)   : CtP (d + 1) mX8_becameOf [.ref (17 + 4 * i), .int a1] T I ((jX8_becameOf I i a1)) :=
  wX8_becameOf d hT i a1 hi  (by
  unfold fX8_becameOf_0
  exact ⟨fun hw1 => ⟨fun hc2 => ⟨by unfold jX8_becameOf; rw [if_pos hw1, if_neg hc2], rfl, rfl⟩, fun hc2 => ⟨by unfold jX8_becameOf; rw [if_pos hw1, if_pos hc2], rfl, rfl⟩⟩, fun hw1 => ⟨by unfold jX8_becameOf; rw [if_neg (show ¬ a1 = 11 by rw [hw1]; decide), if_pos hw1], rfl, rfl⟩, fun hw1 => ⟨by unfold jX8_becameOf; rw [if_neg (show ¬ a1 = 11 by rw [hw1]; decide), if_neg (show ¬ a1 = 12 by rw [hw1]; decide), if_pos hw1], rfl, rfl⟩, fun hw1 => ⟨by unfold jX8_becameOf; rw [if_neg (show ¬ a1 = 11 by rw [hw1]; decide), if_neg (show ¬ a1 = 12 by rw [hw1]; decide), if_neg (show ¬ a1 = 13 by rw [hw1]; decide), if_pos hw1], rfl, rfl⟩, fun hw1 => ⟨by unfold jX8_becameOf; rw [if_neg (show ¬ a1 = 11 by rw [hw1]; decide), if_neg (show ¬ a1 = 12 by rw [hw1]; decide), if_neg (show ¬ a1 = 13 by rw [hw1]; decide), if_neg (show ¬ a1 = 14 by rw [hw1]; decide), if_pos hw1], rfl, rfl⟩, fun hw1 => ⟨by unfold jX8_becameOf; rw [if_neg (show ¬ a1 = 11 by rw [hw1]; decide), if_neg (show ¬ a1 = 12 by rw [hw1]; decide), if_neg (show ¬ a1 = 13 by rw [hw1]; decide), if_neg (show ¬ a1 = 14 by rw [hw1]; decide), if_neg (show ¬ a1 = 15 by rw [hw1]; decide), if_pos hw1], rfl, rfl⟩, fun hw1 => ⟨by unfold jX8_becameOf; rw [if_neg (swd_11_16 hw1).1, if_neg (swd_11_16 hw1).2.1, if_neg (swd_11_16 hw1).2.2.1, if_neg (swd_11_16 hw1).2.2.2.1, if_neg (swd_11_16 hw1).2.2.2.2.1, if_neg (swd_11_16 hw1).2.2.2.2.2], rfl, rfl⟩⟩)

def fX5_lineAlong_0 (T : Topo) (a1 : Int32) (a2 : Int32) (a3 : Int32) (Q : Int32 → Topo → IM → Prop) (K12 : Int32 → Int32 → Int32 → Int32 → IM → Prop) (I : IM) : Prop :=
  K12 a1 a2 (-1) 0 I
def fX5_lineAlong_12 (T : Topo) (a1 : Int32) (a2 : Int32) (a3 : Int32) (Q : Int32 → Topo → IM → Prop) (K12 : Int32 → Int32 → Int32 → Int32 → IM → Prop) (v4 v5 v6 v7 : Int32) (I : IM) : Prop :=
  (((a3 < v7) → (((9 ≤ a3) → Q (-1) T I) ∧ ((¬ 9 ≤ a3) → Q v6 T I))) ∧ ((¬ a3 < v7) → (((9 ≤ v7) → (((9 ≤ a3) → Q (-1) T I) ∧ ((¬ 9 ≤ a3) → Q v6 T I))) ∧ ((¬ 9 ≤ v7) → (((jX5_lineFromK I v4 v5)) ∧ (((0 ≤ (jX5_lineFrom I v4 v5)) → (vp_in (jX5_lineFrom I v4 v5) 9 ∧ (K12 (jOther I (jX5_lineFrom I v4 v5).toNatClampNeg v4) (v5 &&& (((1 : Int32) <<< ((jX5_lineFrom I v4 v5) &&& 31)) ^^^ (-1))) (jX5_lineFrom I v4 v5) (v7 + 1) I))) ∧ ((¬ 0 ≤ (jX5_lineFrom I v4 v5)) → Q (-1) T I)))))))
set_option maxHeartbeats 4000000 in
set_option maxRecDepth 100000 in
theorem sX5_lineAlong_0 (d : Nat) {T : Topo} (hT : Lay T) (a1 : Int32) (a2 : Int32) (a3 : Int32)    {Q : Int32 → Topo → IM → Prop} {K12 : Int32 → Int32 → Int32 → Int32 → IM → Prop} (hK12 : ∀ (v4 v5 v6 v7 : Int32) (I : IM), K12 v4 v5 v6 v7 I → J (d + 2) mX5_lineAlong (PI Q) 0 0 12 [some (.ref 1), none, none, some (.int a3), some (.int v4), some (.int v5), some (.int v6), some (.int v7)] [] T I 0 0) (I : IM) (h : fX5_lineAlong_0 T a1 a2 a3 Q K12 I) : J (d + 2) mX5_lineAlong (PI Q) 0 0 0 [some (.ref 1), some (.int a1), some (.int a2), some (.int a3), none, none, none, none] [] T I 0 0 := by
  unfold fX5_lineAlong_0 at h
  refine J.iload_n dX5_lineAlong_0 rfl rfl ?_
  refine J.istore (ls' := [some (.ref 1), some (.int a1), some (.int a2), some (.int a3), some (.int a1), none, none, none]) dX5_lineAlong_1 rfl rfl ?_
  refine J.iload_n dX5_lineAlong_3 rfl rfl ?_
  refine J.istore (ls' := [some (.ref 1), some (.int a1), some (.int a2), some (.int a3), some (.int a1), some (.int a2), none, none]) dX5_lineAlong_4 rfl rfl ?_
  refine J.iconst (v := (-1)) dX5_lineAlong_6 (by decide) ?_
  refine J.istore (ls' := [some (.ref 1), some (.int a1), some (.int a2), some (.int a3), some (.int a1), some (.int a2), some (.int (-1)), none]) dX5_lineAlong_7 rfl rfl ?_
  refine J.iconst (v := 0) dX5_lineAlong_9 (by decide) ?_
  refine J.atpc (pc' := 10) rfl ?_
  refine J.istore (ls' := [some (.ref 1), some (.int a1), some (.int a2), some (.int a3), some (.int a1), some (.int a2), some (.int (-1)), some (.int 0)]) dX5_lineAlong_10 rfl rfl ?_
  exact J.weaken (ls' := [some (.ref 1), none, none, some (.int a3), some (.int a1), some (.int a2), some (.int (-1)), some (.int 0)]) (And.intro rfl (And.intro rfl (And.intro rfl (And.intro rfl (And.intro rfl (And.intro rfl trivial)))))) (hK12 a1 a2 (-1) 0 I h)
set_option maxHeartbeats 4000000 in
set_option maxRecDepth 100000 in
theorem sX5_lineAlong_12 (d : Nat) {T : Topo} (hT : Lay T) (a1 : Int32) (a2 : Int32) (a3 : Int32)    {Q : Int32 → Topo → IM → Prop} {K12 : Int32 → Int32 → Int32 → Int32 → IM → Prop} (hK12 : ∀ (v4 v5 v6 v7 : Int32) (I : IM), K12 v4 v5 v6 v7 I → J (d + 2) mX5_lineAlong (PI Q) 0 0 12 [some (.ref 1), none, none, some (.int a3), some (.int v4), some (.int v5), some (.int v6), some (.int v7)] [] T I 0 0) (v4 v5 v6 v7 : Int32) (I : IM) (h : fX5_lineAlong_12 T a1 a2 a3 Q K12 v4 v5 v6 v7 I) : J (d + 2) mX5_lineAlong (PI Q) 0 0 12 [some (.ref 1), none, none, some (.int a3), some (.int v4), some (.int v5), some (.int v6), some (.int v7)] [] T I 0 0 := by
  unfold fX5_lineAlong_12 at h
  refine J.iload dX5_lineAlong_12 rfl ?_
  refine J.iload_n dX5_lineAlong_14 rfl rfl ?_
  refine J.icmp_gt (tgt := 73) dX5_lineAlong_15 (by decide) (fun hc1 => ?_) (fun hc1 => ?_)
  · have h := h.1 hc1
    refine J.iload_n dX5_lineAlong_73 rfl rfl ?_
    refine J.bipush (v := 9) dX5_lineAlong_74 (by decide) ?_
    refine J.icmp_ge (tgt := 84) dX5_lineAlong_76 (by decide) (fun hc2 => ?_) (fun hc2 => ?_)
    · have h := h.1 hc2
      refine J.iconst (v := (-1)) dX5_lineAlong_84 (by decide) ?_
      exact J.iretQ dX5_lineAlong_85 rfl (Nat.le_refl _) (Nat.le_refl _) h
    · have h := h.2 hc2
      refine J.iload dX5_lineAlong_79 rfl ?_
      refine J.goto (tgt := 85) dX5_lineAlong_81 (by decide) ?_
      exact J.iretQ dX5_lineAlong_85 rfl (Nat.le_refl _) (Nat.le_refl _) h
  · have h := h.2 hc1
    refine J.iload dX5_lineAlong_18 rfl ?_
    refine J.bipush (v := 9) dX5_lineAlong_20 (by decide) ?_
    refine J.icmp_ge (tgt := 73) dX5_lineAlong_22 (by decide) (fun hc3 => ?_) (fun hc3 => ?_)
    · have h := h.1 hc3
      refine J.iload_n dX5_lineAlong_73 rfl rfl ?_
      refine J.bipush (v := 9) dX5_lineAlong_74 (by decide) ?_
      refine J.icmp_ge (tgt := 84) dX5_lineAlong_76 (by decide) (fun hc4 => ?_) (fun hc4 => ?_)
      · have h := h.1 hc4
        refine J.iconst (v := (-1)) dX5_lineAlong_84 (by decide) ?_
        exact J.iretQ dX5_lineAlong_85 rfl (Nat.le_refl _) (Nat.le_refl _) h
      · have h := h.2 hc4
        refine J.iload dX5_lineAlong_79 rfl ?_
        refine J.goto (tgt := 85) dX5_lineAlong_81 (by decide) ?_
        exact J.iretQ dX5_lineAlong_85 rfl (Nat.le_refl _) (Nat.le_refl _) h
    · have h := h.2 hc3
      refine J.aload_n dX5_lineAlong_25 rfl rfl ?_
      refine J.iload dX5_lineAlong_26 rfl ?_
      refine J.iload dX5_lineAlong_28 rfl ?_
      obtain ⟨hp5, h⟩ := h
      refine J.callVP (k := 1) (as := [.int v4, .int v5]) (rest := []) dX5_lineAlong_30 kX5_lineFrom vX5_lineFrom lX5_69 (hT.k 1 rfl) rfl rfl rfl rfl rfl (by omega) (Nat.le_refl _) (Nat.le_refl _) (qX5_lineFrom (d + 0) hT v4 v5 hp5) ?_
      refine J.istore (ls' := [some (.ref 1), none, none, some (.int a3), some (.int v4), some (.int v5), some (.int (jX5_lineFrom I v4 v5)), some (.int v7)]) dX5_lineAlong_33 rfl rfl ?_
      refine J.iload dX5_lineAlong_35 rfl ?_
      refine J.if_ge (tgt := 42) dX5_lineAlong_37 (by decide) (fun hc6 => ?_) (fun hc6 => ?_)
      · have h := h.1 hc6
        refine J.aload_n dX5_lineAlong_42 rfl rfl ?_
        refine J.getR (r := 3) dX5_lineAlong_43 fX5_17 (hT.k 1 rfl) rfl (hT.r 1 1 rfl rfl) ?_
        refine J.iload dX5_lineAlong_46 rfl ?_
        obtain ⟨hs7, h⟩ := h
        refine J.aald (r := (6 + (jX5_lineFrom I v4 v5).toNatClampNeg)) dX5_lineAlong_48 (hT.k 3 rfl) rfl rfl (hT.l 3 rfl) hs7 (hT.lineR (vp_lt hs7)) ?_
        refine J.iload dX5_lineAlong_49 rfl ?_
        refine J.callVP (k := (6 + (jX5_lineFrom I v4 v5).toNatClampNeg)) (as := [.int v4]) (rest := []) dX5_lineAlong_51 kX4_otherEnd vX4_otherEnd lX5_73 (hT.lineK (vp_lt hs7)) rfl rfl rfl rfl rfl (by omega) (Nat.le_refl _) (Nat.le_refl _) (qX4_otherEnd (d + 1) hT (jX5_lineFrom I v4 v5).toNatClampNeg (vp_lt hs7) v4 ) ?_
        refine J.istore (ls' := [some (.ref 1), none, none, some (.int a3), some (.int (jOther I (jX5_lineFrom I v4 v5).toNatClampNeg v4)), some (.int v5), some (.int (jX5_lineFrom I v4 v5)), some (.int v7)]) dX5_lineAlong_54 rfl rfl ?_
        refine J.iload dX5_lineAlong_56 rfl ?_
        refine J.iconst (v := 1) dX5_lineAlong_58 (by decide) ?_
        refine J.iload dX5_lineAlong_59 rfl ?_
        refine J.ishl dX5_lineAlong_61 ?_
        refine J.iconst (v := (-1)) dX5_lineAlong_62 (by decide) ?_
        refine J.ixor dX5_lineAlong_63 ?_
        refine J.atpc (pc' := 64) rfl ?_
        refine J.iand dX5_lineAlong_64 ?_
        refine J.istore (ls' := [some (.ref 1), none, none, some (.int a3), some (.int (jOther I (jX5_lineFrom I v4 v5).toNatClampNeg v4)), some (.int (v5 &&& (((1 : Int32) <<< ((jX5_lineFrom I v4 v5) &&& 31)) ^^^ (-1)))), some (.int (jX5_lineFrom I v4 v5)), some (.int v7)]) dX5_lineAlong_65 rfl rfl ?_
        refine J.iinc (v := (v7 + 1)) (ls' := [some (.ref 1), none, none, some (.int a3), some (.int (jOther I (jX5_lineFrom I v4 v5).toNatClampNeg v4)), some (.int (v5 &&& (((1 : Int32) <<< ((jX5_lineFrom I v4 v5) &&& 31)) ^^^ (-1)))), some (.int (jX5_lineFrom I v4 v5)), some (.int (v7 + 1))]) dX5_lineAlong_67 rfl (by rfl) rfl ?_
        refine J.goto (tgt := 12) dX5_lineAlong_70 (by decide) ?_
        exact J.weaken (ls' := [some (.ref 1), none, none, some (.int a3), some (.int (jOther I (jX5_lineFrom I v4 v5).toNatClampNeg v4)), some (.int (v5 &&& (((1 : Int32) <<< ((jX5_lineFrom I v4 v5) &&& 31)) ^^^ (-1)))), some (.int (jX5_lineFrom I v4 v5)), some (.int (v7 + 1))]) (And.intro rfl (And.intro rfl (And.intro rfl (And.intro rfl (And.intro rfl (And.intro rfl trivial)))))) (hK12 (jOther I (jX5_lineFrom I v4 v5).toNatClampNeg v4) (v5 &&& (((1 : Int32) <<< ((jX5_lineFrom I v4 v5) &&& 31)) ^^^ (-1))) (jX5_lineFrom I v4 v5) (v7 + 1) I h)
      · have h := h.2 hc6
        refine J.iconst (v := (-1)) dX5_lineAlong_40 (by decide) ?_
        exact J.iretQ dX5_lineAlong_41 rfl (Nat.le_refl _) (Nat.le_refl _) h
set_option maxHeartbeats 4000000 in
set_option maxRecDepth 100000 in
theorem wX5_lineAlong (d : Nat) {T : Topo} (hT : Lay T) (a1 : Int32) (a2 : Int32) (a3 : Int32)   {Q : Int32 → Topo → IM → Prop} (V12 : Int32 → Int32 → Int32 → Int32 → IM → Prop) (μ12 : Int32 → Int32 → Int32 → Int32 → IM → Nat) (vc12 : ∀ (v4 v5 v6 v7 : Int32) (I : IM), V12 v4 v5 v6 v7 I → fX5_lineAlong_12 T a1 a2 a3 Q (fun w4 w5 w6 w7 I_ => V12 w4 w5 w6 w7 I_ ∧ μ12 w4 w5 w6 w7 I_ < μ12 v4 v5 v6 v7 I) v4 v5 v6 v7 I) {I : IM} (h : fX5_lineAlong_0 T a1 a2 a3 Q V12 I) : Ct (d + 2) mX5_lineAlong [.ref 1, .int a1, .int a2, .int a3] T I 0 0 (PI Q) := by
  have all : ∀ n : Nat, (∀ (v4 v5 v6 v7 : Int32) (I : IM), V12 v4 v5 v6 v7 I → μ12 v4 v5 v6 v7 I < n → J (d + 2) mX5_lineAlong (PI Q) 0 0 12 [some (.ref 1), none, none, some (.int a3), some (.int v4), some (.int v5), some (.int v6), some (.int v7)] [] T I 0 0) := by
    intro n
    induction n with
    | zero => exact fun _ _ _ _ _ _ hn => absurd hn (Nat.not_lt_zero _)
    | succ n ih =>
      exact fun v4 v5 v6 v7 I hv hn => sX5_lineAlong_12 d hT a1 a2 a3   (fun w4 w5 w6 w7 I_ hw => ih w4 w5 w6 w7 I_ hw.1 (by have := hw.2; omega)) v4 v5 v6 v7 I (vc12 v4 v5 v6 v7 I hv)
  exact Ct.ofJ (by decide +kernel) rfl (by intro v hv; revert v hv; simp [Value.category]) rfl (sX5_lineAlong_0 d hT a1 a2 a3   (fun w4 w5 w6 w7 I_ hw => (all (μ12 w4 w5 w6 w7 I_ + 1)) w4 w5 w6 w7 I_ hw (Nat.lt_succ_self _)) I h)

def jX5_lineAlongI (a1 : Int32) (a2 : Int32) (a3 : Int32) : Nat → Int32 → Int32 → Int32 → Int32 → IM → Int32
  | 0 => fun _ _ _ _ I => 0
  | n + 1 => fun v4 v5 v6 v7 I => (if a3 < v7 then (if 9 ≤ a3 then (-1) else v6) else (if 9 ≤ v7 then (if 9 ≤ a3 then (-1) else v6) else (if 0 ≤ (jX5_lineFrom I v4 v5) then (jX5_lineAlongI a1 a2 a3 n (jOther I (jX5_lineFrom I v4 v5).toNatClampNeg v4) (v5 &&& (((1 : Int32) <<< ((jX5_lineFrom I v4 v5) &&& 31)) ^^^ (-1))) (jX5_lineFrom I v4 v5) (v7 + 1) I) else (-1))))
def jX5_lineAlongO (a1 : Int32) (a2 : Int32) (a3 : Int32) : Nat → Int32 → Int32 → Int32 → Int32 → IM → Prop
  | 0 => fun _ _ _ _ _ => False
  | n + 1 => fun v4 v5 v6 v7 I => (((a3 < v7) → True) ∧ ((¬ a3 < v7) → (((9 ≤ v7) → True) ∧ ((¬ 9 ≤ v7) → (((jX5_lineFromK I v4 v5)) ∧ (((0 ≤ (jX5_lineFrom I v4 v5)) → (vp_in (jX5_lineFrom I v4 v5) 9 ∧ (jX5_lineAlongO a1 a2 a3 n (jOther I (jX5_lineFrom I v4 v5).toNatClampNeg v4) (v5 &&& (((1 : Int32) <<< ((jX5_lineFrom I v4 v5) &&& 31)) ^^^ (-1))) (jX5_lineFrom I v4 v5) (v7 + 1) I))) ∧ ((¬ 0 ≤ (jX5_lineFrom I v4 v5)) → True)))))))
theorem jX5_lineAlongI_12 (a1 : Int32) (a2 : Int32) (a3 : Int32) (n : Nat) (v4 v5 v6 v7 : Int32) (I : IM) : jX5_lineAlongI a1 a2 a3 (n + 1) v4 v5 v6 v7 I = (if a3 < v7 then (if 9 ≤ a3 then (-1) else v6) else (if 9 ≤ v7 then (if 9 ≤ a3 then (-1) else v6) else (if 0 ≤ (jX5_lineFrom I v4 v5) then (jX5_lineAlongI a1 a2 a3 n (jOther I (jX5_lineFrom I v4 v5).toNatClampNeg v4) (v5 &&& (((1 : Int32) <<< ((jX5_lineFrom I v4 v5) &&& 31)) ^^^ (-1))) (jX5_lineFrom I v4 v5) (v7 + 1) I) else (-1)))) := rfl
theorem jX5_lineAlongO_12 (a1 : Int32) (a2 : Int32) (a3 : Int32) (n : Nat) (v4 v5 v6 v7 : Int32) (I : IM) : jX5_lineAlongO a1 a2 a3 (n + 1) v4 v5 v6 v7 I = (((a3 < v7) → True) ∧ ((¬ a3 < v7) → (((9 ≤ v7) → True) ∧ ((¬ 9 ≤ v7) → (((jX5_lineFromK I v4 v5)) ∧ (((0 ≤ (jX5_lineFrom I v4 v5)) → (vp_in (jX5_lineFrom I v4 v5) 9 ∧ (jX5_lineAlongO a1 a2 a3 n (jOther I (jX5_lineFrom I v4 v5).toNatClampNeg v4) (v5 &&& (((1 : Int32) <<< ((jX5_lineFrom I v4 v5) &&& 31)) ^^^ (-1))) (jX5_lineFrom I v4 v5) (v7 + 1) I))) ∧ ((¬ 0 ≤ (jX5_lineFrom I v4 v5)) → True))))))) := rfl
def jX5_lineAlong (I : IM) (a1 : Int32) (a2 : Int32) (a3 : Int32) : Int32 := (jX5_lineAlongI a1 a2 a3 FU a1 a2 (-1) 0 I)
def jX5_lineAlongK (I : IM) (a1 : Int32) (a2 : Int32) (a3 : Int32) : Prop := (jX5_lineAlongO a1 a2 a3 FU a1 a2 (-1) 0 I)
set_option maxRecDepth 10000 in
set_option maxHeartbeats 1000000 in
theorem uX5_lineAlong (d : Nat) {T : Topo} (hT : Lay T) (a1 : Int32) (a2 : Int32) (a3 : Int32)   {R : Int32} {I00 : IM} : ∀ n : Nat, (∀ (v4 v5 v6 v7 : Int32) (I : IM), I = I00 → jX5_lineAlongO a1 a2 a3 n v4 v5 v6 v7 I → jX5_lineAlongI a1 a2 a3 n v4 v5 v6 v7 I = R → J (d + 2) mX5_lineAlong (PI (fun x T' I' => x = R ∧ T' = T ∧ I' = I00)) 0 0 12 [some (.ref 1), none, none, some (.int a3), some (.int v4), some (.int v5), some (.int v6), some (.int v7)] [] T I 0 0) := by
  intro n
  induction n with
  | zero => exact fun _ _ _ _ _ _ hz => hz.elim
  | succ n ih =>
    exact fun v4 v5 v6 v7 I hI hok hit => by
        rw [jX5_lineAlongO_12] at hok
        exact sX5_lineAlong_12 d hT a1 a2 a3   (K12 := fun w4 w5 w6 w7 I_ => (jX5_lineAlongO a1 a2 a3 n w4 w5 w6 w7 I_ ∧ jX5_lineAlongI a1 a2 a3 n w4 w5 w6 w7 I_ = R) ∧ I_ = I00) (fun w4 w5 w6 w7 I_ hw => ih w4 w5 w6 w7 I_ hw.2 hw.1.1 hw.1.2) v4 v5 v6 v7 I (by
          unfold fX5_lineAlong_12
          exact ⟨fun hc1 => ⟨fun hc2 => ⟨by rw [jX5_lineAlongI_12, if_pos hc1, if_pos hc2] at hit; exact hit, rfl, hI⟩, fun hc2 => ⟨by rw [jX5_lineAlongI_12, if_pos hc1, if_neg hc2] at hit; exact hit, rfl, hI⟩⟩, fun hc1 => ⟨fun hc3 => ⟨fun hc4 => ⟨by rw [jX5_lineAlongI_12, if_neg hc1, if_pos hc3, if_pos hc4] at hit; exact hit, rfl, hI⟩, fun hc4 => ⟨by rw [jX5_lineAlongI_12, if_neg hc1, if_pos hc3, if_neg hc4] at hit; exact hit, rfl, hI⟩⟩, fun hc3 => ⟨(((hok).2 hc1).2 hc3).1, ⟨fun hc5 => ⟨(((((hok).2 hc1).2 hc3).2).1 hc5).1, ⟨⟨(((((hok).2 hc1).2 hc3).2).1 hc5).2, by rw [jX5_lineAlongI_12, if_neg hc1, if_neg hc3, if_pos hc5] at hit; exact hit⟩, hI⟩⟩, fun hc5 => ⟨by rw [jX5_lineAlongI_12, if_neg hc1, if_neg hc3, if_neg hc5] at hit; exact hit, rfl, hI⟩⟩⟩⟩⟩)
set_option maxRecDepth 10000 in
set_option maxHeartbeats 1000000 in
theorem qX5_lineAlong (d : Nat) {T : Topo} {I : IM} (hT : Lay T) (a1 : Int32) (a2 : Int32) (a3 : Int32)  (hp : (jX5_lineAlongK I a1 a2 a3)) : CtP (d + 2) mX5_lineAlong [.ref 1, .int a1, .int a2, .int a3] T I (jX5_lineAlong I a1 a2 a3) := by
  unfold jX5_lineAlongK at hp
  exact Ct.ofJ (by decide +kernel) rfl (by intro v hv; revert v hv; simp [Value.category]) rfl (sX5_lineAlong_0 d hT a1 a2 a3   (K12 := fun w4 w5 w6 w7 I_ => (jX5_lineAlongO a1 a2 a3 FU w4 w5 w6 w7 I_ ∧ jX5_lineAlongI a1 a2 a3 FU w4 w5 w6 w7 I_ = (jX5_lineAlong I a1 a2 a3)) ∧ I_ = I) (fun w4 w5 w6 w7 I_ hw => uX5_lineAlong d hT a1 a2 a3   FU w4 w5 w6 w7 I_ hw.2 hw.1.1 hw.1.2) I (by
    unfold fX5_lineAlong_0
    exact ⟨⟨hp, rfl⟩, rfl⟩))

end
