noncomputable section
def fX3_placeGot_0 (T : Topo) (a1 : Int32) (Q : Int32 → Topo → IM → Prop)  (I : IM) : Prop :=
  (vp_in a1 8 ∧ Q (I 66 a1.toNatClampNeg) T I)
set_option maxHeartbeats 4000000 in
set_option maxRecDepth 100000 in
theorem sX3_placeGot_0 (d : Nat) {T : Topo} (hT : Lay T) (a1 : Int32)    {Q : Int32 → Topo → IM → Prop}   (I : IM) (h : fX3_placeGot_0 T a1 Q  I) : J (d + 0) mX3_placeGot (PI Q) 0 0 0 [some (.ref 56), some (.int a1)] [] T I 0 0 := by
  unfold fX3_placeGot_0 at h
  refine J.aload_n dX3_placeGot_0 rfl rfl ?_
  refine J.getR (r := 66) dX3_placeGot_1 fX3_31 (hT.k 56 rfl) rfl (hT.r 56 7 rfl rfl) ?_
  refine J.iload_n dX3_placeGot_4 rfl rfl ?_
  obtain ⟨hs1, h⟩ := h
  refine J.iald dX3_placeGot_5 (hT.k 66 rfl) (hT.l 66 rfl) hs1 ?_
  exact J.iretQ dX3_placeGot_6 rfl (Nat.le_refl _) (Nat.le_refl _) h
set_option maxHeartbeats 4000000 in
set_option maxRecDepth 100000 in
theorem wX3_placeGot (d : Nat) {T : Topo} (hT : Lay T) (a1 : Int32)   {Q : Int32 → Topo → IM → Prop} {I : IM} (h : fX3_placeGot_0 T a1 Q I) : Ct (d + 0) mX3_placeGot [.ref 56, .int a1] T I 0 0 (PI Q) :=
  Ct.ofJ (by decide +kernel) rfl (by intro v hv; revert v hv; simp [Value.category]) rfl (sX3_placeGot_0 d hT a1   I h)

def jX3_placeGot (I : IM) (a1 : Int32) : Int32 := (I 66 a1.toNatClampNeg)
def jX3_placeGotK (a1 : Int32) : Prop := vp_in a1 8
set_option maxRecDepth 10000 in
theorem qX3_placeGot (d : Nat) {T : Topo} {I : IM} (hT : Lay T) (a1 : Int32)  (hp : (jX3_placeGotK a1)) : CtP (d + 0) mX3_placeGot [.ref 56, .int a1] T I ((jX3_placeGot I a1)) :=
  wX3_placeGot d hT a1   (by
  unfold fX3_placeGot_0
  exact ⟨hp, ⟨by unfold jX3_placeGot; rfl, rfl, rfl⟩⟩)

def fX3_countingAt_0 (T : Topo) (a1 : Int32) (Q : Int32 → Topo → IM → Prop) (K4 : Int32 → Int32 → IM → Prop) (I : IM) : Prop :=
  K4 0 0 I
def fX3_countingAt_4 (T : Topo) (a1 : Int32) (Q : Int32 → Topo → IM → Prop) (K4 : Int32 → Int32 → IM → Prop) (v2 v3 : Int32) (I : IM) : Prop :=
  ((((I 15 1) ≤ v3) → Q v2 T I) ∧ ((¬ (I 15 1) ≤ v3) → ((vp_in v3 8) ∧ ((((¬ (hs (I (17 + 4 * (v3).toNatClampNeg) 11) a1)) → K4 v2 (v3 + 1) I) ∧ ((hs (I (17 + 4 * (v3).toNatClampNeg) 11) a1) → K4 (v2 ||| ((1 : Int32) <<< (v3 &&& 31))) (v3 + 1) I))))))
set_option maxHeartbeats 4000000 in
set_option maxRecDepth 100000 in
theorem sX3_countingAt_0 (d : Nat) {T : Topo} (hT : Lay T) (a1 : Int32)    {Q : Int32 → Topo → IM → Prop} {K4 : Int32 → Int32 → IM → Prop} (hK4 : ∀ (v2 v3 : Int32) (I : IM), K4 v2 v3 I → J (d + 1) mX3_countingAt (PI Q) 0 0 4 [some (.ref 56), some (.int a1), some (.int v2), some (.int v3)] [] T I 0 0) (I : IM) (h : fX3_countingAt_0 T a1 Q K4 I) : J (d + 1) mX3_countingAt (PI Q) 0 0 0 [some (.ref 56), some (.int a1), none, none] [] T I 0 0 := by
  unfold fX3_countingAt_0 at h
  refine J.iconst (v := 0) dX3_countingAt_0 (by decide) ?_
  refine J.istore_n (ls' := [some (.ref 56), some (.int a1), some (.int 0), none]) dX3_countingAt_1 rfl rfl rfl ?_
  refine J.iconst (v := 0) dX3_countingAt_2 (by decide) ?_
  refine J.istore_n (ls' := [some (.ref 56), some (.int a1), some (.int 0), some (.int 0)]) dX3_countingAt_3 rfl rfl rfl ?_
  exact J.weaken (ls' := [some (.ref 56), some (.int a1), some (.int 0), some (.int 0)]) (And.intro rfl (And.intro rfl (And.intro rfl (And.intro rfl trivial)))) (hK4 0 0 I h)
set_option maxHeartbeats 4000000 in
set_option maxRecDepth 100000 in
theorem sX3_countingAt_4 (d : Nat) {T : Topo} (hT : Lay T) (a1 : Int32)    {Q : Int32 → Topo → IM → Prop} {K4 : Int32 → Int32 → IM → Prop} (hK4 : ∀ (v2 v3 : Int32) (I : IM), K4 v2 v3 I → J (d + 1) mX3_countingAt (PI Q) 0 0 4 [some (.ref 56), some (.int a1), some (.int v2), some (.int v3)] [] T I 0 0) (v2 v3 : Int32) (I : IM) (h : fX3_countingAt_4 T a1 Q K4 v2 v3 I) : J (d + 1) mX3_countingAt (PI Q) 0 0 4 [some (.ref 56), some (.int a1), some (.int v2), some (.int v3)] [] T I 0 0 := by
  unfold fX3_countingAt_4 at h
  refine J.iload_n dX3_countingAt_4 rfl rfl ?_
  refine J.aload_n dX3_countingAt_5 rfl rfl ?_
  refine J.getR (r := 15) dX3_countingAt_6 fX3_44 (hT.k 56 rfl) rfl (hT.r 56 1 rfl rfl) ?_
  refine J.getI dX3_countingAt_9 fX3_56 (hT.k 15 rfl) rfl ?_
  refine J.icmp_ge (tgt := 45) dX3_countingAt_12 (by decide) (fun hc1 => ?_) (fun hc1 => ?_)
  · have h := h.1 hc1
    refine J.iload_n dX3_countingAt_45 rfl rfl ?_
    exact J.iretQ dX3_countingAt_46 rfl (Nat.le_refl _) (Nat.le_refl _) h
  · have h := h.2 hc1
    refine J.aload_n dX3_countingAt_15 rfl rfl ?_
    refine J.getR (r := 15) dX3_countingAt_16 fX3_44 (hT.k 56 rfl) rfl (hT.r 56 1 rfl rfl) ?_
    refine J.iload_n dX3_countingAt_19 rfl rfl ?_
    obtain ⟨hp2, h⟩ := h
    refine J.callVF (r := (17 + 4 * (v3).toNatClampNeg)) (k := 15) (as := [.int v3]) (rest := []) dX3_countingAt_20 kX9_at vX9_at lX3_111 (hT.k 15 rfl) rfl rfl rfl rfl rfl (by omega) (Nat.le_refl _) (Nat.le_refl _) (qX9_at (d + 0) hT v3 hp2) ?_
    refine J.getI dX3_countingAt_23 fX3_115 (hT.sliceK (vp_lt hp2)) rfl ?_
    refine J.iload_n dX3_countingAt_26 rfl rfl ?_
    refine J.callSP (as := [.int (I (17 + 4 * (v3).toNatClampNeg) 11), .int a1]) (rest := []) dX3_countingAt_27 kX11_has vX11_has lX3_118 rfl rfl rfl (by omega) (Nat.le_refl _) (Nat.le_refl _) (qX11_has (d + 0) hT (I (17 + 4 * (v3).toNatClampNeg) 11) a1 ) ?_
    refine J.bz_eq (tgt := 39) dX3_countingAt_30 (by decide) (fun hc3 => ?_) (fun hc3 => ?_)
    · have h := h.1 hc3
      refine J.iinc (v := (v3 + 1)) (ls' := [some (.ref 56), some (.int a1), some (.int v2), some (.int (v3 + 1))]) dX3_countingAt_39 rfl (by rfl) rfl ?_
      refine J.goto (tgt := 4) dX3_countingAt_42 (by decide) ?_
      exact J.weaken (ls' := [some (.ref 56), some (.int a1), some (.int v2), some (.int (v3 + 1))]) (And.intro rfl (And.intro rfl (And.intro rfl (And.intro rfl trivial)))) (hK4 v2 (v3 + 1) I h)
    · have h := h.2 hc3
      refine J.iload_n dX3_countingAt_33 rfl rfl ?_
      refine J.iconst (v := 1) dX3_countingAt_34 (by decide) ?_
      refine J.iload_n dX3_countingAt_35 rfl rfl ?_
      refine J.ishl dX3_countingAt_36 ?_
      refine J.ior dX3_countingAt_37 ?_
      refine J.istore_n (ls' := [some (.ref 56), some (.int a1), some (.int (v2 ||| ((1 : Int32) <<< (v3 &&& 31)))), some (.int v3)]) dX3_countingAt_38 rfl rfl rfl ?_
      refine J.iinc (v := (v3 + 1)) (ls' := [some (.ref 56), some (.int a1), some (.int (v2 ||| ((1 : Int32) <<< (v3 &&& 31)))), some (.int (v3 + 1))]) dX3_countingAt_39 rfl (by rfl) rfl ?_
      refine J.atpc (pc' := 42) rfl ?_
      refine J.goto (tgt := 4) dX3_countingAt_42 (by decide) ?_
      exact J.weaken (ls' := [some (.ref 56), some (.int a1), some (.int (v2 ||| ((1 : Int32) <<< (v3 &&& 31)))), some (.int (v3 + 1))]) (And.intro rfl (And.intro rfl (And.intro rfl (And.intro rfl trivial)))) (hK4 (v2 ||| ((1 : Int32) <<< (v3 &&& 31))) (v3 + 1) I h)
set_option maxHeartbeats 4000000 in
set_option maxRecDepth 100000 in
theorem wX3_countingAt (d : Nat) {T : Topo} (hT : Lay T) (a1 : Int32)   {Q : Int32 → Topo → IM → Prop} (V4 : Int32 → Int32 → IM → Prop) (μ4 : Int32 → Int32 → IM → Nat) (vc4 : ∀ (v2 v3 : Int32) (I : IM), V4 v2 v3 I → fX3_countingAt_4 T a1 Q (fun w2 w3 I_ => V4 w2 w3 I_ ∧ μ4 w2 w3 I_ < μ4 v2 v3 I) v2 v3 I) {I : IM} (h : fX3_countingAt_0 T a1 Q V4 I) : Ct (d + 1) mX3_countingAt [.ref 56, .int a1] T I 0 0 (PI Q) := by
  have all : ∀ n : Nat, (∀ (v2 v3 : Int32) (I : IM), V4 v2 v3 I → μ4 v2 v3 I < n → J (d + 1) mX3_countingAt (PI Q) 0 0 4 [some (.ref 56), some (.int a1), some (.int v2), some (.int v3)] [] T I 0 0) := by
    intro n
    induction n with
    | zero => exact fun _ _ _ _ hn => absurd hn (Nat.not_lt_zero _)
    | succ n ih =>
      exact fun v2 v3 I hv hn => sX3_countingAt_4 d hT a1   (fun w2 w3 I_ hw => ih w2 w3 I_ hw.1 (by have := hw.2; omega)) v2 v3 I (vc4 v2 v3 I hv)
  exact Ct.ofJ (by decide +kernel) rfl (by intro v hv; revert v hv; simp [Value.category]) rfl (sX3_countingAt_0 d hT a1   (fun w2 w3 I_ hw => (all (μ4 w2 w3 I_ + 1)) w2 w3 I_ hw (Nat.lt_succ_self _)) I h)

def jX3_countingAtI (a1 : Int32) : Nat → Int32 → Int32 → IM → Int32
  | 0 => fun _ _ I => 0
  | n + 1 => fun v2 v3 I => (if (I 15 1) ≤ v3 then v2 else (if hs (I (17 + 4 * (v3).toNatClampNeg) 11) a1 then (jX3_countingAtI a1 n (v2 ||| ((1 : Int32) <<< (v3 &&& 31))) (v3 + 1) I) else (jX3_countingAtI a1 n v2 (v3 + 1) I)))
def jX3_countingAtO (a1 : Int32) : Nat → Int32 → Int32 → IM → Prop
  | 0 => fun _ _ _ => False
  | n + 1 => fun v2 v3 I => ((((I 15 1) ≤ v3) → True) ∧ ((¬ (I 15 1) ≤ v3) → ((vp_in v3 8) ∧ (((¬ (hs (I (17 + 4 * (v3).toNatClampNeg) 11) a1)) → (jX3_countingAtO a1 n v2 (v3 + 1) I)) ∧ ((hs (I (17 + 4 * (v3).toNatClampNeg) 11) a1) → (jX3_countingAtO a1 n (v2 ||| ((1 : Int32) <<< (v3 &&& 31))) (v3 + 1) I))))))
theorem jX3_countingAtI_4 (a1 : Int32) (n : Nat) (v2 v3 : Int32) (I : IM) : jX3_countingAtI a1 (n + 1) v2 v3 I = (if (I 15 1) ≤ v3 then v2 else (if hs (I (17 + 4 * (v3).toNatClampNeg) 11) a1 then (jX3_countingAtI a1 n (v2 ||| ((1 : Int32) <<< (v3 &&& 31))) (v3 + 1) I) else (jX3_countingAtI a1 n v2 (v3 + 1) I))) := rfl
theorem jX3_countingAtO_4 (a1 : Int32) (n : Nat) (v2 v3 : Int32) (I : IM) : jX3_countingAtO a1 (n + 1) v2 v3 I = ((((I 15 1) ≤ v3) → True) ∧ ((¬ (I 15 1) ≤ v3) → ((vp_in v3 8) ∧ (((¬ (hs (I (17 + 4 * (v3).toNatClampNeg) 11) a1)) → (jX3_countingAtO a1 n v2 (v3 + 1) I)) ∧ ((hs (I (17 + 4 * (v3).toNatClampNeg) 11) a1) → (jX3_countingAtO a1 n (v2 ||| ((1 : Int32) <<< (v3 &&& 31))) (v3 + 1) I)))))) := rfl
def jX3_countingAt (I : IM) (a1 : Int32) : Int32 := (jX3_countingAtI a1 FU 0 0 I)
def jX3_countingAtK (I : IM) (a1 : Int32) : Prop := (jX3_countingAtO a1 FU 0 0 I)
set_option maxRecDepth 10000 in
set_option maxHeartbeats 1000000 in
theorem uX3_countingAt (d : Nat) {T : Topo} (hT : Lay T) (a1 : Int32)   {R : Int32} {I00 : IM} : ∀ n : Nat, (∀ (v2 v3 : Int32) (I : IM), I = I00 → jX3_countingAtO a1 n v2 v3 I → jX3_countingAtI a1 n v2 v3 I = R → J (d + 1) mX3_countingAt (PI (fun x T' I' => x = R ∧ T' = T ∧ I' = I00)) 0 0 4 [some (.ref 56), some (.int a1), some (.int v2), some (.int v3)] [] T I 0 0) := by
  intro n
  induction n with
  | zero => exact fun _ _ _ _ hz => hz.elim
  | succ n ih =>
    exact fun v2 v3 I hI hok hit => by
        rw [jX3_countingAtO_4] at hok
        exact sX3_countingAt_4 d hT a1   (K4 := fun w2 w3 I_ => (jX3_countingAtO a1 n w2 w3 I_ ∧ jX3_countingAtI a1 n w2 w3 I_ = R) ∧ I_ = I00) (fun w2 w3 I_ hw => ih w2 w3 I_ hw.2 hw.1.1 hw.1.2) v2 v3 I (by
          unfold fX3_countingAt_4
          exact ⟨fun hc1 => ⟨by rw [jX3_countingAtI_4, if_pos hc1] at hit; exact hit, rfl, hI⟩, fun hc1 => ⟨((hok).2 hc1).1, ⟨fun hc2 => ⟨⟨(((hok).2 hc1).2).1 hc2, by rw [jX3_countingAtI_4, if_neg hc1, if_neg hc2] at hit; exact hit⟩, hI⟩, fun hc2 => ⟨⟨(((hok).2 hc1).2).2 hc2, by rw [jX3_countingAtI_4, if_neg hc1, if_pos hc2] at hit; exact hit⟩, hI⟩⟩⟩⟩)
set_option maxRecDepth 10000 in
set_option maxHeartbeats 1000000 in
theorem qX3_countingAt (d : Nat) {T : Topo} {I : IM} (hT : Lay T) (a1 : Int32)  (hp : (jX3_countingAtK I a1)) : CtP (d + 1) mX3_countingAt [.ref 56, .int a1] T I (jX3_countingAt I a1) := by
  unfold jX3_countingAtK at hp
  exact Ct.ofJ (by decide +kernel) rfl (by intro v hv; revert v hv; simp [Value.category]) rfl (sX3_countingAt_0 d hT a1   (K4 := fun w2 w3 I_ => (jX3_countingAtO a1 FU w2 w3 I_ ∧ jX3_countingAtI a1 FU w2 w3 I_ = (jX3_countingAt I a1)) ∧ I_ = I) (fun w2 w3 I_ hw => uX3_countingAt d hT a1   FU w2 w3 I_ hw.2 hw.1.1 hw.1.2) I (by
    unfold fX3_countingAt_0
    exact ⟨⟨hp, rfl⟩, rfl⟩))

def fX3_isKnown_0 (T : Topo) (a1 : Int32) (Q : Int32 → Topo → IM → Prop) (K2 : Int32 → IM → Prop) (I : IM) : Prop :=
  K2 0 I
def fX3_isKnown_2 (T : Topo) (a1 : Int32) (Q : Int32 → Topo → IM → Prop) (K2 : Int32 → IM → Prop) (v2 : Int32) (I : IM) : Prop :=
  ((((I 57 4) ≤ v2) → Q 0 T I) ∧ ((¬ (I 57 4) ≤ v2) → (vp_in v2 24 ∧ (((¬ (I 62 v2.toNatClampNeg) = a1) → K2 (v2 + 1) I) ∧ (((I 62 v2.toNatClampNeg) = a1) → Q 1 T I)))))
set_option maxHeartbeats 4000000 in
set_option maxRecDepth 100000 in
theorem sX3_isKnown_0 (d : Nat) {T : Topo} (hT : Lay T) (a1 : Int32)    {Q : Int32 → Topo → IM → Prop} {K2 : Int32 → IM → Prop} (hK2 : ∀ (v2 : Int32) (I : IM), K2 v2 I → J (d + 0) mX3_isKnown (PI Q) 0 0 2 [some (.ref 56), some (.int a1), some (.int v2)] [] T I 0 0) (I : IM) (h : fX3_isKnown_0 T a1 Q K2 I) : J (d + 0) mX3_isKnown (PI Q) 0 0 0 [some (.ref 56), some (.int a1), none] [] T I 0 0 := by
  unfold fX3_isKnown_0 at h
  refine J.iconst (v := 0) dX3_isKnown_0 (by decide) ?_
  refine J.istore_n (ls' := [some (.ref 56), some (.int a1), some (.int 0)]) dX3_isKnown_1 rfl rfl rfl ?_
  exact J.weaken (ls' := [some (.ref 56), some (.int a1), some (.int 0)]) (And.intro rfl (And.intro rfl (And.intro rfl trivial))) (hK2 0 I h)
set_option maxHeartbeats 4000000 in
set_option maxRecDepth 100000 in
theorem sX3_isKnown_2 (d : Nat) {T : Topo} (hT : Lay T) (a1 : Int32)    {Q : Int32 → Topo → IM → Prop} {K2 : Int32 → IM → Prop} (hK2 : ∀ (v2 : Int32) (I : IM), K2 v2 I → J (d + 0) mX3_isKnown (PI Q) 0 0 2 [some (.ref 56), some (.int a1), some (.int v2)] [] T I 0 0) (v2 : Int32) (I : IM) (h : fX3_isKnown_2 T a1 Q K2 v2 I) : J (d + 0) mX3_isKnown (PI Q) 0 0 2 [some (.ref 56), some (.int a1), some (.int v2)] [] T I 0 0 := by
  unfold fX3_isKnown_2 at h
  refine J.iload_n dX3_isKnown_2 rfl rfl ?_
  refine J.aload_n dX3_isKnown_3 rfl rfl ?_
  refine J.getR (r := 57) dX3_isKnown_4 fX3_12 (hT.k 56 rfl) rfl (hT.r 56 2 rfl rfl) ?_
  refine J.getI dX3_isKnown_7 fX3_98 (hT.k 57 rfl) rfl ?_
  refine J.icmp_ge (tgt := 31) dX3_isKnown_10 (by decide) (fun hc1 => ?_) (fun hc1 => ?_)
  · have h := h.1 hc1
    refine J.iconst (v := 0) dX3_isKnown_31 (by decide) ?_
    exact J.zretQ dX3_isKnown_32 rfl (Or.inl rfl) (Nat.le_refl _) (Nat.le_refl _) h
  · have h := h.2 hc1
    refine J.aload_n dX3_isKnown_13 rfl rfl ?_
    refine J.getR (r := 62) dX3_isKnown_14 fX3_18 (hT.k 56 rfl) rfl (hT.r 56 3 rfl rfl) ?_
    refine J.iload_n dX3_isKnown_17 rfl rfl ?_
    obtain ⟨hs2, h⟩ := h
    refine J.iald dX3_isKnown_18 (hT.k 62 rfl) (hT.l 62 rfl) hs2 ?_
    refine J.iload_n dX3_isKnown_19 rfl rfl ?_
    refine J.icmp_ne (tgt := 25) dX3_isKnown_20 (by decide) (fun hc3 => ?_) (fun hc3 => ?_)
    · have h := h.1 hc3
      refine J.iinc (v := (v2 + 1)) (ls' := [some (.ref 56), some (.int a1), some (.int (v2 + 1))]) dX3_isKnown_25 rfl (by rfl) rfl ?_
      refine J.goto (tgt := 2) dX3_isKnown_28 (by decide) ?_
      exact J.weaken (ls' := [some (.ref 56), some (.int a1), some (.int (v2 + 1))]) (And.intro rfl (And.intro rfl (And.intro rfl trivial))) (hK2 (v2 + 1) I h)
    · have h := h.2 hc3
      refine J.iconst (v := 1) dX3_isKnown_23 (by decide) ?_
      exact J.zretQ dX3_isKnown_24 rfl (Or.inr rfl) (Nat.le_refl _) (Nat.le_refl _) h
set_option maxHeartbeats 4000000 in
set_option maxRecDepth 100000 in
theorem wX3_isKnown (d : Nat) {T : Topo} (hT : Lay T) (a1 : Int32)   {Q : Int32 → Topo → IM → Prop} (V2 : Int32 → IM → Prop) (μ2 : Int32 → IM → Nat) (vc2 : ∀ (v2 : Int32) (I : IM), V2 v2 I → fX3_isKnown_2 T a1 Q (fun w2 I_ => V2 w2 I_ ∧ μ2 w2 I_ < μ2 v2 I) v2 I) {I : IM} (h : fX3_isKnown_0 T a1 Q V2 I) : Ct (d + 0) mX3_isKnown [.ref 56, .int a1] T I 0 0 (PI Q) := by
  have all : ∀ n : Nat, (∀ (v2 : Int32) (I : IM), V2 v2 I → μ2 v2 I < n → J (d + 0) mX3_isKnown (PI Q) 0 0 2 [some (.ref 56), some (.int a1), some (.int v2)] [] T I 0 0) := by
    intro n
    induction n with
    | zero => exact fun _ _ _ hn => absurd hn (Nat.not_lt_zero _)
    | succ n ih =>
      exact fun v2 I hv hn => sX3_isKnown_2 d hT a1   (fun w2 I_ hw => ih w2 I_ hw.1 (by have := hw.2; omega)) v2 I (vc2 v2 I hv)
  exact Ct.ofJ (by decide +kernel) rfl (by intro v hv; revert v hv; simp [Value.category]) rfl (sX3_isKnown_0 d hT a1   (fun w2 I_ hw => (all (μ2 w2 I_ + 1)) w2 I_ hw (Nat.lt_succ_self _)) I h)

def jX3_isKnownI (a1 : Int32) : Nat → Int32 → IM → Int32
  | 0 => fun _ I => 0
  | n + 1 => fun v2 I => (if (I 57 4) ≤ v2 then 0 else (if (I 62 v2.toNatClampNeg) = a1 then 1 else (jX3_isKnownI a1 n (v2 + 1) I)))
def jX3_isKnownO (a1 : Int32) : Nat → Int32 → IM → Prop
  | 0 => fun _ _ => False
  | n + 1 => fun v2 I => ((((I 57 4) ≤ v2) → True) ∧ ((¬ (I 57 4) ≤ v2) → (vp_in v2 24 ∧ (((¬ (I 62 v2.toNatClampNeg) = a1) → (jX3_isKnownO a1 n (v2 + 1) I)) ∧ (((I 62 v2.toNatClampNeg) = a1) → True)))))
theorem jX3_isKnownI_2 (a1 : Int32) (n : Nat) (v2 : Int32) (I : IM) : jX3_isKnownI a1 (n + 1) v2 I = (if (I 57 4) ≤ v2 then 0 else (if (I 62 v2.toNatClampNeg) = a1 then 1 else (jX3_isKnownI a1 n (v2 + 1) I))) := rfl
theorem jX3_isKnownO_2 (a1 : Int32) (n : Nat) (v2 : Int32) (I : IM) : jX3_isKnownO a1 (n + 1) v2 I = ((((I 57 4) ≤ v2) → True) ∧ ((¬ (I 57 4) ≤ v2) → (vp_in v2 24 ∧ (((¬ (I 62 v2.toNatClampNeg) = a1) → (jX3_isKnownO a1 n (v2 + 1) I)) ∧ (((I 62 v2.toNatClampNeg) = a1) → True))))) := rfl
def jX3_isKnown (I : IM) (a1 : Int32) : Int32 := (jX3_isKnownI a1 FU 0 I)
def jX3_isKnownK (I : IM) (a1 : Int32) : Prop := (jX3_isKnownO a1 FU 0 I)
set_option maxRecDepth 10000 in
set_option maxHeartbeats 1000000 in
theorem uX3_isKnown (d : Nat) {T : Topo} (hT : Lay T) (a1 : Int32)   {R : Int32} {I00 : IM} : ∀ n : Nat, (∀ (v2 : Int32) (I : IM), I = I00 → jX3_isKnownO a1 n v2 I → jX3_isKnownI a1 n v2 I = R → J (d + 0) mX3_isKnown (PI (fun x T' I' => x = R ∧ T' = T ∧ I' = I00)) 0 0 2 [some (.ref 56), some (.int a1), some (.int v2)] [] T I 0 0) := by
  intro n
  induction n with
  | zero => exact fun _ _ _ hz => hz.elim
  | succ n ih =>
    exact fun v2 I hI hok hit => by
        rw [jX3_isKnownO_2] at hok
        exact sX3_isKnown_2 d hT a1   (K2 := fun w2 I_ => (jX3_isKnownO a1 n w2 I_ ∧ jX3_isKnownI a1 n w2 I_ = R) ∧ I_ = I00) (fun w2 I_ hw => ih w2 I_ hw.2 hw.1.1 hw.1.2) v2 I (by
          unfold fX3_isKnown_2
          exact ⟨fun hc1 => ⟨by rw [jX3_isKnownI_2, if_pos hc1] at hit; exact hit, rfl, hI⟩, fun hc1 => ⟨((hok).2 hc1).1, ⟨fun hc2 => ⟨⟨(((hok).2 hc1).2).1 hc2, by rw [jX3_isKnownI_2, if_neg hc1, if_neg hc2] at hit; exact hit⟩, hI⟩, fun hc2 => ⟨by rw [jX3_isKnownI_2, if_neg hc1, if_pos hc2] at hit; exact hit, rfl, hI⟩⟩⟩⟩)
set_option maxRecDepth 10000 in
set_option maxHeartbeats 1000000 in
theorem qX3_isKnown (d : Nat) {T : Topo} {I : IM} (hT : Lay T) (a1 : Int32)  (hp : (jX3_isKnownK I a1)) : CtP (d + 0) mX3_isKnown [.ref 56, .int a1] T I (jX3_isKnown I a1) := by
  unfold jX3_isKnownK at hp
  exact Ct.ofJ (by decide +kernel) rfl (by intro v hv; revert v hv; simp [Value.category]) rfl (sX3_isKnown_0 d hT a1   (K2 := fun w2 I_ => (jX3_isKnownO a1 FU w2 I_ ∧ jX3_isKnownI a1 FU w2 I_ = (jX3_isKnown I a1)) ∧ I_ = I) (fun w2 I_ hw => uX3_isKnown d hT a1   FU w2 I_ hw.2 hw.1.1 hw.1.2) I (by
    unfold fX3_isKnown_0
    exact ⟨⟨hp, rfl⟩, rfl⟩))

def fX3_note_0 (T : Topo) (a1 : Int32) (Q : Topo → IM → Prop) (K17 : Int32 → Int32 → IM → Prop) (I : IM) : Prop :=
  (vp_in (I 57 4) 24 ∧ K17 (I 57 4) 0 (up2 I 62 (I 57 4).toNatClampNeg a1))
def fX3_note_17 (T : Topo) (a1 : Int32) (Q : Topo → IM → Prop) (K17 : Int32 → Int32 → IM → Prop) (v2 v3 : Int32) (I : IM) : Prop :=
  ((((I 15 1) ≤ v3) → Q T (up2 I 57 4 ((I 57 4) + 1))) ∧ ((¬ (I 15 1) ≤ v3) → ((((¬ (hs a1 v3)) → K17 v2 (v3 + 1) I) ∧ ((hs a1 v3) → (vp_in v3 8 ∧ (vp_in v3 8 ∧ K17 v2 (v3 + 1) (up2 I 63 v3.toNatClampNeg ((I 63 v3.toNatClampNeg) ||| ((1 : Int32) <<< (v2 &&& 31)))))))))))
set_option maxHeartbeats 4000000 in
set_option maxRecDepth 100000 in
theorem sX3_note_0 (d : Nat) {T : Topo} (hT : Lay T) (a1 : Int32)    {Q : Topo → IM → Prop} {K17 : Int32 → Int32 → IM → Prop} (hK17 : ∀ (v2 v3 : Int32) (I : IM), K17 v2 v3 I → J (d + 1) mX3_note (PV Q) 0 0 17 [some (.ref 56), some (.int a1), some (.int v2), some (.int v3)] [] T I 0 0) (I : IM) (h : fX3_note_0 T a1 Q K17 I) : J (d + 1) mX3_note (PV Q) 0 0 0 [some (.ref 56), some (.int a1), none, none] [] T I 0 0 := by
  unfold fX3_note_0 at h
  refine J.aload_n dX3_note_0 rfl rfl ?_
  refine J.getR (r := 57) dX3_note_1 fX3_12 (hT.k 56 rfl) rfl (hT.r 56 2 rfl rfl) ?_
  refine J.getI dX3_note_4 fX3_98 (hT.k 57 rfl) rfl ?_
  refine J.istore_n (ls' := [some (.ref 56), some (.int a1), some (.int (I 57 4)), none]) dX3_note_7 rfl rfl rfl ?_
  refine J.aload_n dX3_note_8 rfl rfl ?_
  refine J.getR (r := 62) dX3_note_9 fX3_18 (hT.k 56 rfl) rfl (hT.r 56 3 rfl rfl) ?_
  refine J.iload_n dX3_note_12 rfl rfl ?_
  refine J.atpc (pc' := 13) rfl ?_
  refine J.iload_n dX3_note_13 rfl rfl ?_
  obtain ⟨hs1, h⟩ := h
  refine J.iast dX3_note_14 (hT.k 62 rfl) (hT.l 62 rfl) hs1 ?_
  refine J.iconst (v := 0) dX3_note_15 (by decide) ?_
  refine J.istore_n (ls' := [some (.ref 56), some (.int a1), some (.int (I 57 4)), some (.int 0)]) dX3_note_16 rfl rfl rfl ?_
  exact J.weaken (ls' := [some (.ref 56), some (.int a1), some (.int (I 57 4)), some (.int 0)]) (And.intro rfl (And.intro rfl (And.intro rfl (And.intro rfl trivial)))) (hK17 (I 57 4) 0 (up2 I 62 (I 57 4).toNatClampNeg a1) h)
set_option maxHeartbeats 4000000 in
set_option maxRecDepth 100000 in
theorem sX3_note_17 (d : Nat) {T : Topo} (hT : Lay T) (a1 : Int32)    {Q : Topo → IM → Prop} {K17 : Int32 → Int32 → IM → Prop} (hK17 : ∀ (v2 v3 : Int32) (I : IM), K17 v2 v3 I → J (d + 1) mX3_note (PV Q) 0 0 17 [some (.ref 56), some (.int a1), some (.int v2), some (.int v3)] [] T I 0 0) (v2 v3 : Int32) (I : IM) (h : fX3_note_17 T a1 Q K17 v2 v3 I) : J (d + 1) mX3_note (PV Q) 0 0 17 [some (.ref 56), some (.int a1), some (.int v2), some (.int v3)] [] T I 0 0 := by
  unfold fX3_note_17 at h
  refine J.iload_n dX3_note_17 rfl rfl ?_
  refine J.aload_n dX3_note_18 rfl rfl ?_
  refine J.getR (r := 15) dX3_note_19 fX3_44 (hT.k 56 rfl) rfl (hT.r 56 1 rfl rfl) ?_
  refine J.getI dX3_note_22 fX3_56 (hT.k 15 rfl) rfl ?_
  refine J.icmp_ge (tgt := 54) dX3_note_25 (by decide) (fun hc1 => ?_) (fun hc1 => ?_)
  · have h := h.1 hc1
    refine J.aload_n dX3_note_54 rfl rfl ?_
    refine J.getR (r := 57) dX3_note_55 fX3_12 (hT.k 56 rfl) rfl (hT.r 56 2 rfl rfl) ?_
    refine J.dup dX3_note_58 rfl ?_
    refine J.getI dX3_note_59 fX3_98 (hT.k 57 rfl) rfl ?_
    refine J.iconst (v := 1) dX3_note_62 (by decide) ?_
    refine J.iadd dX3_note_63 ?_
    refine J.putI dX3_note_64 fX3_98 (hT.k 57 rfl) rfl ?_
    refine J.atpc (pc' := 67) rfl ?_
    exact J.vretQ dX3_note_67 rfl (Nat.le_refl _) (Nat.le_refl _) h
  · have h := h.2 hc1
    refine J.iload_n dX3_note_28 rfl rfl ?_
    refine J.iload_n dX3_note_29 rfl rfl ?_
    refine J.callSP (as := [.int a1, .int v3]) (rest := []) dX3_note_30 kX11_has vX11_has lX3_118 rfl rfl rfl (by omega) (Nat.le_refl _) (Nat.le_refl _) (qX11_has (d + 0) hT a1 v3 ) ?_
    refine J.bz_eq (tgt := 48) dX3_note_33 (by decide) (fun hc2 => ?_) (fun hc2 => ?_)
    · have h := h.1 hc2
      refine J.iinc (v := (v3 + 1)) (ls' := [some (.ref 56), some (.int a1), some (.int v2), some (.int (v3 + 1))]) dX3_note_48 rfl (by rfl) rfl ?_
      refine J.goto (tgt := 17) dX3_note_51 (by decide) ?_
      exact J.weaken (ls' := [some (.ref 56), some (.int a1), some (.int v2), some (.int (v3 + 1))]) (And.intro rfl (And.intro rfl (And.intro rfl (And.intro rfl trivial)))) (hK17 v2 (v3 + 1) I h)
    · have h := h.2 hc2
      refine J.aload_n dX3_note_36 rfl rfl ?_
      refine J.getR (r := 63) dX3_note_37 fX3_22 (hT.k 56 rfl) rfl (hT.r 56 4 rfl rfl) ?_
      refine J.iload_n dX3_note_40 rfl rfl ?_
      refine J.dup2 dX3_note_41 rfl rfl ?_
      obtain ⟨hs3, h⟩ := h
      refine J.iald dX3_note_42 (hT.k 63 rfl) (hT.l 63 rfl) hs3 ?_
      refine J.iconst (v := 1) dX3_note_43 (by decide) ?_
      refine J.iload_n dX3_note_44 rfl rfl ?_
      refine J.ishl dX3_note_45 ?_
      refine J.ior dX3_note_46 ?_
      obtain ⟨hs4, h⟩ := h
      refine J.iast dX3_note_47 (hT.k 63 rfl) (hT.l 63 rfl) hs4 ?_
      refine J.iinc (v := (v3 + 1)) (ls' := [some (.ref 56), some (.int a1), some (.int v2), some (.int (v3 + 1))]) dX3_note_48 rfl (by rfl) rfl ?_
      refine J.goto (tgt := 17) dX3_note_51 (by decide) ?_
      exact J.weaken (ls' := [some (.ref 56), some (.int a1), some (.int v2), some (.int (v3 + 1))]) (And.intro rfl (And.intro rfl (And.intro rfl (And.intro rfl trivial)))) (hK17 v2 (v3 + 1) (up2 I 63 v3.toNatClampNeg ((I 63 v3.toNatClampNeg) ||| ((1 : Int32) <<< (v2 &&& 31)))) h)
set_option maxHeartbeats 4000000 in
set_option maxRecDepth 100000 in
theorem wX3_note (d : Nat) {T : Topo} (hT : Lay T) (a1 : Int32)   {Q : Topo → IM → Prop} (V17 : Int32 → Int32 → IM → Prop) (μ17 : Int32 → Int32 → IM → Nat) (vc17 : ∀ (v2 v3 : Int32) (I : IM), V17 v2 v3 I → fX3_note_17 T a1 Q (fun w2 w3 I_ => V17 w2 w3 I_ ∧ μ17 w2 w3 I_ < μ17 v2 v3 I) v2 v3 I) {I : IM} (h : fX3_note_0 T a1 Q V17 I) : Ct (d + 1) mX3_note [.ref 56, .int a1] T I 0 0 (PV Q) := by
  have all : ∀ n : Nat, (∀ (v2 v3 : Int32) (I : IM), V17 v2 v3 I → μ17 v2 v3 I < n → J (d + 1) mX3_note (PV Q) 0 0 17 [some (.ref 56), some (.int a1), some (.int v2), some (.int v3)] [] T I 0 0) := by
    intro n
    induction n with
    | zero => exact fun _ _ _ _ hn => absurd hn (Nat.not_lt_zero _)
    | succ n ih =>
      exact fun v2 v3 I hv hn => sX3_note_17 d hT a1   (fun w2 w3 I_ hw => ih w2 w3 I_ hw.1 (by have := hw.2; omega)) v2 v3 I (vc17 v2 v3 I hv)
  exact Ct.ofJ (by decide +kernel) rfl (by intro v hv; revert v hv; simp [Value.category]) rfl (sX3_note_0 d hT a1   (fun w2 w3 I_ hw => (all (μ17 w2 w3 I_ + 1)) w2 w3 I_ hw (Nat.lt_succ_self _)) I h)

def jX3_noteI (a1 : Int32) : Nat → Int32 → Int32 → IM → IM
  | 0 => fun _ _ I => I
  | n + 1 => fun v2 v3 I => (if (I 15 1) ≤ v3 then (up2 I 57 4 ((I 57 4) + 1)) else (if hs a1 v3 then (jX3_noteI a1 n v2 (v3 + 1) (up2 I 63 v3.toNatClampNeg ((I 63 v3.toNatClampNeg) ||| ((1 : Int32) <<< (v2 &&& 31))))) else (jX3_noteI a1 n v2 (v3 + 1) I)))
def jX3_noteO (a1 : Int32) : Nat → Int32 → Int32 → IM → Prop
  | 0 => fun _ _ _ => False
  | n + 1 => fun v2 v3 I => ((((I 15 1) ≤ v3) → True) ∧ ((¬ (I 15 1) ≤ v3) → (((¬ (hs a1 v3)) → (jX3_noteO a1 n v2 (v3 + 1) I)) ∧ ((hs a1 v3) → (vp_in v3 8 ∧ (vp_in v3 8 ∧ (jX3_noteO a1 n v2 (v3 + 1) (up2 I 63 v3.toNatClampNeg ((I 63 v3.toNatClampNeg) ||| ((1 : Int32) <<< (v2 &&& 31)))))))))))
theorem jX3_noteI_17 (a1 : Int32) (n : Nat) (v2 v3 : Int32) (I : IM) : jX3_noteI a1 (n + 1) v2 v3 I = (if (I 15 1) ≤ v3 then (up2 I 57 4 ((I 57 4) + 1)) else (if hs a1 v3 then (jX3_noteI a1 n v2 (v3 + 1) (up2 I 63 v3.toNatClampNeg ((I 63 v3.toNatClampNeg) ||| ((1 : Int32) <<< (v2 &&& 31))))) else (jX3_noteI a1 n v2 (v3 + 1) I))) := rfl
theorem jX3_noteO_17 (a1 : Int32) (n : Nat) (v2 v3 : Int32) (I : IM) : jX3_noteO a1 (n + 1) v2 v3 I = ((((I 15 1) ≤ v3) → True) ∧ ((¬ (I 15 1) ≤ v3) → (((¬ (hs a1 v3)) → (jX3_noteO a1 n v2 (v3 + 1) I)) ∧ ((hs a1 v3) → (vp_in v3 8 ∧ (vp_in v3 8 ∧ (jX3_noteO a1 n v2 (v3 + 1) (up2 I 63 v3.toNatClampNeg ((I 63 v3.toNatClampNeg) ||| ((1 : Int32) <<< (v2 &&& 31))))))))))) := rfl
def jX3_note (I : IM) (a1 : Int32) : IM := (jX3_noteI a1 FU (I 57 4) 0 (up2 I 62 (I 57 4).toNatClampNeg a1))
def jX3_noteK (I : IM) (a1 : Int32) : Prop := (vp_in (I 57 4) 24 ∧ (jX3_noteO a1 FU (I 57 4) 0 (up2 I 62 (I 57 4).toNatClampNeg a1)))
set_option maxRecDepth 10000 in
set_option maxHeartbeats 1000000 in
theorem uX3_note (d : Nat) {T : Topo} (hT : Lay T) (a1 : Int32)   {R : IM} : ∀ n : Nat, (∀ (v2 v3 : Int32) (I : IM), jX3_noteO a1 n v2 v3 I → jX3_noteI a1 n v2 v3 I = R → J (d + 1) mX3_note (PV (fun T' I' => T' = T ∧ I' = R)) 0 0 17 [some (.ref 56), some (.int a1), some (.int v2), some (.int v3)] [] T I 0 0) := by
  intro n
  induction n with
  | zero => exact fun _ _ _ hz => hz.elim
  | succ n ih =>
    exact fun v2 v3 I hok hit => by
        rw [jX3_noteO_17] at hok
        exact sX3_note_17 d hT a1   (K17 := fun w2 w3 I_ => (jX3_noteO a1 n w2 w3 I_ ∧ jX3_noteI a1 n w2 w3 I_ = R)) (fun w2 w3 I_ hw => ih w2 w3 I_ hw.1 hw.2) v2 v3 I (by
          unfold fX3_note_17
          exact ⟨fun hc1 => ⟨rfl, by rw [jX3_noteI_17, if_pos hc1] at hit; exact hit⟩, fun hc1 => ⟨fun hc2 => ⟨((hok).2 hc1).1 hc2, by rw [jX3_noteI_17, if_neg hc1, if_neg hc2] at hit; exact hit⟩, fun hc2 => ⟨(((hok).2 hc1).2 hc2).1, ⟨((((hok).2 hc1).2 hc2).2).1, ⟨((((hok).2 hc1).2 hc2).2).2, by rw [jX3_noteI_17, if_neg hc1, if_pos hc2] at hit; exact hit⟩⟩⟩⟩⟩)
set_option maxRecDepth 10000 in
set_option maxHeartbeats 1000000 in
theorem qX3_note (d : Nat) {T : Topo} {I : IM} (hT : Lay T) (a1 : Int32)  (hp : (jX3_noteK I a1)) : CtV (d + 1) mX3_note [.ref 56, .int a1] T I (fun J_ => J_ = (jX3_note I a1)) := by
  unfold jX3_noteK at hp
  exact Ct.ofJ (by decide +kernel) rfl (by intro v hv; revert v hv; simp [Value.category]) rfl (sX3_note_0 d hT a1   (K17 := fun w2 w3 I_ => (jX3_noteO a1 FU w2 w3 I_ ∧ jX3_noteI a1 FU w2 w3 I_ = (jX3_note I a1))) (fun w2 w3 I_ hw => uX3_note d hT a1   FU w2 w3 I_ hw.1 hw.2) I (by
    unfold fX3_note_0
    exact ⟨(hp).1, ⟨(hp).2, rfl⟩⟩))

def fX3_gatherMembers_0 (T : Topo) (a1 : Int32) (Q : Topo → IM → Prop) (K7 : Int32 → IM → Prop) (I : IM) : Prop :=
  K7 0 (up2 I 56 10 0)
def fX3_gatherMembers_7 (T : Topo) (a1 : Int32) (Q : Topo → IM → Prop) (K7 : Int32 → IM → Prop) (v2 : Int32) (I : IM) : Prop :=
  ((((I 15 1) ≤ v2) → Q T I) ∧ ((¬ (I 15 1) ≤ v2) → ((((¬ (hs a1 v2)) → K7 (v2 + 1) I) ∧ ((hs a1 v2) → (vp_in (I 56 10) 8 ∧ (vp_in (I 56 10) 8 ∧ K7 (v2 + 1) (up2 (up2 (up2 I 64 (I 56 10).toNatClampNeg v2) 65 (I 56 10).toNatClampNeg (-1)) 56 10 ((I 56 10) + 1)))))))))
set_option maxHeartbeats 4000000 in
set_option maxRecDepth 100000 in
theorem sX3_gatherMembers_0 (d : Nat) {T : Topo} (hT : Lay T) (a1 : Int32)    {Q : Topo → IM → Prop} {K7 : Int32 → IM → Prop} (hK7 : ∀ (v2 : Int32) (I : IM), K7 v2 I → J (d + 1) mX3_gatherMembers (PV Q) 0 0 7 [some (.ref 56), some (.int a1), some (.int v2)] [] T I 0 0) (I : IM) (h : fX3_gatherMembers_0 T a1 Q K7 I) : J (d + 1) mX3_gatherMembers (PV Q) 0 0 0 [some (.ref 56), some (.int a1), none] [] T I 0 0 := by
  unfold fX3_gatherMembers_0 at h
  refine J.aload_n dX3_gatherMembers_0 rfl rfl ?_
  refine J.iconst (v := 0) dX3_gatherMembers_1 (by decide) ?_
  refine J.putI dX3_gatherMembers_2 fX3_78 (hT.k 56 rfl) rfl ?_
  refine J.iconst (v := 0) dX3_gatherMembers_5 (by decide) ?_
  refine J.istore_n (ls' := [some (.ref 56), some (.int a1), some (.int 0)]) dX3_gatherMembers_6 rfl rfl rfl ?_
  exact J.weaken (ls' := [some (.ref 56), some (.int a1), some (.int 0)]) (And.intro rfl (And.intro rfl (And.intro rfl trivial))) (hK7 0 (up2 I 56 10 0) h)
set_option maxHeartbeats 4000000 in
set_option maxRecDepth 100000 in
theorem sX3_gatherMembers_7 (d : Nat) {T : Topo} (hT : Lay T) (a1 : Int32)    {Q : Topo → IM → Prop} {K7 : Int32 → IM → Prop} (hK7 : ∀ (v2 : Int32) (I : IM), K7 v2 I → J (d + 1) mX3_gatherMembers (PV Q) 0 0 7 [some (.ref 56), some (.int a1), some (.int v2)] [] T I 0 0) (v2 : Int32) (I : IM) (h : fX3_gatherMembers_7 T a1 Q K7 v2 I) : J (d + 1) mX3_gatherMembers (PV Q) 0 0 7 [some (.ref 56), some (.int a1), some (.int v2)] [] T I 0 0 := by
  unfold fX3_gatherMembers_7 at h
  refine J.iload_n dX3_gatherMembers_7 rfl rfl ?_
  refine J.aload_n dX3_gatherMembers_8 rfl rfl ?_
  refine J.getR (r := 15) dX3_gatherMembers_9 fX3_44 (hT.k 56 rfl) rfl (hT.r 56 1 rfl rfl) ?_
  refine J.getI dX3_gatherMembers_12 fX3_56 (hT.k 15 rfl) rfl ?_
  refine J.icmp_ge (tgt := 62) dX3_gatherMembers_15 (by decide) (fun hc1 => ?_) (fun hc1 => ?_)
  · have h := h.1 hc1
    exact J.vretQ dX3_gatherMembers_62 rfl (Nat.le_refl _) (Nat.le_refl _) h
  · have h := h.2 hc1
    refine J.iload_n dX3_gatherMembers_18 rfl rfl ?_
    refine J.iload_n dX3_gatherMembers_19 rfl rfl ?_
    refine J.callSP (as := [.int a1, .int v2]) (rest := []) dX3_gatherMembers_20 kX11_has vX11_has lX3_118 rfl rfl rfl (by omega) (Nat.le_refl _) (Nat.le_refl _) (qX11_has (d + 0) hT a1 v2 ) ?_
    refine J.bz_eq (tgt := 56) dX3_gatherMembers_23 (by decide) (fun hc2 => ?_) (fun hc2 => ?_)
    · have h := h.1 hc2
      refine J.iinc (v := (v2 + 1)) (ls' := [some (.ref 56), some (.int a1), some (.int (v2 + 1))]) dX3_gatherMembers_56 rfl (by rfl) rfl ?_
      refine J.goto (tgt := 7) dX3_gatherMembers_59 (by decide) ?_
      exact J.weaken (ls' := [some (.ref 56), some (.int a1), some (.int (v2 + 1))]) (And.intro rfl (And.intro rfl (And.intro rfl trivial))) (hK7 (v2 + 1) I h)
    · have h := h.2 hc2
      refine J.aload_n dX3_gatherMembers_26 rfl rfl ?_
      refine J.getR (r := 64) dX3_gatherMembers_27 fX3_25 (hT.k 56 rfl) rfl (hT.r 56 5 rfl rfl) ?_
      refine J.aload_n dX3_gatherMembers_30 rfl rfl ?_
      refine J.getI dX3_gatherMembers_31 fX3_78 (hT.k 56 rfl) rfl ?_
      refine J.iload_n dX3_gatherMembers_34 rfl rfl ?_
      obtain ⟨hs3, h⟩ := h
      refine J.iast dX3_gatherMembers_35 (hT.k 64 rfl) (hT.l 64 rfl) hs3 ?_
      refine J.aload_n dX3_gatherMembers_36 rfl rfl ?_
      refine J.getR (r := 65) dX3_gatherMembers_37 fX3_28 (hT.k 56 rfl) rfl (hT.r 56 6 rfl rfl) ?_
      refine J.aload_n dX3_gatherMembers_40 rfl rfl ?_
      refine J.getI dX3_gatherMembers_41 fX3_78 (hT.k 56 rfl) rfl ?_
      refine J.topEq (y := (I 56 10)) (up2_o _ _ _ _ (by decide)) ?_
      refine J.iconst (v := (-1)) dX3_gatherMembers_44 (by decide) ?_
      obtain ⟨hs4, h⟩ := h
      refine J.iast dX3_gatherMembers_45 (hT.k 65 rfl) (hT.l 65 rfl) hs4 ?_
      refine J.aload_n dX3_gatherMembers_46 rfl rfl ?_
      refine J.dup dX3_gatherMembers_47 rfl ?_
      refine J.getI dX3_gatherMembers_48 fX3_78 (hT.k 56 rfl) rfl ?_
      refine J.topEq (y := (I 56 10)) (Eq.trans (up2_o _ _ _ _ (by decide)) (up2_o _ _ _ _ (by decide))) ?_
      refine J.iconst (v := 1) dX3_gatherMembers_51 (by decide) ?_
      refine J.iadd dX3_gatherMembers_52 ?_
      refine J.putI dX3_gatherMembers_53 fX3_78 (hT.k 56 rfl) rfl ?_
      refine J.iinc (v := (v2 + 1)) (ls' := [some (.ref 56), some (.int a1), some (.int (v2 + 1))]) dX3_gatherMembers_56 rfl (by rfl) rfl ?_
      refine J.atpc (pc' := 59) rfl ?_
      refine J.goto (tgt := 7) dX3_gatherMembers_59 (by decide) ?_
      exact J.weaken (ls' := [some (.ref 56), some (.int a1), some (.int (v2 + 1))]) (And.intro rfl (And.intro rfl (And.intro rfl trivial))) (hK7 (v2 + 1) (up2 (up2 (up2 I 64 (I 56 10).toNatClampNeg v2) 65 (I 56 10).toNatClampNeg (-1)) 56 10 ((I 56 10) + 1)) h)
set_option maxHeartbeats 4000000 in
set_option maxRecDepth 100000 in
theorem wX3_gatherMembers (d : Nat) {T : Topo} (hT : Lay T) (a1 : Int32)   {Q : Topo → IM → Prop} (V7 : Int32 → IM → Prop) (μ7 : Int32 → IM → Nat) (vc7 : ∀ (v2 : Int32) (I : IM), V7 v2 I → fX3_gatherMembers_7 T a1 Q (fun w2 I_ => V7 w2 I_ ∧ μ7 w2 I_ < μ7 v2 I) v2 I) {I : IM} (h : fX3_gatherMembers_0 T a1 Q V7 I) : Ct (d + 1) mX3_gatherMembers [.ref 56, .int a1] T I 0 0 (PV Q) := by
  have all : ∀ n : Nat, (∀ (v2 : Int32) (I : IM), V7 v2 I → μ7 v2 I < n → J (d + 1) mX3_gatherMembers (PV Q) 0 0 7 [some (.ref 56), some (.int a1), some (.int v2)] [] T I 0 0) := by
    intro n
    induction n with
    | zero => exact fun _ _ _ hn => absurd hn (Nat.not_lt_zero _)
    | succ n ih =>
      exact fun v2 I hv hn => sX3_gatherMembers_7 d hT a1   (fun w2 I_ hw => ih w2 I_ hw.1 (by have := hw.2; omega)) v2 I (vc7 v2 I hv)
  exact Ct.ofJ (by decide +kernel) rfl (by intro v hv; revert v hv; simp [Value.category]) rfl (sX3_gatherMembers_0 d hT a1   (fun w2 I_ hw => (all (μ7 w2 I_ + 1)) w2 I_ hw (Nat.lt_succ_self _)) I h)

def jX3_gatherMembersI (a1 : Int32) : Nat → Int32 → IM → IM
  | 0 => fun _ I => I
  | n + 1 => fun v2 I => (if (I 15 1) ≤ v2 then I else (if hs a1 v2 then (jX3_gatherMembersI a1 n (v2 + 1) (up2 (up2 (up2 I 64 (I 56 10).toNatClampNeg v2) 65 (I 56 10).toNatClampNeg (-1)) 56 10 ((I 56 10) + 1))) else (jX3_gatherMembersI a1 n (v2 + 1) I)))
def jX3_gatherMembersO (a1 : Int32) : Nat → Int32 → IM → Prop
  | 0 => fun _ _ => False
  | n + 1 => fun v2 I => ((((I 15 1) ≤ v2) → True) ∧ ((¬ (I 15 1) ≤ v2) → (((¬ (hs a1 v2)) → (jX3_gatherMembersO a1 n (v2 + 1) I)) ∧ ((hs a1 v2) → (vp_in (I 56 10) 8 ∧ (vp_in (I 56 10) 8 ∧ (jX3_gatherMembersO a1 n (v2 + 1) (up2 (up2 (up2 I 64 (I 56 10).toNatClampNeg v2) 65 (I 56 10).toNatClampNeg (-1)) 56 10 ((I 56 10) + 1)))))))))
theorem jX3_gatherMembersI_7 (a1 : Int32) (n : Nat) (v2 : Int32) (I : IM) : jX3_gatherMembersI a1 (n + 1) v2 I = (if (I 15 1) ≤ v2 then I else (if hs a1 v2 then (jX3_gatherMembersI a1 n (v2 + 1) (up2 (up2 (up2 I 64 (I 56 10).toNatClampNeg v2) 65 (I 56 10).toNatClampNeg (-1)) 56 10 ((I 56 10) + 1))) else (jX3_gatherMembersI a1 n (v2 + 1) I))) := rfl
theorem jX3_gatherMembersO_7 (a1 : Int32) (n : Nat) (v2 : Int32) (I : IM) : jX3_gatherMembersO a1 (n + 1) v2 I = ((((I 15 1) ≤ v2) → True) ∧ ((¬ (I 15 1) ≤ v2) → (((¬ (hs a1 v2)) → (jX3_gatherMembersO a1 n (v2 + 1) I)) ∧ ((hs a1 v2) → (vp_in (I 56 10) 8 ∧ (vp_in (I 56 10) 8 ∧ (jX3_gatherMembersO a1 n (v2 + 1) (up2 (up2 (up2 I 64 (I 56 10).toNatClampNeg v2) 65 (I 56 10).toNatClampNeg (-1)) 56 10 ((I 56 10) + 1))))))))) := rfl
def jX3_gatherMembers (I : IM) (a1 : Int32) : IM := (jX3_gatherMembersI a1 FU 0 (up2 I 56 10 0))
def jX3_gatherMembersK (I : IM) (a1 : Int32) : Prop := (jX3_gatherMembersO a1 FU 0 (up2 I 56 10 0))
set_option maxRecDepth 10000 in
set_option maxHeartbeats 1000000 in
theorem uX3_gatherMembers (d : Nat) {T : Topo} (hT : Lay T) (a1 : Int32)   {R : IM} : ∀ n : Nat, (∀ (v2 : Int32) (I : IM), jX3_gatherMembersO a1 n v2 I → jX3_gatherMembersI a1 n v2 I = R → J (d + 1) mX3_gatherMembers (PV (fun T' I' => T' = T ∧ I' = R)) 0 0 7 [some (.ref 56), some (.int a1), some (.int v2)] [] T I 0 0) := by
  intro n
  induction n with
  | zero => exact fun _ _ hz => hz.elim
  | succ n ih =>
    exact fun v2 I hok hit => by
        rw [jX3_gatherMembersO_7] at hok
        exact sX3_gatherMembers_7 d hT a1   (K7 := fun w2 I_ => (jX3_gatherMembersO a1 n w2 I_ ∧ jX3_gatherMembersI a1 n w2 I_ = R)) (fun w2 I_ hw => ih w2 I_ hw.1 hw.2) v2 I (by
          unfold fX3_gatherMembers_7
          exact ⟨fun hc1 => ⟨rfl, by rw [jX3_gatherMembersI_7, if_pos hc1] at hit; exact hit⟩, fun hc1 => ⟨fun hc2 => ⟨((hok).2 hc1).1 hc2, by rw [jX3_gatherMembersI_7, if_neg hc1, if_neg hc2] at hit; exact hit⟩, fun hc2 => ⟨(((hok).2 hc1).2 hc2).1, ⟨((((hok).2 hc1).2 hc2).2).1, ⟨((((hok).2 hc1).2 hc2).2).2, by rw [jX3_gatherMembersI_7, if_neg hc1, if_pos hc2] at hit; exact hit⟩⟩⟩⟩⟩)
set_option maxRecDepth 10000 in
set_option maxHeartbeats 1000000 in
theorem qX3_gatherMembers (d : Nat) {T : Topo} {I : IM} (hT : Lay T) (a1 : Int32)  (hp : (jX3_gatherMembersK I a1)) : CtV (d + 1) mX3_gatherMembers [.ref 56, .int a1] T I (fun J_ => J_ = (jX3_gatherMembers I a1)) := by
  unfold jX3_gatherMembersK at hp
  exact Ct.ofJ (by decide +kernel) rfl (by intro v hv; revert v hv; simp [Value.category]) rfl (sX3_gatherMembers_0 d hT a1   (K7 := fun w2 I_ => (jX3_gatherMembersO a1 FU w2 I_ ∧ jX3_gatherMembersI a1 FU w2 I_ = (jX3_gatherMembers I a1))) (fun w2 I_ hw => uX3_gatherMembers d hT a1   FU w2 I_ hw.1 hw.2) I (by
    unfold fX3_gatherMembers_0
    exact ⟨hp, rfl⟩))

def fX3_nextPlace_0 (T : Topo) (a1 : Int32) (a2 : Int32) (Q : Int32 → Topo → IM → Prop) (K12 : Int32 → IM → Prop) (I : IM) : Prop :=
  ((vp_in a1 8) ∧ K12 a2 I)
def fX3_nextPlace_12 (T : Topo) (a1 : Int32) (a2 : Int32) (Q : Int32 → Topo → IM → Prop) (K12 : Int32 → IM → Prop) (v4 : Int32) (I : IM) : Prop :=
  ((((I (18 + 4 * (a1).toNatClampNeg) 4) ≤ v4) → Q (-1) T I) ∧ ((¬ (I (18 + 4 * (a1).toNatClampNeg) 4) ≤ v4) → ((((I 56 11) < 2000) → (((jX6_upAtK T (a1).toNatClampNeg v4)) ∧ (vp_in a1 8 ∧ (((jX0_linesHoldK (up2 I 56 11 ((I 56 11) + 1)) 57 (a1).toNatClampNeg (jX6_upAt T (up2 I 56 11 ((I 56 11) + 1)) (a1).toNatClampNeg v4) (I 63 a1.toNatClampNeg))) ∧ ((((jX0_linesHold (up2 I 56 11 ((I 56 11) + 1)) 57 (a1).toNatClampNeg (jX6_upAt T (up2 I 56 11 ((I 56 11) + 1)) (a1).toNatClampNeg v4) (I 63 a1.toNatClampNeg)) = 0) → K12 (v4 + 1) (up2 I 56 11 ((I 56 11) + 1))) ∧ ((¬ (jX0_linesHold (up2 I 56 11 ((I 56 11) + 1)) 57 (a1).toNatClampNeg (jX6_upAt T (up2 I 56 11 ((I 56 11) + 1)) (a1).toNatClampNeg v4) (I 63 a1.toNatClampNeg)) = 0) → (vp_in a1 8 ∧ (((jX0_hostHoldsK (up2 I 56 11 ((I 56 11) + 1)) 57 (a1).toNatClampNeg (jX6_upAt T (up2 I 56 11 ((I 56 11) + 1)) (a1).toNatClampNeg v4) (I 63 a1.toNatClampNeg))) ∧ ((((jX0_hostHolds (up2 I 56 11 ((I 56 11) + 1)) 57 (a1).toNatClampNeg (jX6_upAt T (up2 I 56 11 ((I 56 11) + 1)) (a1).toNatClampNeg v4) (I 63 a1.toNatClampNeg)) = 0) → K12 (v4 + 1) (up2 I 56 11 ((I 56 11) + 1))) ∧ ((¬ (jX0_hostHolds (up2 I 56 11 ((I 56 11) + 1)) 57 (a1).toNatClampNeg (jX6_upAt T (up2 I 56 11 ((I 56 11) + 1)) (a1).toNatClampNeg v4) (I 63 a1.toNatClampNeg)) = 0) → Q v4 T (up2 I 56 11 ((I 56 11) + 1)))))))))))) ∧ ((¬ (I 56 11) < 2000) → Q (-1) T (up2 I 56 12 1)))))
set_option maxHeartbeats 4000000 in
set_option maxRecDepth 100000 in
theorem sX3_nextPlace_0 (d : Nat) {T : Topo} (hT : Lay T) (a1 : Int32) (a2 : Int32)  (hPl : Pl T)  {Q : Int32 → Topo → IM → Prop} {K12 : Int32 → IM → Prop} (hK12 : ∀ (v4 : Int32) (I : IM), ((a1).toNatClampNeg < 8) → K12 v4 I → J (d + 4) mX3_nextPlace (PI Q) 0 0 12 [some (.ref 56), some (.int a1), none, some (.ref (17 + 4 * (a1).toNatClampNeg)), some (.int v4), none] [] T I 0 0) (I : IM) (h : fX3_nextPlace_0 T a1 a2 Q K12 I) : J (d + 4) mX3_nextPlace (PI Q) 0 0 0 [some (.ref 56), some (.int a1), some (.int a2), none, none, none] [] T I 0 0 := by
  unfold fX3_nextPlace_0 at h
  refine J.aload_n dX3_nextPlace_0 rfl rfl ?_
  refine J.getR (r := 15) dX3_nextPlace_1 fX3_44 (hT.k 56 rfl) rfl (hT.r 56 1 rfl rfl) ?_
  refine J.iload_n dX3_nextPlace_4 rfl rfl ?_
  obtain ⟨hp1, h⟩ := h
  refine J.callVF (r := (17 + 4 * (a1).toNatClampNeg)) (k := 15) (as := [.int a1]) (rest := []) dX3_nextPlace_5 kX9_at vX9_at lX3_111 (hT.k 15 rfl) rfl rfl rfl rfl rfl (by omega) (Nat.le_refl _) (Nat.le_refl _) (qX9_at (d + 3) hT a1 hp1) ?_
  refine J.astore_n (ls' := [some (.ref 56), some (.int a1), some (.int a2), some (.ref (17 + 4 * (a1).toNatClampNeg)), none, none]) dX3_nextPlace_8 rfl rfl rfl ?_
  refine J.iload_n dX3_nextPlace_9 rfl rfl ?_
  refine J.istore (ls' := [some (.ref 56), some (.int a1), some (.int a2), some (.ref (17 + 4 * (a1).toNatClampNeg)), some (.int a2), none]) dX3_nextPlace_10 rfl rfl ?_
  exact J.weaken (ls' := [some (.ref 56), some (.int a1), none, some (.ref (17 + 4 * (a1).toNatClampNeg)), some (.int a2), none]) (And.intro rfl (And.intro rfl (And.intro rfl (And.intro rfl trivial)))) (hK12 a2 I (vp_lt hp1) h)
set_option maxHeartbeats 4000000 in
set_option maxRecDepth 100000 in
theorem sX3_nextPlace_12 (d : Nat) {T : Topo} (hT : Lay T) (a1 : Int32) (a2 : Int32)  (hPl : Pl T) (hr3 : (a1).toNatClampNeg < 8) {Q : Int32 → Topo → IM → Prop} {K12 : Int32 → IM → Prop} (hK12 : ∀ (v4 : Int32) (I : IM), ((a1).toNatClampNeg < 8) → K12 v4 I → J (d + 4) mX3_nextPlace (PI Q) 0 0 12 [some (.ref 56), some (.int a1), none, some (.ref (17 + 4 * (a1).toNatClampNeg)), some (.int v4), none] [] T I 0 0) (v4 : Int32) (I : IM) (h : fX3_nextPlace_12 T a1 a2 Q K12 v4 I) : J (d + 4) mX3_nextPlace (PI Q) 0 0 12 [some (.ref 56), some (.int a1), none, some (.ref (17 + 4 * (a1).toNatClampNeg)), some (.int v4), none] [] T I 0 0 := by
  unfold fX3_nextPlace_12 at h
  refine J.iload dX3_nextPlace_12 rfl ?_
  refine J.aload_n dX3_nextPlace_14 rfl rfl ?_
  refine J.getR (r := (18 + 4 * (a1).toNatClampNeg)) dX3_nextPlace_15 fX3_122 (hT.sliceK hr3) rfl (hT.sliceP hr3) ?_
  refine J.getI dX3_nextPlace_18 fX3_126 (hT.placesK hr3) rfl ?_
  refine J.icmp_ge (tgt := 117) dX3_nextPlace_21 (by decide) (fun hc1 => ?_) (fun hc1 => ?_)
  · have h := h.1 hc1
    refine J.iconst (v := (-1)) dX3_nextPlace_117 (by decide) ?_
    exact J.iretQ dX3_nextPlace_118 rfl (Nat.le_refl _) (Nat.le_refl _) h
  · have h := h.2 hc1
    refine J.aload_n dX3_nextPlace_24 rfl rfl ?_
    refine J.getI dX3_nextPlace_25 fX3_48 (hT.k 56 rfl) rfl ?_
    refine J.sipush (v := 2000) dX3_nextPlace_28 (by decide) ?_
    refine J.icmp_lt (tgt := 41) dX3_nextPlace_31 (by decide) (fun hc2 => ?_) (fun hc2 => ?_)
    · have h := h.1 hc2
      refine J.aload_n dX3_nextPlace_41 rfl rfl ?_
      refine J.dup dX3_nextPlace_42 rfl ?_
      refine J.getI dX3_nextPlace_43 fX3_48 (hT.k 56 rfl) rfl ?_
      refine J.iconst (v := 1) dX3_nextPlace_46 (by decide) ?_
      refine J.iadd dX3_nextPlace_47 ?_
      refine J.putI dX3_nextPlace_48 fX3_48 (hT.k 56 rfl) rfl ?_
      refine J.aload_n dX3_nextPlace_51 rfl rfl ?_
      refine J.atpc (pc' := 52) rfl ?_
      refine J.getR (r := (18 + 4 * (a1).toNatClampNeg)) dX3_nextPlace_52 fX3_122 (hT.sliceK hr3) rfl (hT.sliceP hr3) ?_
      refine J.iload dX3_nextPlace_55 rfl ?_
      obtain ⟨hp3, h⟩ := h
      refine J.callVP (k := (18 + 4 * (a1).toNatClampNeg)) (as := [.int v4]) (rest := []) dX3_nextPlace_57 kX6_upAt vX6_upAt lX3_129 (hT.placesK hr3) rfl rfl rfl rfl rfl (by omega) (Nat.le_refl _) (Nat.le_refl _) (qX6_upAt (d + 3) hT (a1).toNatClampNeg hr3 v4 hPl hp3) ?_
      refine J.istore (ls' := [some (.ref 56), some (.int a1), none, some (.ref (17 + 4 * (a1).toNatClampNeg)), some (.int v4), some (.int (jX6_upAt T (up2 I 56 11 ((I 56 11) + 1)) (a1).toNatClampNeg v4))]) dX3_nextPlace_60 rfl rfl ?_
      refine J.aload_n dX3_nextPlace_62 rfl rfl ?_
      refine J.getR (r := 57) dX3_nextPlace_63 fX3_12 (hT.k 56 rfl) rfl (hT.r 56 2 rfl rfl) ?_
      refine J.aload_n dX3_nextPlace_66 rfl rfl ?_
      refine J.getR (r := 1) dX3_nextPlace_67 fX3_40 (hT.k 56 rfl) rfl (hT.r 56 0 rfl rfl) ?_
      refine J.aload_n dX3_nextPlace_70 rfl rfl ?_
      refine J.iload dX3_nextPlace_71 rfl ?_
      refine J.atpc (pc' := 73) rfl ?_
      refine J.aload_n dX3_nextPlace_73 rfl rfl ?_
      refine J.getR (r := 63) dX3_nextPlace_74 fX3_22 (hT.k 56 rfl) rfl (hT.r 56 4 rfl rfl) ?_
      refine J.iload_n dX3_nextPlace_77 rfl rfl ?_
      obtain ⟨hs4, h⟩ := h
      refine J.iald dX3_nextPlace_78 (hT.k 63 rfl) (hT.l 63 rfl) hs4 ?_
      refine J.topEq (y := (I 63 a1.toNatClampNeg)) (up2_o _ _ _ _ (by decide)) ?_
      obtain ⟨hp5, h⟩ := h
      refine J.callVP (k := 57) (as := [.ref 1, .ref (17 + 4 * (a1).toNatClampNeg), .int (jX6_upAt T (up2 I 56 11 ((I 56 11) + 1)) (a1).toNatClampNeg v4), .int (I 63 a1.toNatClampNeg)]) (rest := []) dX3_nextPlace_79 kX0_linesHold vX0_linesHold lX3_132 (hT.k 57 rfl) rfl rfl rfl rfl rfl (by omega) (Nat.le_refl _) (Nat.le_refl _) (qX0_linesHold (d + 0) hT 57 (Or.inr rfl) (a1).toNatClampNeg hr3 (jX6_upAt T (up2 I 56 11 ((I 56 11) + 1)) (a1).toNatClampNeg v4) (I 63 a1.toNatClampNeg) hp5) ?_
      refine J.if_eq (tgt := 111) dX3_nextPlace_82 (by decide) (fun hc6 => ?_) (fun hc6 => ?_)
      · have h := h.1 hc6
        refine J.iinc (v := (v4 + 1)) (ls' := [some (.ref 56), some (.int a1), none, some (.ref (17 + 4 * (a1).toNatClampNeg)), some (.int (v4 + 1)), some (.int (jX6_upAt T (up2 I 56 11 ((I 56 11) + 1)) (a1).toNatClampNeg v4))]) dX3_nextPlace_111 rfl (by rfl) rfl ?_
        refine J.goto (tgt := 12) dX3_nextPlace_114 (by decide) ?_
        exact J.weaken (ls' := [some (.ref 56), some (.int a1), none, some (.ref (17 + 4 * (a1).toNatClampNeg)), some (.int (v4 + 1)), none]) (And.intro rfl (And.intro rfl (And.intro rfl (And.intro rfl trivial)))) (hK12 (v4 + 1) (up2 I 56 11 ((I 56 11) + 1)) hr3 h)
      · have h := h.2 hc6
        refine J.aload_n dX3_nextPlace_85 rfl rfl ?_
        refine J.getR (r := 57) dX3_nextPlace_86 fX3_12 (hT.k 56 rfl) rfl (hT.r 56 2 rfl rfl) ?_
        refine J.aload_n dX3_nextPlace_89 rfl rfl ?_
        refine J.getR (r := 1) dX3_nextPlace_90 fX3_40 (hT.k 56 rfl) rfl (hT.r 56 0 rfl rfl) ?_
        refine J.aload_n dX3_nextPlace_93 rfl rfl ?_
        refine J.iload dX3_nextPlace_94 rfl ?_
        refine J.aload_n dX3_nextPlace_96 rfl rfl ?_
        refine J.atpc (pc' := 97) rfl ?_
        refine J.getR (r := 63) dX3_nextPlace_97 fX3_22 (hT.k 56 rfl) rfl (hT.r 56 4 rfl rfl) ?_
        refine J.iload_n dX3_nextPlace_100 rfl rfl ?_
        obtain ⟨hs7, h⟩ := h
        refine J.iald dX3_nextPlace_101 (hT.k 63 rfl) (hT.l 63 rfl) hs7 ?_
        refine J.topEq (y := (I 63 a1.toNatClampNeg)) (up2_o _ _ _ _ (by decide)) ?_
        obtain ⟨hp8, h⟩ := h
        refine J.callVP (k := 57) (as := [.ref 1, .ref (17 + 4 * (a1).toNatClampNeg), .int (jX6_upAt T (up2 I 56 11 ((I 56 11) + 1)) (a1).toNatClampNeg v4), .int (I 63 a1.toNatClampNeg)]) (rest := []) dX3_nextPlace_102 kX0_hostHolds vX0_hostHolds lX3_136 (hT.k 57 rfl) rfl rfl rfl rfl rfl (by omega) (Nat.le_refl _) (Nat.le_refl _) (qX0_hostHolds (d + 2) hT 57 (Or.inr rfl) (a1).toNatClampNeg hr3 (jX6_upAt T (up2 I 56 11 ((I 56 11) + 1)) (a1).toNatClampNeg v4) (I 63 a1.toNatClampNeg) hp8) ?_
        refine J.if_eq (tgt := 111) dX3_nextPlace_105 (by decide) (fun hc9 => ?_) (fun hc9 => ?_)
        · have h := h.1 hc9
          refine J.iinc (v := (v4 + 1)) (ls' := [some (.ref 56), some (.int a1), none, some (.ref (17 + 4 * (a1).toNatClampNeg)), some (.int (v4 + 1)), some (.int (jX6_upAt T (up2 I 56 11 ((I 56 11) + 1)) (a1).toNatClampNeg v4))]) dX3_nextPlace_111 rfl (by rfl) rfl ?_
          refine J.goto (tgt := 12) dX3_nextPlace_114 (by decide) ?_
          exact J.weaken (ls' := [some (.ref 56), some (.int a1), none, some (.ref (17 + 4 * (a1).toNatClampNeg)), some (.int (v4 + 1)), none]) (And.intro rfl (And.intro rfl (And.intro rfl (And.intro rfl trivial)))) (hK12 (v4 + 1) (up2 I 56 11 ((I 56 11) + 1)) hr3 h)
        · have h := h.2 hc9
          refine J.iload dX3_nextPlace_108 rfl ?_
          exact J.iretQ dX3_nextPlace_110 rfl (Nat.le_refl _) (Nat.le_refl _) h
    · have h := h.2 hc2
      refine J.aload_n dX3_nextPlace_34 rfl rfl ?_
      refine J.iconst (v := 1) dX3_nextPlace_35 (by decide) ?_
      refine J.putZ dX3_nextPlace_36 fX3_52 (hT.k 56 rfl) rfl (Or.inr rfl) ?_
      refine J.iconst (v := (-1)) dX3_nextPlace_39 (by decide) ?_
      exact J.iretQ dX3_nextPlace_40 rfl (Nat.le_refl _) (Nat.le_refl _) h
set_option maxHeartbeats 4000000 in
set_option maxRecDepth 100000 in
theorem wX3_nextPlace (d : Nat) {T : Topo} (hT : Lay T) (a1 : Int32) (a2 : Int32)  (hPl : Pl T) {Q : Int32 → Topo → IM → Prop} (V12 : Int32 → IM → Prop) (μ12 : Int32 → IM → Nat) (vc12 : ∀ (v4 : Int32) (I : IM), V12 v4 I → fX3_nextPlace_12 T a1 a2 Q (fun w4 I_ => V12 w4 I_ ∧ μ12 w4 I_ < μ12 v4 I) v4 I) {I : IM} (h : fX3_nextPlace_0 T a1 a2 Q V12 I) : Ct (d + 4) mX3_nextPlace [.ref 56, .int a1, .int a2] T I 0 0 (PI Q) := by
  have all : ∀ n : Nat, (∀ (v4 : Int32) (I : IM), ((a1).toNatClampNeg < 8) → V12 v4 I → μ12 v4 I < n → J (d + 4) mX3_nextPlace (PI Q) 0 0 12 [some (.ref 56), some (.int a1), none, some (.ref (17 + 4 * (a1).toNatClampNeg)), some (.int v4), none] [] T I 0 0) := by
    intro n
    induction n with
    | zero => exact fun _ _ _ _ hn => absurd hn (Nat.not_lt_zero _)
    | succ n ih =>
      exact fun v4 I hr3 hv hn => sX3_nextPlace_12 d hT a1 a2  hPl hr3 (fun w4 I_ hr3 hw => ih w4 I_ hr3 hw.1 (by have := hw.2; omega)) v4 I (vc12 v4 I hv)
  exact Ct.ofJ (by decide +kernel) rfl (by intro v hv; revert v hv; simp [Value.category]) rfl (sX3_nextPlace_0 d hT a1 a2  hPl (fun w4 I_ hr3 hw => (all (μ12 w4 I_ + 1)) w4 I_ hr3 hw (Nat.lt_succ_self _)) I h)

def jX3_nextPlaceI (T : Topo) (a1 : Int32) (a2 : Int32) : Nat → Int32 → IM → Int32 × IM
  | 0 => fun _ I => (0, I)
  | n + 1 => fun v4 I => (if (I (18 + 4 * (a1).toNatClampNeg) 4) ≤ v4 then ((-1), I) else (if (I 56 11) < 2000 then (if (jX0_linesHold (up2 I 56 11 ((I 56 11) + 1)) 57 (a1).toNatClampNeg (jX6_upAt T (up2 I 56 11 ((I 56 11) + 1)) (a1).toNatClampNeg v4) (I 63 a1.toNatClampNeg)) = 0 then (jX3_nextPlaceI T a1 a2 n (v4 + 1) (up2 I 56 11 ((I 56 11) + 1))) else (if (jX0_hostHolds (up2 I 56 11 ((I 56 11) + 1)) 57 (a1).toNatClampNeg (jX6_upAt T (up2 I 56 11 ((I 56 11) + 1)) (a1).toNatClampNeg v4) (I 63 a1.toNatClampNeg)) = 0 then (jX3_nextPlaceI T a1 a2 n (v4 + 1) (up2 I 56 11 ((I 56 11) + 1))) else (v4, (up2 I 56 11 ((I 56 11) + 1))))) else ((-1), (up2 I 56 12 1))))
def jX3_nextPlaceO (T : Topo) (a1 : Int32) (a2 : Int32) : Nat → Int32 → IM → Prop
  | 0 => fun _ _ => False
  | n + 1 => fun v4 I => ((((I (18 + 4 * (a1).toNatClampNeg) 4) ≤ v4) → True) ∧ ((¬ (I (18 + 4 * (a1).toNatClampNeg) 4) ≤ v4) → ((((I 56 11) < 2000) → (((jX6_upAtK T (a1).toNatClampNeg v4)) ∧ (vp_in a1 8 ∧ (((jX0_linesHoldK (up2 I 56 11 ((I 56 11) + 1)) 57 (a1).toNatClampNeg (jX6_upAt T (up2 I 56 11 ((I 56 11) + 1)) (a1).toNatClampNeg v4) (I 63 a1.toNatClampNeg))) ∧ ((((jX0_linesHold (up2 I 56 11 ((I 56 11) + 1)) 57 (a1).toNatClampNeg (jX6_upAt T (up2 I 56 11 ((I 56 11) + 1)) (a1).toNatClampNeg v4) (I 63 a1.toNatClampNeg)) = 0) → (jX3_nextPlaceO T a1 a2 n (v4 + 1) (up2 I 56 11 ((I 56 11) + 1)))) ∧ ((¬ (jX0_linesHold (up2 I 56 11 ((I 56 11) + 1)) 57 (a1).toNatClampNeg (jX6_upAt T (up2 I 56 11 ((I 56 11) + 1)) (a1).toNatClampNeg v4) (I 63 a1.toNatClampNeg)) = 0) → (vp_in a1 8 ∧ (((jX0_hostHoldsK (up2 I 56 11 ((I 56 11) + 1)) 57 (a1).toNatClampNeg (jX6_upAt T (up2 I 56 11 ((I 56 11) + 1)) (a1).toNatClampNeg v4) (I 63 a1.toNatClampNeg))) ∧ ((((jX0_hostHolds (up2 I 56 11 ((I 56 11) + 1)) 57 (a1).toNatClampNeg (jX6_upAt T (up2 I 56 11 ((I 56 11) + 1)) (a1).toNatClampNeg v4) (I 63 a1.toNatClampNeg)) = 0) → (jX3_nextPlaceO T a1 a2 n (v4 + 1) (up2 I 56 11 ((I 56 11) + 1)))) ∧ ((¬ (jX0_hostHolds (up2 I 56 11 ((I 56 11) + 1)) 57 (a1).toNatClampNeg (jX6_upAt T (up2 I 56 11 ((I 56 11) + 1)) (a1).toNatClampNeg v4) (I 63 a1.toNatClampNeg)) = 0) → True)))))))))) ∧ ((¬ (I 56 11) < 2000) → True))))
theorem jX3_nextPlaceI_12 (T : Topo) (a1 : Int32) (a2 : Int32) (n : Nat) (v4 : Int32) (I : IM) : jX3_nextPlaceI T a1 a2 (n + 1) v4 I = (if (I (18 + 4 * (a1).toNatClampNeg) 4) ≤ v4 then ((-1), I) else (if (I 56 11) < 2000 then (if (jX0_linesHold (up2 I 56 11 ((I 56 11) + 1)) 57 (a1).toNatClampNeg (jX6_upAt T (up2 I 56 11 ((I 56 11) + 1)) (a1).toNatClampNeg v4) (I 63 a1.toNatClampNeg)) = 0 then (jX3_nextPlaceI T a1 a2 n (v4 + 1) (up2 I 56 11 ((I 56 11) + 1))) else (if (jX0_hostHolds (up2 I 56 11 ((I 56 11) + 1)) 57 (a1).toNatClampNeg (jX6_upAt T (up2 I 56 11 ((I 56 11) + 1)) (a1).toNatClampNeg v4) (I 63 a1.toNatClampNeg)) = 0 then (jX3_nextPlaceI T a1 a2 n (v4 + 1) (up2 I 56 11 ((I 56 11) + 1))) else (v4, (up2 I 56 11 ((I 56 11) + 1))))) else ((-1), (up2 I 56 12 1)))) := rfl
theorem jX3_nextPlaceO_12 (T : Topo) (a1 : Int32) (a2 : Int32) (n : Nat) (v4 : Int32) (I : IM) : jX3_nextPlaceO T a1 a2 (n + 1) v4 I = ((((I (18 + 4 * (a1).toNatClampNeg) 4) ≤ v4) → True) ∧ ((¬ (I (18 + 4 * (a1).toNatClampNeg) 4) ≤ v4) → ((((I 56 11) < 2000) → (((jX6_upAtK T (a1).toNatClampNeg v4)) ∧ (vp_in a1 8 ∧ (((jX0_linesHoldK (up2 I 56 11 ((I 56 11) + 1)) 57 (a1).toNatClampNeg (jX6_upAt T (up2 I 56 11 ((I 56 11) + 1)) (a1).toNatClampNeg v4) (I 63 a1.toNatClampNeg))) ∧ ((((jX0_linesHold (up2 I 56 11 ((I 56 11) + 1)) 57 (a1).toNatClampNeg (jX6_upAt T (up2 I 56 11 ((I 56 11) + 1)) (a1).toNatClampNeg v4) (I 63 a1.toNatClampNeg)) = 0) → (jX3_nextPlaceO T a1 a2 n (v4 + 1) (up2 I 56 11 ((I 56 11) + 1)))) ∧ ((¬ (jX0_linesHold (up2 I 56 11 ((I 56 11) + 1)) 57 (a1).toNatClampNeg (jX6_upAt T (up2 I 56 11 ((I 56 11) + 1)) (a1).toNatClampNeg v4) (I 63 a1.toNatClampNeg)) = 0) → (vp_in a1 8 ∧ (((jX0_hostHoldsK (up2 I 56 11 ((I 56 11) + 1)) 57 (a1).toNatClampNeg (jX6_upAt T (up2 I 56 11 ((I 56 11) + 1)) (a1).toNatClampNeg v4) (I 63 a1.toNatClampNeg))) ∧ ((((jX0_hostHolds (up2 I 56 11 ((I 56 11) + 1)) 57 (a1).toNatClampNeg (jX6_upAt T (up2 I 56 11 ((I 56 11) + 1)) (a1).toNatClampNeg v4) (I 63 a1.toNatClampNeg)) = 0) → (jX3_nextPlaceO T a1 a2 n (v4 + 1) (up2 I 56 11 ((I 56 11) + 1)))) ∧ ((¬ (jX0_hostHolds (up2 I 56 11 ((I 56 11) + 1)) 57 (a1).toNatClampNeg (jX6_upAt T (up2 I 56 11 ((I 56 11) + 1)) (a1).toNatClampNeg v4) (I 63 a1.toNatClampNeg)) = 0) → True)))))))))) ∧ ((¬ (I 56 11) < 2000) → True)))) := rfl
def jX3_nextPlace (T : Topo) (I : IM) (a1 : Int32) (a2 : Int32) : Int32 × IM := (jX3_nextPlaceI T a1 a2 FU a2 I)
def jX3_nextPlaceK (T : Topo) (I : IM) (a1 : Int32) (a2 : Int32) : Prop := ((vp_in a1 8) ∧ (jX3_nextPlaceO T a1 a2 FU a2 I))
set_option maxRecDepth 10000 in
set_option maxHeartbeats 1000000 in
theorem uX3_nextPlace (d : Nat) {T : Topo} (hT : Lay T) (a1 : Int32) (a2 : Int32)  (hPl : Pl T) {R : Int32 × IM} : ∀ n : Nat, (∀ (v4 : Int32) (I : IM), ((a1).toNatClampNeg < 8) → jX3_nextPlaceO T a1 a2 n v4 I → jX3_nextPlaceI T a1 a2 n v4 I = R → J (d + 4) mX3_nextPlace (PI (fun x T' I' => T' = T ∧ x = R.1 ∧ I' = R.2)) 0 0 12 [some (.ref 56), some (.int a1), none, some (.ref (17 + 4 * (a1).toNatClampNeg)), some (.int v4), none] [] T I 0 0) := by
  intro n
  induction n with
  | zero => exact fun _ _ _ hz => hz.elim
  | succ n ih =>
    exact fun v4 I hr3 hok hit => by
        rw [jX3_nextPlaceO_12] at hok
        exact sX3_nextPlace_12 d hT a1 a2  hPl hr3 (K12 := fun w4 I_ => (jX3_nextPlaceO T a1 a2 n w4 I_ ∧ jX3_nextPlaceI T a1 a2 n w4 I_ = R)) (fun w4 I_ hr3 hw => ih w4 I_ hr3 hw.1 hw.2) v4 I (by
          unfold fX3_nextPlace_12
          exact ⟨fun hc1 => (by rw [jX3_nextPlaceI_12, if_pos hc1] at hit; exact ⟨rfl, by rw [← hit], by rw [← hit]⟩), fun hc1 => ⟨fun hc2 => ⟨(((hok).2 hc1).1 hc2).1, ⟨((((hok).2 hc1).1 hc2).2).1, ⟨(((((hok).2 hc1).1 hc2).2).2).1, ⟨fun hc3 => ⟨((((((hok).2 hc1).1 hc2).2).2).2).1 hc3, by rw [jX3_nextPlaceI_12, if_neg hc1, if_pos hc2, if_pos hc3] at hit; exact hit⟩, fun hc3 => ⟨(((((((hok).2 hc1).1 hc2).2).2).2).2 hc3).1, ⟨((((((((hok).2 hc1).1 hc2).2).2).2).2 hc3).2).1, ⟨fun hc4 => ⟨(((((((((hok).2 hc1).1 hc2).2).2).2).2 hc3).2).2).1 hc4, by rw [jX3_nextPlaceI_12, if_neg hc1, if_pos hc2, if_neg hc3, if_pos hc4] at hit; exact hit⟩, fun hc4 => (by rw [jX3_nextPlaceI_12, if_neg hc1, if_pos hc2, if_neg hc3, if_neg hc4] at hit; exact ⟨rfl, by rw [← hit], by rw [← hit]⟩)⟩⟩⟩⟩⟩⟩⟩, fun hc2 => (by rw [jX3_nextPlaceI_12, if_neg hc1, if_neg hc2] at hit; exact ⟨rfl, by rw [← hit], by rw [← hit]⟩)⟩⟩)
set_option maxRecDepth 10000 in
set_option maxHeartbeats 1000000 in
theorem qX3_nextPlace (d : Nat) {T : Topo} {I : IM} (hT : Lay T) (a1 : Int32) (a2 : Int32) (hPl : Pl T) (hp : (jX3_nextPlaceK T I a1 a2)) : CtI (d + 4) mX3_nextPlace [.ref 56, .int a1, .int a2] T I (fun x_ J_ => x_ = (jX3_nextPlace T I a1 a2).1 ∧ J_ = (jX3_nextPlace T I a1 a2).2) := by
  unfold jX3_nextPlaceK at hp
  exact Ct.ofJ (by decide +kernel) rfl (by intro v hv; revert v hv; simp [Value.category]) rfl (sX3_nextPlace_0 d hT a1 a2  hPl (K12 := fun w4 I_ => (jX3_nextPlaceO T a1 a2 FU w4 I_ ∧ jX3_nextPlaceI T a1 a2 FU w4 I_ = (jX3_nextPlace T I a1 a2))) (fun w4 I_ hr3 hw => uX3_nextPlace d hT a1 a2  hPl FU w4 I_ hr3 hw.1 hw.2) I (by
    unfold fX3_nextPlace_0
    exact ⟨(hp).1, ⟨(hp).2, rfl⟩⟩))

def fX3_put_0 (T : Topo) (a1 : Int32) (a2 : Int32) (Q : Topo → IM → Prop)  (I : IM) : Prop :=
  ((vp_in a1 8) ∧ (((jX6_upAtK T (a1).toNatClampNeg a2)) ∧ (vp_in a1 8 ∧ ((vp_in a1 8) ∧ (vp_in a1 8 ∧ (vp_in a1 8 ∧ (((jX0_enterK (up2 I 66 a1.toNatClampNeg (jX6_upAt T I (a1).toNatClampNeg a2)) 57 (a1).toNatClampNeg (jX6_upAt T I (a1).toNatClampNeg a2) (I 63 a1.toNatClampNeg) 1)) ∧ Q T (jX0_enter (up2 I 66 a1.toNatClampNeg (jX6_upAt T I (a1).toNatClampNeg a2)) 57 (a1).toNatClampNeg (jX6_upAt T I (a1).toNatClampNeg a2) (I 63 a1.toNatClampNeg) 1))))))))
set_option maxHeartbeats 4000000 in
set_option maxRecDepth 100000 in
theorem sX3_put_0 (d : Nat) {T : Topo} (hT : Lay T) (a1 : Int32) (a2 : Int32)  (hPl : Pl T)  {Q : Topo → IM → Prop}   (I : IM) (h : fX3_put_0 T a1 a2 Q  I) : J (d + 4) mX3_put (PV Q) 0 0 0 [some (.ref 56), some (.int a1), some (.int a2)] [] T I 0 0 := by
  unfold fX3_put_0 at h
  refine J.aload_n dX3_put_0 rfl rfl ?_
  refine J.getR (r := 66) dX3_put_1 fX3_31 (hT.k 56 rfl) rfl (hT.r 56 7 rfl rfl) ?_
  refine J.iload_n dX3_put_4 rfl rfl ?_
  refine J.aload_n dX3_put_5 rfl rfl ?_
  refine J.getR (r := 15) dX3_put_6 fX3_44 (hT.k 56 rfl) rfl (hT.r 56 1 rfl rfl) ?_
  refine J.iload_n dX3_put_9 rfl rfl ?_
  obtain ⟨hp1, h⟩ := h
  refine J.callVF (r := (17 + 4 * (a1).toNatClampNeg)) (k := 15) (as := [.int a1]) (rest := [.int a1, .ref 66]) dX3_put_10 kX9_at vX9_at lX3_111 (hT.k 15 rfl) rfl rfl rfl rfl rfl (by omega) (Nat.le_refl _) (Nat.le_refl _) (qX9_at (d + 3) hT a1 hp1) ?_
  refine J.getR (r := (18 + 4 * (a1).toNatClampNeg)) dX3_put_13 fX3_122 (hT.sliceK (vp_lt hp1)) rfl (hT.sliceP (vp_lt hp1)) ?_
  refine J.iload_n dX3_put_16 rfl rfl ?_
  obtain ⟨hp2, h⟩ := h
  refine J.callVP (k := (18 + 4 * (a1).toNatClampNeg)) (as := [.int a2]) (rest := [.int a1, .ref 66]) dX3_put_17 kX6_upAt vX6_upAt lX3_129 (hT.placesK (vp_lt hp1)) rfl rfl rfl rfl rfl (by omega) (Nat.le_refl _) (Nat.le_refl _) (qX6_upAt (d + 3) hT (a1).toNatClampNeg (vp_lt hp1) a2 hPl hp2) ?_
  obtain ⟨hs3, h⟩ := h
  refine J.iast dX3_put_20 (hT.k 66 rfl) (hT.l 66 rfl) hs3 ?_
  refine J.aload_n dX3_put_21 rfl rfl ?_
  refine J.getR (r := 57) dX3_put_22 fX3_12 (hT.k 56 rfl) rfl (hT.r 56 2 rfl rfl) ?_
  refine J.aload_n dX3_put_25 rfl rfl ?_
  refine J.getR (r := 1) dX3_put_26 fX3_40 (hT.k 56 rfl) rfl (hT.r 56 0 rfl rfl) ?_
  refine J.aload_n dX3_put_29 rfl rfl ?_
  refine J.getR (r := 15) dX3_put_30 fX3_44 (hT.k 56 rfl) rfl (hT.r 56 1 rfl rfl) ?_
  refine J.iload_n dX3_put_33 rfl rfl ?_
  refine J.atpc (pc' := 34) rfl ?_
  obtain ⟨hp4, h⟩ := h
  refine J.callVF (r := (17 + 4 * (a1).toNatClampNeg)) (k := 15) (as := [.int a1]) (rest := [.ref 1, .ref 57]) dX3_put_34 kX9_at vX9_at lX3_111 (hT.k 15 rfl) rfl rfl rfl rfl rfl (by omega) (Nat.le_refl _) (Nat.le_refl _) (qX9_at (d + 3) hT a1 hp4) ?_
  refine J.aload_n dX3_put_37 rfl rfl ?_
  refine J.getR (r := 66) dX3_put_38 fX3_31 (hT.k 56 rfl) rfl (hT.r 56 7 rfl rfl) ?_
  refine J.iload_n dX3_put_41 rfl rfl ?_
  obtain ⟨hs5, h⟩ := h
  refine J.iald dX3_put_42 (hT.k 66 rfl) (hT.l 66 rfl) hs5 ?_
  refine J.topEq (y := (jX6_upAt T I (a1).toNatClampNeg a2)) (up2_at _ _ _ _) ?_
  refine J.aload_n dX3_put_43 rfl rfl ?_
  refine J.getR (r := 63) dX3_put_44 fX3_22 (hT.k 56 rfl) rfl (hT.r 56 4 rfl rfl) ?_
  refine J.iload_n dX3_put_47 rfl rfl ?_
  obtain ⟨hs6, h⟩ := h
  refine J.iald dX3_put_48 (hT.k 63 rfl) (hT.l 63 rfl) hs6 ?_
  refine J.topEq (y := (I 63 a1.toNatClampNeg)) (up2_o _ _ _ _ (by decide)) ?_
  refine J.iconst (v := 1) dX3_put_49 (by decide) ?_
  obtain ⟨hp7, h⟩ := h
  refine J.callVD (k := 57) (as := [.ref 1, .ref (17 + 4 * (a1).toNatClampNeg), .int (jX6_upAt T I (a1).toNatClampNeg a2), .int (I 63 a1.toNatClampNeg), .int 1]) (rest := []) dX3_put_50 kX0_enter vX0_enter lX3_139 (hT.k 57 rfl) rfl rfl rfl rfl rfl (by omega) (Nat.le_refl _) (Nat.le_refl _) (qX0_enter (d + 0) hT 57 (Or.inr rfl) (a1).toNatClampNeg (vp_lt hp4) (jX6_upAt T I (a1).toNatClampNeg a2) (I 63 a1.toNatClampNeg) 1 hp7) ?_
  exact J.vretQ dX3_put_53 rfl (Nat.le_refl _) (Nat.le_refl _) h
set_option maxHeartbeats 4000000 in
set_option maxRecDepth 100000 in
theorem wX3_put (d : Nat) {T : Topo} (hT : Lay T) (a1 : Int32) (a2 : Int32)  (hPl : Pl T) {Q : Topo → IM → Prop} {I : IM} (h : fX3_put_0 T a1 a2 Q I) : Ct (d + 4) mX3_put [.ref 56, .int a1, .int a2] T I 0 0 (PV Q) :=
  Ct.ofJ (by decide +kernel) rfl (by intro v hv; revert v hv; simp [Value.category]) rfl (sX3_put_0 d hT a1 a2  hPl I h)

def jX3_putM (T : Topo) (I : IM) (a1 : Int32) (a2 : Int32) : IM := (jX0_enter (up2 I 66 a1.toNatClampNeg (jX6_upAt T I (a1).toNatClampNeg a2)) 57 (a1).toNatClampNeg (jX6_upAt T I (a1).toNatClampNeg a2) (I 63 a1.toNatClampNeg) 1)
def jX3_putK (T : Topo) (I : IM) (a1 : Int32) (a2 : Int32) : Prop := ((vp_in a1 8) ∧ (((jX6_upAtK T (a1).toNatClampNeg a2)) ∧ (vp_in a1 8 ∧ ((vp_in a1 8) ∧ (vp_in a1 8 ∧ (vp_in a1 8 ∧ ((jX0_enterK (up2 I 66 a1.toNatClampNeg (jX6_upAt T I (a1).toNatClampNeg a2)) 57 (a1).toNatClampNeg (jX6_upAt T I (a1).toNatClampNeg a2) (I 63 a1.toNatClampNeg) 1))))))))
set_option maxRecDepth 10000 in
theorem qX3_put (d : Nat) {T : Topo} {I : IM} (hT : Lay T) (a1 : Int32) (a2 : Int32) (hPl : Pl T) (hp : (jX3_putK T I a1 a2)) : CtV (d + 4) mX3_put [.ref 56, .int a1, .int a2] T I (fun J_ => J_ = (jX3_putM T I a1 a2)) :=
  wX3_put d hT a1 a2  hPl (by
  unfold fX3_put_0
  exact ⟨(hp).1, ⟨((hp).2).1, ⟨(((hp).2).2).1, ⟨((((hp).2).2).2).1, ⟨(((((hp).2).2).2).2).1, ⟨((((((hp).2).2).2).2).2).1, ⟨((((((hp).2).2).2).2).2).2, ⟨rfl, by unfold jX3_putM; rfl⟩⟩⟩⟩⟩⟩⟩⟩)

def fX3_takeBack_0 (T : Topo) (a1 : Int32) (Q : Topo → IM → Prop)  (I : IM) : Prop :=
  (((a1 < 0) → Q T I) ∧ ((¬ a1 < 0) → (vp_in a1 8 ∧ ((vp_in (I 64 a1.toNatClampNeg) 8) ∧ (vp_in (I 64 a1.toNatClampNeg) 8 ∧ (vp_in (I 64 a1.toNatClampNeg) 8 ∧ (((jX0_enterK I 57 ((I 64 a1.toNatClampNeg)).toNatClampNeg (I 66 (I 64 a1.toNatClampNeg).toNatClampNeg) (I 63 (I 64 a1.toNatClampNeg).toNatClampNeg) (-1))) ∧ Q T (jX0_enter I 57 ((I 64 a1.toNatClampNeg)).toNatClampNeg (I 66 (I 64 a1.toNatClampNeg).toNatClampNeg) (I 63 (I 64 a1.toNatClampNeg).toNatClampNeg) (-1)))))))))
set_option maxHeartbeats 4000000 in
set_option maxRecDepth 100000 in
theorem sX3_takeBack_0 (d : Nat) {T : Topo} (hT : Lay T) (a1 : Int32)    {Q : Topo → IM → Prop}   (I : IM) (h : fX3_takeBack_0 T a1 Q  I) : J (d + 4) mX3_takeBack (PV Q) 0 0 0 [some (.ref 56), some (.int a1), none] [] T I 0 0 := by
  unfold fX3_takeBack_0 at h
  refine J.iload_n dX3_takeBack_0 rfl rfl ?_
  refine J.if_lt (tgt := 43) dX3_takeBack_1 (by decide) (fun hc1 => ?_) (fun hc1 => ?_)
  · have h := h.1 hc1
    exact J.vretQ dX3_takeBack_43 rfl (Nat.le_refl _) (Nat.le_refl _) h
  · have h := h.2 hc1
    refine J.aload_n dX3_takeBack_4 rfl rfl ?_
    refine J.getR (r := 64) dX3_takeBack_5 fX3_25 (hT.k 56 rfl) rfl (hT.r 56 5 rfl rfl) ?_
    refine J.iload_n dX3_takeBack_8 rfl rfl ?_
    obtain ⟨hs2, h⟩ := h
    refine J.iald dX3_takeBack_9 (hT.k 64 rfl) (hT.l 64 rfl) hs2 ?_
    refine J.istore_n (ls' := [some (.ref 56), some (.int a1), some (.int (I 64 a1.toNatClampNeg))]) dX3_takeBack_10 rfl rfl rfl ?_
    refine J.aload_n dX3_takeBack_11 rfl rfl ?_
    refine J.getR (r := 57) dX3_takeBack_12 fX3_12 (hT.k 56 rfl) rfl (hT.r 56 2 rfl rfl) ?_
    refine J.aload_n dX3_takeBack_15 rfl rfl ?_
    refine J.getR (r := 1) dX3_takeBack_16 fX3_40 (hT.k 56 rfl) rfl (hT.r 56 0 rfl rfl) ?_
    refine J.aload_n dX3_takeBack_19 rfl rfl ?_
    refine J.getR (r := 15) dX3_takeBack_20 fX3_44 (hT.k 56 rfl) rfl (hT.r 56 1 rfl rfl) ?_
    refine J.atpc (pc' := 23) rfl ?_
    refine J.iload_n dX3_takeBack_23 rfl rfl ?_
    obtain ⟨hp3, h⟩ := h
    refine J.callVF (r := (17 + 4 * ((I 64 a1.toNatClampNeg)).toNatClampNeg)) (k := 15) (as := [.int (I 64 a1.toNatClampNeg)]) (rest := [.ref 1, .ref 57]) dX3_takeBack_24 kX9_at vX9_at lX3_111 (hT.k 15 rfl) rfl rfl rfl rfl rfl (by omega) (Nat.le_refl _) (Nat.le_refl _) (qX9_at (d + 3) hT (I 64 a1.toNatClampNeg) hp3) ?_
    refine J.aload_n dX3_takeBack_27 rfl rfl ?_
    refine J.getR (r := 66) dX3_takeBack_28 fX3_31 (hT.k 56 rfl) rfl (hT.r 56 7 rfl rfl) ?_
    refine J.iload_n dX3_takeBack_31 rfl rfl ?_
    obtain ⟨hs4, h⟩ := h
    refine J.iald dX3_takeBack_32 (hT.k 66 rfl) (hT.l 66 rfl) hs4 ?_
    refine J.aload_n dX3_takeBack_33 rfl rfl ?_
    refine J.getR (r := 63) dX3_takeBack_34 fX3_22 (hT.k 56 rfl) rfl (hT.r 56 4 rfl rfl) ?_
    refine J.iload_n dX3_takeBack_37 rfl rfl ?_
    obtain ⟨hs5, h⟩ := h
    refine J.iald dX3_takeBack_38 (hT.k 63 rfl) (hT.l 63 rfl) hs5 ?_
    refine J.iconst (v := (-1)) dX3_takeBack_39 (by decide) ?_
    obtain ⟨hp6, h⟩ := h
    refine J.callVD (k := 57) (as := [.ref 1, .ref (17 + 4 * ((I 64 a1.toNatClampNeg)).toNatClampNeg), .int (I 66 (I 64 a1.toNatClampNeg).toNatClampNeg), .int (I 63 (I 64 a1.toNatClampNeg).toNatClampNeg), .int (-1)]) (rest := []) dX3_takeBack_40 kX0_enter vX0_enter lX3_139 (hT.k 57 rfl) rfl rfl rfl rfl rfl (by omega) (Nat.le_refl _) (Nat.le_refl _) (qX0_enter (d + 0) hT 57 (Or.inr rfl) ((I 64 a1.toNatClampNeg)).toNatClampNeg (vp_lt hp3) (I 66 (I 64 a1.toNatClampNeg).toNatClampNeg) (I 63 (I 64 a1.toNatClampNeg).toNatClampNeg) (-1) hp6) ?_
    exact J.vretQ dX3_takeBack_43 rfl (Nat.le_refl _) (Nat.le_refl _) h
set_option maxHeartbeats 4000000 in
set_option maxRecDepth 100000 in
theorem wX3_takeBack (d : Nat) {T : Topo} (hT : Lay T) (a1 : Int32)   {Q : Topo → IM → Prop} {I : IM} (h : fX3_takeBack_0 T a1 Q I) : Ct (d + 4) mX3_takeBack [.ref 56, .int a1] T I 0 0 (PV Q) :=
  Ct.ofJ (by decide +kernel) rfl (by intro v hv; revert v hv; simp [Value.category]) rfl (sX3_takeBack_0 d hT a1   I h)

def jX3_takeBackM (I : IM) (a1 : Int32) : IM := (if a1 < 0 then I else (jX0_enter I 57 ((I 64 a1.toNatClampNeg)).toNatClampNeg (I 66 (I 64 a1.toNatClampNeg).toNatClampNeg) (I 63 (I 64 a1.toNatClampNeg).toNatClampNeg) (-1)))
def jX3_takeBackK (I : IM) (a1 : Int32) : Prop := (((a1 < 0) → True) ∧ ((¬ a1 < 0) → (vp_in a1 8 ∧ ((vp_in (I 64 a1.toNatClampNeg) 8) ∧ (vp_in (I 64 a1.toNatClampNeg) 8 ∧ (vp_in (I 64 a1.toNatClampNeg) 8 ∧ ((jX0_enterK I 57 ((I 64 a1.toNatClampNeg)).toNatClampNeg (I 66 (I 64 a1.toNatClampNeg).toNatClampNeg) (I 63 (I 64 a1.toNatClampNeg).toNatClampNeg) (-1)))))))))
set_option maxRecDepth 10000 in
theorem qX3_takeBack (d : Nat) {T : Topo} {I : IM} (hT : Lay T) (a1 : Int32)  (hp : (jX3_takeBackK I a1)) : CtV (d + 4) mX3_takeBack [.ref 56, .int a1] T I (fun J_ => J_ = (jX3_takeBackM I a1)) :=
  wX3_takeBack d hT a1   (by
  unfold fX3_takeBack_0
  exact ⟨fun hc1 => ⟨rfl, by unfold jX3_takeBackM; rw [if_pos hc1]⟩, fun hc1 => ⟨((hp).2 hc1).1, ⟨(((hp).2 hc1).2).1, ⟨((((hp).2 hc1).2).2).1, ⟨(((((hp).2 hc1).2).2).2).1, ⟨(((((hp).2 hc1).2).2).2).2, ⟨rfl, by unfold jX3_takeBackM; rw [if_neg hc1]⟩⟩⟩⟩⟩⟩⟩)

def fX3_mergeShifted_0 (T : Topo) (a1 : Int32) (a2 : Int32) (Q : Topo → IM → Prop) (K8 : Int32 → Int32 → Int32 → IM → Prop) (K127 : Int32 → IM → Prop) (I : IM) : Prop :=
  K8 0 0 0 I
def fX3_mergeShifted_8 (T : Topo) (a1 : Int32) (a2 : Int32) (Q : Topo → IM → Prop) (K8 : Int32 → Int32 → Int32 → IM → Prop) (K127 : Int32 → IM → Prop) (v3 v4 v5 : Int32) (I : IM) : Prop :=
  ((((2 * a1) ≤ v5) → K127 0 I) ∧ ((¬ (2 * a1) ≤ v5) → (((256 ≤ v5) → K127 0 I) ∧ ((¬ 256 ≤ v5) → (((a1 ≤ v4) → (vp_in v3 256 ∧ (vp_in v5 256 ∧ K8 (v3 + 1) (v4 + 0) (v5 + 1) (up2 I 68 v5.toNatClampNeg (I 67 v3.toNatClampNeg))))) ∧ ((¬ a1 ≤ v4) → (((a1 ≤ v3) → (vp_in v4 256 ∧ (vp_in v5 256 ∧ K8 (v3 + 0) (v4 + 1) (v5 + 1) (up2 I 68 v5.toNatClampNeg ((I 67 v4.toNatClampNeg) + a2))))) ∧ ((¬ a1 ≤ v3) → (vp_in v3 256 ∧ (vp_in v4 256 ∧ (((((I 67 v4.toNatClampNeg) + a2) ≤ (I 67 v3.toNatClampNeg)) → (vp_in v4 256 ∧ (vp_in v5 256 ∧ K8 (v3 + 0) (v4 + 1) (v5 + 1) (up2 I 68 v5.toNatClampNeg ((I 67 v4.toNatClampNeg) + a2))))) ∧ ((¬ ((I 67 v4.toNatClampNeg) + a2) ≤ (I 67 v3.toNatClampNeg)) → (vp_in v3 256 ∧ (vp_in v5 256 ∧ K8 (v3 + 1) (v4 + 0) (v5 + 1) (up2 I 68 v5.toNatClampNeg (I 67 v3.toNatClampNeg))))))))))))))))
def fX3_mergeShifted_127 (T : Topo) (a1 : Int32) (a2 : Int32) (Q : Topo → IM → Prop) (K8 : Int32 → Int32 → Int32 → IM → Prop) (K127 : Int32 → IM → Prop) (v5 : Int32) (I : IM) : Prop :=
  ((((2 * a1) ≤ v5) → Q T I) ∧ ((¬ (2 * a1) ≤ v5) → (((256 ≤ v5) → Q T I) ∧ ((¬ 256 ≤ v5) → (vp_in v5 256 ∧ (vp_in v5 256 ∧ K127 (v5 + 1) (up2 I 67 v5.toNatClampNeg (I 68 v5.toNatClampNeg))))))))
set_option maxHeartbeats 4000000 in
set_option maxRecDepth 100000 in
theorem sX3_mergeShifted_0 (d : Nat) {T : Topo} (hT : Lay T) (a1 : Int32) (a2 : Int32)    {Q : Topo → IM → Prop} {K8 : Int32 → Int32 → Int32 → IM → Prop} {K127 : Int32 → IM → Prop} (hK8 : ∀ (v3 v4 v5 : Int32) (I : IM), K8 v3 v4 v5 I → J (d + 0) mX3_mergeShifted (PV Q) 0 0 8 [some (.ref 56), some (.int a1), some (.int a2), some (.int v3), some (.int v4), some (.int v5), none] [] T I 0 0) (hK127 : ∀ (v5 : Int32) (I : IM), K127 v5 I → J (d + 0) mX3_mergeShifted (PV Q) 0 0 127 [some (.ref 56), some (.int a1), none, none, none, some (.int v5), none] [] T I 0 0) (I : IM) (h : fX3_mergeShifted_0 T a1 a2 Q K8 K127 I) : J (d + 0) mX3_mergeShifted (PV Q) 0 0 0 [some (.ref 56), some (.int a1), some (.int a2), none, none, none, none] [] T I 0 0 := by
  unfold fX3_mergeShifted_0 at h
  refine J.iconst (v := 0) dX3_mergeShifted_0 (by decide) ?_
  refine J.istore_n (ls' := [some (.ref 56), some (.int a1), some (.int a2), some (.int 0), none, none, none]) dX3_mergeShifted_1 rfl rfl rfl ?_
  refine J.iconst (v := 0) dX3_mergeShifted_2 (by decide) ?_
  refine J.istore (ls' := [some (.ref 56), some (.int a1), some (.int a2), some (.int 0), some (.int 0), none, none]) dX3_mergeShifted_3 rfl rfl ?_
  refine J.iconst (v := 0) dX3_mergeShifted_5 (by decide) ?_
  refine J.istore (ls' := [some (.ref 56), some (.int a1), some (.int a2), some (.int 0), some (.int 0), some (.int 0), none]) dX3_mergeShifted_6 rfl rfl ?_
  exact J.weaken (ls' := [some (.ref 56), some (.int a1), some (.int a2), some (.int 0), some (.int 0), some (.int 0), none]) (And.intro rfl (And.intro rfl (And.intro rfl (And.intro rfl (And.intro rfl (And.intro rfl trivial)))))) (hK8 0 0 0 I h)
set_option maxHeartbeats 4000000 in
set_option maxRecDepth 100000 in
theorem sX3_mergeShifted_8 (d : Nat) {T : Topo} (hT : Lay T) (a1 : Int32) (a2 : Int32)    {Q : Topo → IM → Prop} {K8 : Int32 → Int32 → Int32 → IM → Prop} {K127 : Int32 → IM → Prop} (hK8 : ∀ (v3 v4 v5 : Int32) (I : IM), K8 v3 v4 v5 I → J (d + 0) mX3_mergeShifted (PV Q) 0 0 8 [some (.ref 56), some (.int a1), some (.int a2), some (.int v3), some (.int v4), some (.int v5), none] [] T I 0 0) (hK127 : ∀ (v5 : Int32) (I : IM), K127 v5 I → J (d + 0) mX3_mergeShifted (PV Q) 0 0 127 [some (.ref 56), some (.int a1), none, none, none, some (.int v5), none] [] T I 0 0) (v3 v4 v5 : Int32) (I : IM) (h : fX3_mergeShifted_8 T a1 a2 Q K8 K127 v3 v4 v5 I) : J (d + 0) mX3_mergeShifted (PV Q) 0 0 8 [some (.ref 56), some (.int a1), some (.int a2), some (.int v3), some (.int v4), some (.int v5), none] [] T I 0 0 := by
  unfold fX3_mergeShifted_8 at h
  refine J.iload dX3_mergeShifted_8 rfl ?_
  refine J.iconst (v := 2) dX3_mergeShifted_10 (by decide) ?_
  refine J.iload_n dX3_mergeShifted_11 rfl rfl ?_
  refine J.imul dX3_mergeShifted_12 ?_
  refine J.icmp_ge (tgt := 124) dX3_mergeShifted_13 (by decide) (fun hc1 => ?_) (fun hc1 => ?_)
  · have h := h.1 hc1
    refine J.iconst (v := 0) dX3_mergeShifted_124 (by decide) ?_
    refine J.istore (ls' := [some (.ref 56), some (.int a1), some (.int a2), some (.int v3), some (.int v4), some (.int 0), none]) dX3_mergeShifted_125 rfl rfl ?_
    exact J.weaken (ls' := [some (.ref 56), some (.int a1), none, none, none, some (.int 0), none]) (And.intro rfl (And.intro rfl (And.intro rfl trivial))) (hK127 0 I h)
  · have h := h.2 hc1
    refine J.iload dX3_mergeShifted_16 rfl ?_
    refine J.sipush (v := 256) dX3_mergeShifted_18 (by decide) ?_
    refine J.icmp_ge (tgt := 124) dX3_mergeShifted_21 (by decide) (fun hc2 => ?_) (fun hc2 => ?_)
    · have h := h.1 hc2
      refine J.iconst (v := 0) dX3_mergeShifted_124 (by decide) ?_
      refine J.istore (ls' := [some (.ref 56), some (.int a1), some (.int a2), some (.int v3), some (.int v4), some (.int 0), none]) dX3_mergeShifted_125 rfl rfl ?_
      exact J.weaken (ls' := [some (.ref 56), some (.int a1), none, none, none, some (.int 0), none]) (And.intro rfl (And.intro rfl (And.intro rfl trivial))) (hK127 0 I h)
    · have h := h.2 hc2
      refine J.iload dX3_mergeShifted_24 rfl ?_
      refine J.iload_n dX3_mergeShifted_26 rfl rfl ?_
      refine J.icmp_ge (tgt := 53) dX3_mergeShifted_27 (by decide) (fun hc3 => ?_) (fun hc3 => ?_)
      · have h := h.1 hc3
        refine J.iconst (v := 1) dX3_mergeShifted_53 (by decide) ?_
        refine J.goto (tgt := 58) dX3_mergeShifted_54 (by decide) ?_
        refine J.istore (ls' := [some (.ref 56), some (.int a1), some (.int a2), some (.int v3), some (.int v4), some (.int v5), some (.int 1)]) dX3_mergeShifted_58 rfl rfl ?_
        refine J.aload_n dX3_mergeShifted_60 rfl rfl ?_
        refine J.getR (r := 68) dX3_mergeShifted_61 fX3_37 (hT.k 56 rfl) rfl (hT.r 56 9 rfl rfl) ?_
        refine J.iload dX3_mergeShifted_64 rfl ?_
        refine J.iload dX3_mergeShifted_66 rfl ?_
        refine J.atpc (pc' := 68) rfl ?_
        refine J.if_eq (tgt := 80) dX3_mergeShifted_68 (by decide) (fun hc => absurd hc (by decide)) (fun hc => ?_)
        refine J.aload_n dX3_mergeShifted_71 rfl rfl ?_
        refine J.getR (r := 67) dX3_mergeShifted_72 fX3_34 (hT.k 56 rfl) rfl (hT.r 56 8 rfl rfl) ?_
        refine J.iload_n dX3_mergeShifted_75 rfl rfl ?_
        obtain ⟨hs4, h⟩ := h
        refine J.iald dX3_mergeShifted_76 (hT.k 67 rfl) (hT.l 67 rfl) hs4 ?_
        refine J.goto (tgt := 89) dX3_mergeShifted_77 (by decide) ?_
        obtain ⟨hs5, h⟩ := h
        refine J.iast dX3_mergeShifted_89 (hT.k 68 rfl) (hT.l 68 rfl) hs5 ?_
        refine J.iload_n dX3_mergeShifted_90 rfl rfl ?_
        refine J.iload dX3_mergeShifted_91 rfl ?_
        refine J.if_eq (tgt := 100) dX3_mergeShifted_93 (by decide) (fun hc => absurd hc (by decide)) (fun hc => ?_)
        refine J.iconst (v := 1) dX3_mergeShifted_96 (by decide) ?_
        refine J.goto (tgt := 101) dX3_mergeShifted_97 (by decide) ?_
        refine J.iadd dX3_mergeShifted_101 ?_
        refine J.istore_n (ls' := [some (.ref 56), some (.int a1), some (.int a2), some (.int (v3 + 1)), some (.int v4), some (.int v5), some (.int 1)]) dX3_mergeShifted_102 rfl rfl rfl ?_
        refine J.atpc (pc' := 103) rfl ?_
        refine J.iload dX3_mergeShifted_103 rfl ?_
        refine J.iload dX3_mergeShifted_105 rfl ?_
        refine J.if_eq (tgt := 114) dX3_mergeShifted_107 (by decide) (fun hc => absurd hc (by decide)) (fun hc => ?_)
        refine J.iconst (v := 0) dX3_mergeShifted_110 (by decide) ?_
        refine J.goto (tgt := 115) dX3_mergeShifted_111 (by decide) ?_
        refine J.iadd dX3_mergeShifted_115 ?_
        refine J.istore (ls' := [some (.ref 56), some (.int a1), some (.int a2), some (.int (v3 + 1)), some (.int (v4 + 0)), some (.int v5), some (.int 1)]) dX3_mergeShifted_116 rfl rfl ?_
        refine J.iinc (v := (v5 + 1)) (ls' := [some (.ref 56), some (.int a1), some (.int a2), some (.int (v3 + 1)), some (.int (v4 + 0)), some (.int (v5 + 1)), some (.int 1)]) dX3_mergeShifted_118 rfl (by rfl) rfl ?_
        refine J.atpc (pc' := 121) rfl ?_
        refine J.goto (tgt := 8) dX3_mergeShifted_121 (by decide) ?_
        exact J.weaken (ls' := [some (.ref 56), some (.int a1), some (.int a2), some (.int (v3 + 1)), some (.int (v4 + 0)), some (.int (v5 + 1)), none]) (And.intro rfl (And.intro rfl (And.intro rfl (And.intro rfl (And.intro rfl (And.intro rfl trivial)))))) (hK8 (v3 + 1) (v4 + 0) (v5 + 1) (up2 I 68 v5.toNatClampNeg (I 67 v3.toNatClampNeg)) h)
      · have h := h.2 hc3
        refine J.iload_n dX3_mergeShifted_30 rfl rfl ?_
        refine J.iload_n dX3_mergeShifted_31 rfl rfl ?_
        refine J.icmp_ge (tgt := 57) dX3_mergeShifted_32 (by decide) (fun hc6 => ?_) (fun hc6 => ?_)
        · have h := h.1 hc6
          refine J.iconst (v := 0) dX3_mergeShifted_57 (by decide) ?_
          refine J.istore (ls' := [some (.ref 56), some (.int a1), some (.int a2), some (.int v3), some (.int v4), some (.int v5), some (.int 0)]) dX3_mergeShifted_58 rfl rfl ?_
          refine J.aload_n dX3_mergeShifted_60 rfl rfl ?_
          refine J.getR (r := 68) dX3_mergeShifted_61 fX3_37 (hT.k 56 rfl) rfl (hT.r 56 9 rfl rfl) ?_
          refine J.iload dX3_mergeShifted_64 rfl ?_
          refine J.iload dX3_mergeShifted_66 rfl ?_
          refine J.if_eq (tgt := 80) dX3_mergeShifted_68 (by decide) (fun hc => ?_) (fun hc => absurd (by decide) hc)
          refine J.atpc (pc' := 80) rfl ?_
          refine J.aload_n dX3_mergeShifted_80 rfl rfl ?_
          refine J.getR (r := 67) dX3_mergeShifted_81 fX3_34 (hT.k 56 rfl) rfl (hT.r 56 8 rfl rfl) ?_
          refine J.iload dX3_mergeShifted_84 rfl ?_
          obtain ⟨hs7, h⟩ := h
          refine J.iald dX3_mergeShifted_86 (hT.k 67 rfl) (hT.l 67 rfl) hs7 ?_
          refine J.iload_n dX3_mergeShifted_87 rfl rfl ?_
          refine J.iadd dX3_mergeShifted_88 ?_
          obtain ⟨hs8, h⟩ := h
          refine J.iast dX3_mergeShifted_89 (hT.k 68 rfl) (hT.l 68 rfl) hs8 ?_
          refine J.iload_n dX3_mergeShifted_90 rfl rfl ?_
          refine J.iload dX3_mergeShifted_91 rfl ?_
          refine J.if_eq (tgt := 100) dX3_mergeShifted_93 (by decide) (fun hc => ?_) (fun hc => absurd (by decide) hc)
          refine J.iconst (v := 0) dX3_mergeShifted_100 (by decide) ?_
          refine J.iadd dX3_mergeShifted_101 ?_
          refine J.istore_n (ls' := [some (.ref 56), some (.int a1), some (.int a2), some (.int (v3 + 0)), some (.int v4), some (.int v5), some (.int 0)]) dX3_mergeShifted_102 rfl rfl rfl ?_
          refine J.iload dX3_mergeShifted_103 rfl ?_
          refine J.atpc (pc' := 105) rfl ?_
          refine J.iload dX3_mergeShifted_105 rfl ?_
          refine J.if_eq (tgt := 114) dX3_mergeShifted_107 (by decide) (fun hc => ?_) (fun hc => absurd (by decide) hc)
          refine J.iconst (v := 1) dX3_mergeShifted_114 (by decide) ?_
          refine J.iadd dX3_mergeShifted_115 ?_
          refine J.istore (ls' := [some (.ref 56), some (.int a1), some (.int a2), some (.int (v3 + 0)), some (.int (v4 + 1)), some (.int v5), some (.int 0)]) dX3_mergeShifted_116 rfl rfl ?_
          refine J.iinc (v := (v5 + 1)) (ls' := [some (.ref 56), some (.int a1), some (.int a2), some (.int (v3 + 0)), some (.int (v4 + 1)), some (.int (v5 + 1)), some (.int 0)]) dX3_mergeShifted_118 rfl (by rfl) rfl ?_
          refine J.goto (tgt := 8) dX3_mergeShifted_121 (by decide) ?_
          exact J.weaken (ls' := [some (.ref 56), some (.int a1), some (.int a2), some (.int (v3 + 0)), some (.int (v4 + 1)), some (.int (v5 + 1)), none]) (And.intro rfl (And.intro rfl (And.intro rfl (And.intro rfl (And.intro rfl (And.intro rfl trivial)))))) (hK8 (v3 + 0) (v4 + 1) (v5 + 1) (up2 I 68 v5.toNatClampNeg ((I 67 v4.toNatClampNeg) + a2)) h)
        · have h := h.2 hc6
          refine J.aload_n dX3_mergeShifted_35 rfl rfl ?_
          refine J.getR (r := 67) dX3_mergeShifted_36 fX3_34 (hT.k 56 rfl) rfl (hT.r 56 8 rfl rfl) ?_
          refine J.iload_n dX3_mergeShifted_39 rfl rfl ?_
          obtain ⟨hs9, h⟩ := h
          refine J.iald dX3_mergeShifted_40 (hT.k 67 rfl) (hT.l 67 rfl) hs9 ?_
          refine J.aload_n dX3_mergeShifted_41 rfl rfl ?_
          refine J.getR (r := 67) dX3_mergeShifted_42 fX3_34 (hT.k 56 rfl) rfl (hT.r 56 8 rfl rfl) ?_
          refine J.iload dX3_mergeShifted_45 rfl ?_
          obtain ⟨hs10, h⟩ := h
          refine J.iald dX3_mergeShifted_47 (hT.k 67 rfl) (hT.l 67 rfl) hs10 ?_
          refine J.iload_n dX3_mergeShifted_48 rfl rfl ?_
          refine J.iadd dX3_mergeShifted_49 ?_
          refine J.icmp_ge (tgt := 57) dX3_mergeShifted_50 (by decide) (fun hc11 => ?_) (fun hc11 => ?_)
          · have h := h.1 hc11
            refine J.iconst (v := 0) dX3_mergeShifted_57 (by decide) ?_
            refine J.istore (ls' := [some (.ref 56), some (.int a1), some (.int a2), some (.int v3), some (.int v4), some (.int v5), some (.int 0)]) dX3_mergeShifted_58 rfl rfl ?_
            refine J.aload_n dX3_mergeShifted_60 rfl rfl ?_
            refine J.getR (r := 68) dX3_mergeShifted_61 fX3_37 (hT.k 56 rfl) rfl (hT.r 56 9 rfl rfl) ?_
            refine J.iload dX3_mergeShifted_64 rfl ?_
            refine J.iload dX3_mergeShifted_66 rfl ?_
            refine J.if_eq (tgt := 80) dX3_mergeShifted_68 (by decide) (fun hc => ?_) (fun hc => absurd (by decide) hc)
            refine J.atpc (pc' := 80) rfl ?_
            refine J.aload_n dX3_mergeShifted_80 rfl rfl ?_
            refine J.getR (r := 67) dX3_mergeShifted_81 fX3_34 (hT.k 56 rfl) rfl (hT.r 56 8 rfl rfl) ?_
            refine J.iload dX3_mergeShifted_84 rfl ?_
            obtain ⟨hs12, h⟩ := h
            refine J.iald dX3_mergeShifted_86 (hT.k 67 rfl) (hT.l 67 rfl) hs12 ?_
            refine J.iload_n dX3_mergeShifted_87 rfl rfl ?_
            refine J.iadd dX3_mergeShifted_88 ?_
            obtain ⟨hs13, h⟩ := h
            refine J.iast dX3_mergeShifted_89 (hT.k 68 rfl) (hT.l 68 rfl) hs13 ?_
            refine J.iload_n dX3_mergeShifted_90 rfl rfl ?_
            refine J.iload dX3_mergeShifted_91 rfl ?_
            refine J.if_eq (tgt := 100) dX3_mergeShifted_93 (by decide) (fun hc => ?_) (fun hc => absurd (by decide) hc)
            refine J.iconst (v := 0) dX3_mergeShifted_100 (by decide) ?_
            refine J.iadd dX3_mergeShifted_101 ?_
            refine J.istore_n (ls' := [some (.ref 56), some (.int a1), some (.int a2), some (.int (v3 + 0)), some (.int v4), some (.int v5), some (.int 0)]) dX3_mergeShifted_102 rfl rfl rfl ?_
            refine J.iload dX3_mergeShifted_103 rfl ?_
            refine J.atpc (pc' := 105) rfl ?_
            refine J.iload dX3_mergeShifted_105 rfl ?_
            refine J.if_eq (tgt := 114) dX3_mergeShifted_107 (by decide) (fun hc => ?_) (fun hc => absurd (by decide) hc)
            refine J.iconst (v := 1) dX3_mergeShifted_114 (by decide) ?_
            refine J.iadd dX3_mergeShifted_115 ?_
            refine J.istore (ls' := [some (.ref 56), some (.int a1), some (.int a2), some (.int (v3 + 0)), some (.int (v4 + 1)), some (.int v5), some (.int 0)]) dX3_mergeShifted_116 rfl rfl ?_
            refine J.iinc (v := (v5 + 1)) (ls' := [some (.ref 56), some (.int a1), some (.int a2), some (.int (v3 + 0)), some (.int (v4 + 1)), some (.int (v5 + 1)), some (.int 0)]) dX3_mergeShifted_118 rfl (by rfl) rfl ?_
            refine J.goto (tgt := 8) dX3_mergeShifted_121 (by decide) ?_
            exact J.weaken (ls' := [some (.ref 56), some (.int a1), some (.int a2), some (.int (v3 + 0)), some (.int (v4 + 1)), some (.int (v5 + 1)), none]) (And.intro rfl (And.intro rfl (And.intro rfl (And.intro rfl (And.intro rfl (And.intro rfl trivial)))))) (hK8 (v3 + 0) (v4 + 1) (v5 + 1) (up2 I 68 v5.toNatClampNeg ((I 67 v4.toNatClampNeg) + a2)) h)
          · have h := h.2 hc11
            refine J.iconst (v := 1) dX3_mergeShifted_53 (by decide) ?_
            refine J.goto (tgt := 58) dX3_mergeShifted_54 (by decide) ?_
            refine J.istore (ls' := [some (.ref 56), some (.int a1), some (.int a2), some (.int v3), some (.int v4), some (.int v5), some (.int 1)]) dX3_mergeShifted_58 rfl rfl ?_
            refine J.aload_n dX3_mergeShifted_60 rfl rfl ?_
            refine J.getR (r := 68) dX3_mergeShifted_61 fX3_37 (hT.k 56 rfl) rfl (hT.r 56 9 rfl rfl) ?_
            refine J.iload dX3_mergeShifted_64 rfl ?_
            refine J.iload dX3_mergeShifted_66 rfl ?_
            refine J.atpc (pc' := 68) rfl ?_
            refine J.if_eq (tgt := 80) dX3_mergeShifted_68 (by decide) (fun hc => absurd hc (by decide)) (fun hc => ?_)
            refine J.aload_n dX3_mergeShifted_71 rfl rfl ?_
            refine J.getR (r := 67) dX3_mergeShifted_72 fX3_34 (hT.k 56 rfl) rfl (hT.r 56 8 rfl rfl) ?_
            refine J.iload_n dX3_mergeShifted_75 rfl rfl ?_
            obtain ⟨hs14, h⟩ := h
            refine J.iald dX3_mergeShifted_76 (hT.k 67 rfl) (hT.l 67 rfl) hs14 ?_
            refine J.goto (tgt := 89) dX3_mergeShifted_77 (by decide) ?_
            obtain ⟨hs15, h⟩ := h
            refine J.iast dX3_mergeShifted_89 (hT.k 68 rfl) (hT.l 68 rfl) hs15 ?_
            refine J.iload_n dX3_mergeShifted_90 rfl rfl ?_
            refine J.iload dX3_mergeShifted_91 rfl ?_
            refine J.if_eq (tgt := 100) dX3_mergeShifted_93 (by decide) (fun hc => absurd hc (by decide)) (fun hc => ?_)
            refine J.iconst (v := 1) dX3_mergeShifted_96 (by decide) ?_
            refine J.goto (tgt := 101) dX3_mergeShifted_97 (by decide) ?_
            refine J.iadd dX3_mergeShifted_101 ?_
            refine J.istore_n (ls' := [some (.ref 56), some (.int a1), some (.int a2), some (.int (v3 + 1)), some (.int v4), some (.int v5), some (.int 1)]) dX3_mergeShifted_102 rfl rfl rfl ?_
            refine J.atpc (pc' := 103) rfl ?_
            refine J.iload dX3_mergeShifted_103 rfl ?_
            refine J.iload dX3_mergeShifted_105 rfl ?_
            refine J.if_eq (tgt := 114) dX3_mergeShifted_107 (by decide) (fun hc => absurd hc (by decide)) (fun hc => ?_)
            refine J.iconst (v := 0) dX3_mergeShifted_110 (by decide) ?_
            refine J.goto (tgt := 115) dX3_mergeShifted_111 (by decide) ?_
            refine J.iadd dX3_mergeShifted_115 ?_
            refine J.istore (ls' := [some (.ref 56), some (.int a1), some (.int a2), some (.int (v3 + 1)), some (.int (v4 + 0)), some (.int v5), some (.int 1)]) dX3_mergeShifted_116 rfl rfl ?_
            refine J.iinc (v := (v5 + 1)) (ls' := [some (.ref 56), some (.int a1), some (.int a2), some (.int (v3 + 1)), some (.int (v4 + 0)), some (.int (v5 + 1)), some (.int 1)]) dX3_mergeShifted_118 rfl (by rfl) rfl ?_
            refine J.atpc (pc' := 121) rfl ?_
            refine J.goto (tgt := 8) dX3_mergeShifted_121 (by decide) ?_
            exact J.weaken (ls' := [some (.ref 56), some (.int a1), some (.int a2), some (.int (v3 + 1)), some (.int (v4 + 0)), some (.int (v5 + 1)), none]) (And.intro rfl (And.intro rfl (And.intro rfl (And.intro rfl (And.intro rfl (And.intro rfl trivial)))))) (hK8 (v3 + 1) (v4 + 0) (v5 + 1) (up2 I 68 v5.toNatClampNeg (I 67 v3.toNatClampNeg)) h)
set_option maxHeartbeats 4000000 in
set_option maxRecDepth 100000 in
theorem sX3_mergeShifted_127 (d : Nat) {T : Topo} (hT : Lay T) (a1 : Int32) (a2 : Int32)    {Q : Topo → IM → Prop} {K8 : Int32 → Int32 → Int32 → IM → Prop} {K127 : Int32 → IM → Prop} (hK8 : ∀ (v3 v4 v5 : Int32) (I : IM), K8 v3 v4 v5 I → J (d + 0) mX3_mergeShifted (PV Q) 0 0 8 [some (.ref 56), some (.int a1), some (.int a2), some (.int v3), some (.int v4), some (.int v5), none] [] T I 0 0) (hK127 : ∀ (v5 : Int32) (I : IM), K127 v5 I → J (d + 0) mX3_mergeShifted (PV Q) 0 0 127 [some (.ref 56), some (.int a1), none, none, none, some (.int v5), none] [] T I 0 0) (v5 : Int32) (I : IM) (h : fX3_mergeShifted_127 T a1 a2 Q K8 K127 v5 I) : J (d + 0) mX3_mergeShifted (PV Q) 0 0 127 [some (.ref 56), some (.int a1), none, none, none, some (.int v5), none] [] T I 0 0 := by
  unfold fX3_mergeShifted_127 at h
  refine J.iload dX3_mergeShifted_127 rfl ?_
  refine J.iconst (v := 2) dX3_mergeShifted_129 (by decide) ?_
  refine J.iload_n dX3_mergeShifted_130 rfl rfl ?_
  refine J.imul dX3_mergeShifted_131 ?_
  refine J.icmp_ge (tgt := 163) dX3_mergeShifted_132 (by decide) (fun hc1 => ?_) (fun hc1 => ?_)
  · have h := h.1 hc1
    exact J.vretQ dX3_mergeShifted_163 rfl (Nat.le_refl _) (Nat.le_refl _) h
  · have h := h.2 hc1
    refine J.iload dX3_mergeShifted_135 rfl ?_
    refine J.sipush (v := 256) dX3_mergeShifted_137 (by decide) ?_
    refine J.icmp_ge (tgt := 163) dX3_mergeShifted_140 (by decide) (fun hc2 => ?_) (fun hc2 => ?_)
    · have h := h.1 hc2
      exact J.vretQ dX3_mergeShifted_163 rfl (Nat.le_refl _) (Nat.le_refl _) h
    · have h := h.2 hc2
      refine J.aload_n dX3_mergeShifted_143 rfl rfl ?_
      refine J.getR (r := 67) dX3_mergeShifted_144 fX3_34 (hT.k 56 rfl) rfl (hT.r 56 8 rfl rfl) ?_
      refine J.iload dX3_mergeShifted_147 rfl ?_
      refine J.aload_n dX3_mergeShifted_149 rfl rfl ?_
      refine J.getR (r := 68) dX3_mergeShifted_150 fX3_37 (hT.k 56 rfl) rfl (hT.r 56 9 rfl rfl) ?_
      refine J.iload dX3_mergeShifted_153 rfl ?_
      obtain ⟨hs3, h⟩ := h
      refine J.iald dX3_mergeShifted_155 (hT.k 68 rfl) (hT.l 68 rfl) hs3 ?_
      obtain ⟨hs4, h⟩ := h
      refine J.iast dX3_mergeShifted_156 (hT.k 67 rfl) (hT.l 67 rfl) hs4 ?_
      refine J.iinc (v := (v5 + 1)) (ls' := [some (.ref 56), some (.int a1), none, none, none, some (.int (v5 + 1)), none]) dX3_mergeShifted_157 rfl (by rfl) rfl ?_
      refine J.goto (tgt := 127) dX3_mergeShifted_160 (by decide) ?_
      exact J.weaken (ls' := [some (.ref 56), some (.int a1), none, none, none, some (.int (v5 + 1)), none]) (And.intro rfl (And.intro rfl (And.intro rfl trivial))) (hK127 (v5 + 1) (up2 I 67 v5.toNatClampNeg (I 68 v5.toNatClampNeg)) h)
set_option maxHeartbeats 4000000 in
set_option maxRecDepth 100000 in
theorem wX3_mergeShifted (d : Nat) {T : Topo} (hT : Lay T) (a1 : Int32) (a2 : Int32)   {Q : Topo → IM → Prop} (V8 : Int32 → Int32 → Int32 → IM → Prop) (μ8 : Int32 → Int32 → Int32 → IM → Nat) (V127 : Int32 → IM → Prop) (μ127 : Int32 → IM → Nat) (vc8 : ∀ (v3 v4 v5 : Int32) (I : IM), V8 v3 v4 v5 I → fX3_mergeShifted_8 T a1 a2 Q (fun w3 w4 w5 I_ => V8 w3 w4 w5 I_ ∧ μ8 w3 w4 w5 I_ < μ8 v3 v4 v5 I) (fun w5 I_ => V127 w5 I_ ∧ μ127 w5 I_ < μ8 v3 v4 v5 I) v3 v4 v5 I) (vc127 : ∀ (v5 : Int32) (I : IM), V127 v5 I → fX3_mergeShifted_127 T a1 a2 Q (fun w3 w4 w5 I_ => V8 w3 w4 w5 I_ ∧ μ8 w3 w4 w5 I_ < μ127 v5 I) (fun w5 I_ => V127 w5 I_ ∧ μ127 w5 I_ < μ127 v5 I) v5 I) {I : IM} (h : fX3_mergeShifted_0 T a1 a2 Q V8 V127 I) : Ct (d + 0) mX3_mergeShifted [.ref 56, .int a1, .int a2] T I 0 0 (PV Q) := by
  have all : ∀ n : Nat, (∀ (v3 v4 v5 : Int32) (I : IM), V8 v3 v4 v5 I → μ8 v3 v4 v5 I < n → J (d + 0) mX3_mergeShifted (PV Q) 0 0 8 [some (.ref 56), some (.int a1), some (.int a2), some (.int v3), some (.int v4), some (.int v5), none] [] T I 0 0) ∧ (∀ (v5 : Int32) (I : IM), V127 v5 I → μ127 v5 I < n → J (d + 0) mX3_mergeShifted (PV Q) 0 0 127 [some (.ref 56), some (.int a1), none, none, none, some (.int v5), none] [] T I 0 0) := by
    intro n
    induction n with
    | zero => exact ⟨fun _ _ _ _ _ hn => absurd hn (Nat.not_lt_zero _), fun _ _ _ hn => absurd hn (Nat.not_lt_zero _)⟩
    | succ n ih =>
      exact ⟨fun v3 v4 v5 I hv hn => sX3_mergeShifted_8 d hT a1 a2   (fun w3 w4 w5 I_ hw => ih.1 w3 w4 w5 I_ hw.1 (by have := hw.2; omega)) (fun w5 I_ hw => ih.2 w5 I_ hw.1 (by have := hw.2; omega)) v3 v4 v5 I (vc8 v3 v4 v5 I hv), fun v5 I hv hn => sX3_mergeShifted_127 d hT a1 a2   (fun w3 w4 w5 I_ hw => ih.1 w3 w4 w5 I_ hw.1 (by have := hw.2; omega)) (fun w5 I_ hw => ih.2 w5 I_ hw.1 (by have := hw.2; omega)) v5 I (vc127 v5 I hv)⟩
  exact Ct.ofJ (by decide +kernel) rfl (by intro v hv; revert v hv; simp [Value.category]) rfl (sX3_mergeShifted_0 d hT a1 a2   (fun w3 w4 w5 I_ hw => (all (μ8 w3 w4 w5 I_ + 1)).1 w3 w4 w5 I_ hw (Nat.lt_succ_self _)) (fun w5 I_ hw => (all (μ127 w5 I_ + 1)).2 w5 I_ hw (Nat.lt_succ_self _)) I h)

def jX3_mergeShiftedB8 (a1 : Int32) (a2 : Int32) (F : (Nat → Int32 → Int32 → Int32 → IM → IM)) (v3 v4 v5 : Int32) (I : IM) : IM := (if (2 * a1) ≤ v5 then (F 1 0 0 0 I) else (if 256 ≤ v5 then (F 1 0 0 0 I) else (if a1 ≤ v4 then (F 0 (v3 + 1) (v4 + 0) (v5 + 1) (up2 I 68 v5.toNatClampNeg (I 67 v3.toNatClampNeg))) else (if a1 ≤ v3 then (F 0 (v3 + 0) (v4 + 1) (v5 + 1) (up2 I 68 v5.toNatClampNeg ((I 67 v4.toNatClampNeg) + a2))) else (if ((I 67 v4.toNatClampNeg) + a2) ≤ (I 67 v3.toNatClampNeg) then (F 0 (v3 + 0) (v4 + 1) (v5 + 1) (up2 I 68 v5.toNatClampNeg ((I 67 v4.toNatClampNeg) + a2))) else (F 0 (v3 + 1) (v4 + 0) (v5 + 1) (up2 I 68 v5.toNatClampNeg (I 67 v3.toNatClampNeg))))))))
def jX3_mergeShiftedC8 (a1 : Int32) (a2 : Int32) (F : (Nat → Int32 → Int32 → Int32 → IM → Prop)) (v3 v4 v5 : Int32) (I : IM) : Prop := ((((2 * a1) ≤ v5) → (F 1 0 0 0 I)) ∧ ((¬ (2 * a1) ≤ v5) → (((256 ≤ v5) → (F 1 0 0 0 I)) ∧ ((¬ 256 ≤ v5) → (((a1 ≤ v4) → (vp_in v3 256 ∧ (vp_in v5 256 ∧ (F 0 (v3 + 1) (v4 + 0) (v5 + 1) (up2 I 68 v5.toNatClampNeg (I 67 v3.toNatClampNeg)))))) ∧ ((¬ a1 ≤ v4) → (((a1 ≤ v3) → (vp_in v4 256 ∧ (vp_in v5 256 ∧ (F 0 (v3 + 0) (v4 + 1) (v5 + 1) (up2 I 68 v5.toNatClampNeg ((I 67 v4.toNatClampNeg) + a2)))))) ∧ ((¬ a1 ≤ v3) → (vp_in v3 256 ∧ (vp_in v4 256 ∧ (((((I 67 v4.toNatClampNeg) + a2) ≤ (I 67 v3.toNatClampNeg)) → (vp_in v4 256 ∧ (vp_in v5 256 ∧ (F 0 (v3 + 0) (v4 + 1) (v5 + 1) (up2 I 68 v5.toNatClampNeg ((I 67 v4.toNatClampNeg) + a2)))))) ∧ ((¬ ((I 67 v4.toNatClampNeg) + a2) ≤ (I 67 v3.toNatClampNeg)) → (vp_in v3 256 ∧ (vp_in v5 256 ∧ (F 0 (v3 + 1) (v4 + 0) (v5 + 1) (up2 I 68 v5.toNatClampNeg (I 67 v3.toNatClampNeg)))))))))))))))))
def jX3_mergeShiftedB127 (a1 : Int32) (a2 : Int32) (F : (Nat → Int32 → Int32 → Int32 → IM → IM)) (v3 v4 v5 : Int32) (I : IM) : IM := (if (2 * a1) ≤ v5 then I else (if 256 ≤ v5 then I else (F 1 0 0 (v5 + 1) (up2 I 67 v5.toNatClampNeg (I 68 v5.toNatClampNeg)))))
def jX3_mergeShiftedC127 (a1 : Int32) (a2 : Int32) (F : (Nat → Int32 → Int32 → Int32 → IM → Prop)) (v3 v4 v5 : Int32) (I : IM) : Prop := ((((2 * a1) ≤ v5) → True) ∧ ((¬ (2 * a1) ≤ v5) → (((256 ≤ v5) → True) ∧ ((¬ 256 ≤ v5) → (vp_in v5 256 ∧ (vp_in v5 256 ∧ (F 1 0 0 (v5 + 1) (up2 I 67 v5.toNatClampNeg (I 68 v5.toNatClampNeg)))))))))
def jX3_mergeShiftedI (a1 : Int32) (a2 : Int32) : Nat → Nat → Int32 → Int32 → Int32 → IM → IM
  | 0 => fun _ _ _ _ I => I
  | n + 1 => fun tg v3 v4 v5 I => (if tg = 0 then jX3_mergeShiftedB8 a1 a2 (jX3_mergeShiftedI a1 a2 n) v3 v4 v5 I else (if tg = 1 then jX3_mergeShiftedB127 a1 a2 (jX3_mergeShiftedI a1 a2 n) v3 v4 v5 I else I))
def jX3_mergeShiftedO (a1 : Int32) (a2 : Int32) : Nat → Nat → Int32 → Int32 → Int32 → IM → Prop
  | 0 => fun _ _ _ _ _ => False
  | n + 1 => fun tg v3 v4 v5 I => (if tg = 0 then jX3_mergeShiftedC8 a1 a2 (jX3_mergeShiftedO a1 a2 n) v3 v4 v5 I else (if tg = 1 then jX3_mergeShiftedC127 a1 a2 (jX3_mergeShiftedO a1 a2 n) v3 v4 v5 I else True))
theorem jX3_mergeShiftedI_8 (a1 : Int32) (a2 : Int32) (n : Nat) (v3 v4 v5 : Int32) (I : IM) : jX3_mergeShiftedI a1 a2 (n + 1) 0 v3 v4 v5 I = (if (2 * a1) ≤ v5 then (jX3_mergeShiftedI a1 a2 n 1 0 0 0 I) else (if 256 ≤ v5 then (jX3_mergeShiftedI a1 a2 n 1 0 0 0 I) else (if a1 ≤ v4 then (jX3_mergeShiftedI a1 a2 n 0 (v3 + 1) (v4 + 0) (v5 + 1) (up2 I 68 v5.toNatClampNeg (I 67 v3.toNatClampNeg))) else (if a1 ≤ v3 then (jX3_mergeShiftedI a1 a2 n 0 (v3 + 0) (v4 + 1) (v5 + 1) (up2 I 68 v5.toNatClampNeg ((I 67 v4.toNatClampNeg) + a2))) else (if ((I 67 v4.toNatClampNeg) + a2) ≤ (I 67 v3.toNatClampNeg) then (jX3_mergeShiftedI a1 a2 n 0 (v3 + 0) (v4 + 1) (v5 + 1) (up2 I 68 v5.toNatClampNeg ((I 67 v4.toNatClampNeg) + a2))) else (jX3_mergeShiftedI a1 a2 n 0 (v3 + 1) (v4 + 0) (v5 + 1) (up2 I 68 v5.toNatClampNeg (I 67 v3.toNatClampNeg)))))))) := by
  show (if (0 : Nat) = 0 then jX3_mergeShiftedB8 a1 a2 (jX3_mergeShiftedI a1 a2 n) v3 v4 v5 I else (if (0 : Nat) = 1 then jX3_mergeShiftedB127 a1 a2 (jX3_mergeShiftedI a1 a2 n) v3 v4 v5 I else I)) = _
  rw [if_pos rfl]; rfl
theorem jX3_mergeShiftedO_8 (a1 : Int32) (a2 : Int32) (n : Nat) (v3 v4 v5 : Int32) (I : IM) : jX3_mergeShiftedO a1 a2 (n + 1) 0 v3 v4 v5 I = ((((2 * a1) ≤ v5) → (jX3_mergeShiftedO a1 a2 n 1 0 0 0 I)) ∧ ((¬ (2 * a1) ≤ v5) → (((256 ≤ v5) → (jX3_mergeShiftedO a1 a2 n 1 0 0 0 I)) ∧ ((¬ 256 ≤ v5) → (((a1 ≤ v4) → (vp_in v3 256 ∧ (vp_in v5 256 ∧ (jX3_mergeShiftedO a1 a2 n 0 (v3 + 1) (v4 + 0) (v5 + 1) (up2 I 68 v5.toNatClampNeg (I 67 v3.toNatClampNeg)))))) ∧ ((¬ a1 ≤ v4) → (((a1 ≤ v3) → (vp_in v4 256 ∧ (vp_in v5 256 ∧ (jX3_mergeShiftedO a1 a2 n 0 (v3 + 0) (v4 + 1) (v5 + 1) (up2 I 68 v5.toNatClampNeg ((I 67 v4.toNatClampNeg) + a2)))))) ∧ ((¬ a1 ≤ v3) → (vp_in v3 256 ∧ (vp_in v4 256 ∧ (((((I 67 v4.toNatClampNeg) + a2) ≤ (I 67 v3.toNatClampNeg)) → (vp_in v4 256 ∧ (vp_in v5 256 ∧ (jX3_mergeShiftedO a1 a2 n 0 (v3 + 0) (v4 + 1) (v5 + 1) (up2 I 68 v5.toNatClampNeg ((I 67 v4.toNatClampNeg) + a2)))))) ∧ ((¬ ((I 67 v4.toNatClampNeg) + a2) ≤ (I 67 v3.toNatClampNeg)) → (vp_in v3 256 ∧ (vp_in v5 256 ∧ (jX3_mergeShiftedO a1 a2 n 0 (v3 + 1) (v4 + 0) (v5 + 1) (up2 I 68 v5.toNatClampNeg (I 67 v3.toNatClampNeg))))))))))))))))) := by
  show (if (0 : Nat) = 0 then jX3_mergeShiftedC8 a1 a2 (jX3_mergeShiftedO a1 a2 n) v3 v4 v5 I else (if (0 : Nat) = 1 then jX3_mergeShiftedC127 a1 a2 (jX3_mergeShiftedO a1 a2 n) v3 v4 v5 I else True)) = _
  rw [if_pos rfl]; rfl
theorem jX3_mergeShiftedI_127 (a1 : Int32) (a2 : Int32) (n : Nat) (v3 v4 v5 : Int32) (I : IM) : jX3_mergeShiftedI a1 a2 (n + 1) 1 v3 v4 v5 I = (if (2 * a1) ≤ v5 then I else (if 256 ≤ v5 then I else (jX3_mergeShiftedI a1 a2 n 1 0 0 (v5 + 1) (up2 I 67 v5.toNatClampNeg (I 68 v5.toNatClampNeg))))) := by
  show (if (1 : Nat) = 0 then jX3_mergeShiftedB8 a1 a2 (jX3_mergeShiftedI a1 a2 n) v3 v4 v5 I else (if (1 : Nat) = 1 then jX3_mergeShiftedB127 a1 a2 (jX3_mergeShiftedI a1 a2 n) v3 v4 v5 I else I)) = _
  rw [if_neg (by decide), if_pos rfl]; rfl
theorem jX3_mergeShiftedO_127 (a1 : Int32) (a2 : Int32) (n : Nat) (v3 v4 v5 : Int32) (I : IM) : jX3_mergeShiftedO a1 a2 (n + 1) 1 v3 v4 v5 I = ((((2 * a1) ≤ v5) → True) ∧ ((¬ (2 * a1) ≤ v5) → (((256 ≤ v5) → True) ∧ ((¬ 256 ≤ v5) → (vp_in v5 256 ∧ (vp_in v5 256 ∧ (jX3_mergeShiftedO a1 a2 n 1 0 0 (v5 + 1) (up2 I 67 v5.toNatClampNeg (I 68 v5.toNatClampNeg))))))))) := by
  show (if (1 : Nat) = 0 then jX3_mergeShiftedC8 a1 a2 (jX3_mergeShiftedO a1 a2 n) v3 v4 v5 I else (if (1 : Nat) = 1 then jX3_mergeShiftedC127 a1 a2 (jX3_mergeShiftedO a1 a2 n) v3 v4 v5 I else True)) = _
  rw [if_neg (by decide), if_pos rfl]; rfl
def jX3_mergeShifted (I : IM) (a1 : Int32) (a2 : Int32) : IM := (jX3_mergeShiftedI a1 a2 FU 0 0 0 0 I)
def jX3_mergeShiftedK (I : IM) (a1 : Int32) (a2 : Int32) : Prop := (jX3_mergeShiftedO a1 a2 FU 0 0 0 0 I)
set_option maxRecDepth 10000 in
set_option maxHeartbeats 1000000 in
theorem uX3_mergeShifted (d : Nat) {T : Topo} (hT : Lay T) (a1 : Int32) (a2 : Int32)   {R : IM} : ∀ n : Nat, (∀ (v3 v4 v5 : Int32) (I : IM), jX3_mergeShiftedO a1 a2 n 0 v3 v4 v5 I → jX3_mergeShiftedI a1 a2 n 0 v3 v4 v5 I = R → J (d + 0) mX3_mergeShifted (PV (fun T' I' => T' = T ∧ I' = R)) 0 0 8 [some (.ref 56), some (.int a1), some (.int a2), some (.int v3), some (.int v4), some (.int v5), none] [] T I 0 0) ∧ (∀ (v5 : Int32) (I : IM), jX3_mergeShiftedO a1 a2 n 1 0 0 v5 I → jX3_mergeShiftedI a1 a2 n 1 0 0 v5 I = R → J (d + 0) mX3_mergeShifted (PV (fun T' I' => T' = T ∧ I' = R)) 0 0 127 [some (.ref 56), some (.int a1), none, none, none, some (.int v5), none] [] T I 0 0) := by
  intro n
  induction n with
  | zero => exact ⟨fun _ _ _ _ hz => hz.elim, fun _ _ hz => hz.elim⟩
  | succ n ih =>
    refine ⟨?_, ?_⟩
    · exact fun v3 v4 v5 I hok hit => by
        rw [jX3_mergeShiftedO_8] at hok
        exact sX3_mergeShifted_8 d hT a1 a2   (K8 := fun w3 w4 w5 I_ => (jX3_mergeShiftedO a1 a2 n 0 w3 w4 w5 I_ ∧ jX3_mergeShiftedI a1 a2 n 0 w3 w4 w5 I_ = R)) (K127 := fun w5 I_ => (jX3_mergeShiftedO a1 a2 n 1 0 0 w5 I_ ∧ jX3_mergeShiftedI a1 a2 n 1 0 0 w5 I_ = R)) (fun w3 w4 w5 I_ hw => ih.1 w3 w4 w5 I_ hw.1 hw.2) (fun w5 I_ hw => ih.2 w5 I_ hw.1 hw.2) v3 v4 v5 I (by
          unfold fX3_mergeShifted_8
          exact ⟨fun hc1 => ⟨(hok).1 hc1, by rw [jX3_mergeShiftedI_8, if_pos hc1] at hit; exact hit⟩, fun hc1 => ⟨fun hc2 => ⟨((hok).2 hc1).1 hc2, by rw [jX3_mergeShiftedI_8, if_neg hc1, if_pos hc2] at hit; exact hit⟩, fun hc2 => ⟨fun hc3 => ⟨((((hok).2 hc1).2 hc2).1 hc3).1, ⟨(((((hok).2 hc1).2 hc2).1 hc3).2).1, ⟨(((((hok).2 hc1).2 hc2).1 hc3).2).2, by rw [jX3_mergeShiftedI_8, if_neg hc1, if_neg hc2, if_pos hc3] at hit; exact hit⟩⟩⟩, fun hc3 => ⟨fun hc4 => ⟨(((((hok).2 hc1).2 hc2).2 hc3).1 hc4).1, ⟨((((((hok).2 hc1).2 hc2).2 hc3).1 hc4).2).1, ⟨((((((hok).2 hc1).2 hc2).2 hc3).1 hc4).2).2, by rw [jX3_mergeShiftedI_8, if_neg hc1, if_neg hc2, if_neg hc3, if_pos hc4] at hit; exact hit⟩⟩⟩, fun hc4 => ⟨(((((hok).2 hc1).2 hc2).2 hc3).2 hc4).1, ⟨((((((hok).2 hc1).2 hc2).2 hc3).2 hc4).2).1, ⟨fun hc5 => ⟨((((((((hok).2 hc1).2 hc2).2 hc3).2 hc4).2).2).1 hc5).1, ⟨(((((((((hok).2 hc1).2 hc2).2 hc3).2 hc4).2).2).1 hc5).2).1, ⟨(((((((((hok).2 hc1).2 hc2).2 hc3).2 hc4).2).2).1 hc5).2).2, by rw [jX3_mergeShiftedI_8, if_neg hc1, if_neg hc2, if_neg hc3, if_neg hc4, if_pos hc5] at hit; exact hit⟩⟩⟩, fun hc5 => ⟨((((((((hok).2 hc1).2 hc2).2 hc3).2 hc4).2).2).2 hc5).1, ⟨(((((((((hok).2 hc1).2 hc2).2 hc3).2 hc4).2).2).2 hc5).2).1, ⟨(((((((((hok).2 hc1).2 hc2).2 hc3).2 hc4).2).2).2 hc5).2).2, by rw [jX3_mergeShiftedI_8, if_neg hc1, if_neg hc2, if_neg hc3, if_neg hc4, if_neg hc5] at hit; exact hit⟩⟩⟩⟩⟩⟩⟩⟩⟩⟩)
    · exact fun v5 I hok hit => by
        rw [jX3_mergeShiftedO_127] at hok
        exact sX3_mergeShifted_127 d hT a1 a2   (K8 := fun w3 w4 w5 I_ => (jX3_mergeShiftedO a1 a2 n 0 w3 w4 w5 I_ ∧ jX3_mergeShiftedI a1 a2 n 0 w3 w4 w5 I_ = R)) (K127 := fun w5 I_ => (jX3_mergeShiftedO a1 a2 n 1 0 0 w5 I_ ∧ jX3_mergeShiftedI a1 a2 n 1 0 0 w5 I_ = R)) (fun w3 w4 w5 I_ hw => ih.1 w3 w4 w5 I_ hw.1 hw.2) (fun w5 I_ hw => ih.2 w5 I_ hw.1 hw.2) v5 I (by
          unfold fX3_mergeShifted_127
          exact ⟨fun hc1 => ⟨rfl, by rw [jX3_mergeShiftedI_127, if_pos hc1] at hit; exact hit⟩, fun hc1 => ⟨fun hc2 => ⟨rfl, by rw [jX3_mergeShiftedI_127, if_neg hc1, if_pos hc2] at hit; exact hit⟩, fun hc2 => ⟨(((hok).2 hc1).2 hc2).1, ⟨((((hok).2 hc1).2 hc2).2).1, ⟨((((hok).2 hc1).2 hc2).2).2, by rw [jX3_mergeShiftedI_127, if_neg hc1, if_neg hc2] at hit; exact hit⟩⟩⟩⟩⟩)
set_option maxRecDepth 10000 in
set_option maxHeartbeats 1000000 in
theorem qX3_mergeShifted (d : Nat) {T : Topo} {I : IM} (hT : Lay T) (a1 : Int32) (a2 : Int32)  (hp : (jX3_mergeShiftedK I a1 a2)) : CtV (d + 0) mX3_mergeShifted [.ref 56, .int a1, .int a2] T I (fun J_ => J_ = (jX3_mergeShifted I a1 a2)) := by
  unfold jX3_mergeShiftedK at hp
  exact Ct.ofJ (by decide +kernel) rfl (by intro v hv; revert v hv; simp [Value.category]) rfl (sX3_mergeShifted_0 d hT a1 a2   (K8 := fun w3 w4 w5 I_ => (jX3_mergeShiftedO a1 a2 FU 0 w3 w4 w5 I_ ∧ jX3_mergeShiftedI a1 a2 FU 0 w3 w4 w5 I_ = (jX3_mergeShifted I a1 a2))) (K127 := fun w5 I_ => (jX3_mergeShiftedO a1 a2 FU 1 0 0 w5 I_ ∧ jX3_mergeShiftedI a1 a2 FU 1 0 0 w5 I_ = (jX3_mergeShifted I a1 a2))) (fun w3 w4 w5 I_ hw => (uX3_mergeShifted d hT a1 a2   FU).1 w3 w4 w5 I_ hw.1 hw.2) (fun w5 I_ hw => (uX3_mergeShifted d hT a1 a2   FU).2 w5 I_ hw.1 hw.2) I (by
    unfold fX3_mergeShifted_0
    exact ⟨hp, rfl⟩))

def fX3_laid_0 (T : Topo) (a1 : Int32) (Q : Int32 → Topo → IM → Prop) (K9 : Int32 → Int32 → IM → Prop) (K131 : Int32 → Int32 → Int32 → IM → Prop) (I : IM) : Prop :=
  (((jX3_gatherMembersK I a1)) ∧ K9 0 0 (jX3_gatherMembers I a1))
def fX3_laid_9 (T : Topo) (a1 : Int32) (Q : Int32 → Topo → IM → Prop) (K9 : Int32 → Int32 → IM → Prop) (K131 : Int32 → Int32 → Int32 → IM → Prop) (v2 v3 : Int32) (I : IM) : Prop :=
  (((10000 ≤ v3) → (((¬ v2 = (I 56 10)) → K131 v2 0 0 I) ∧ ((v2 = (I 56 10)) → K131 v2 1 0 I))) ∧ ((¬ 10000 ≤ v3) → (((v2 < 0) → (((¬ v2 = (I 56 10)) → K131 v2 0 0 I) ∧ ((v2 = (I 56 10)) → K131 v2 1 0 I))) ∧ ((¬ v2 < 0) → ((((I 56 10) ≤ v2) → (((¬ v2 = (I 56 10)) → K131 v2 0 0 I) ∧ ((v2 = (I 56 10)) → K131 v2 1 0 I))) ∧ ((¬ (I 56 10) ≤ v2) → (((¬ (I 56 12) = 0) → (((¬ v2 = (I 56 10)) → K131 v2 0 0 I) ∧ ((v2 = (I 56 10)) → K131 v2 1 0 I))) ∧ (((I 56 12) = 0) → (vp_in v2 8 ∧ (vp_in v2 8 ∧ (((jX3_nextPlaceK T I (I 64 v2.toNatClampNeg) ((I 65 v2.toNatClampNeg) + 1))) ∧ (((((jX3_nextPlace T I (I 64 v2.toNatClampNeg) ((I 65 v2.toNatClampNeg) + 1)).1) < 0) → (((¬ ((jX3_nextPlace T I (I 64 v2.toNatClampNeg) ((I 65 v2.toNatClampNeg) + 1)).2 56 12) = 0) → K9 v2 (v3 + 1) (jX3_nextPlace T I (I 64 v2.toNatClampNeg) ((I 65 v2.toNatClampNeg) + 1)).2) ∧ ((((jX3_nextPlace T I (I 64 v2.toNatClampNeg) ((I 65 v2.toNatClampNeg) + 1)).2 56 12) = 0) → (vp_in v2 8 ∧ (((jX3_takeBackK (up2 (jX3_nextPlace T I (I 64 v2.toNatClampNeg) ((I 65 v2.toNatClampNeg) + 1)).2 65 v2.toNatClampNeg (-1)) (v2 + (-1)))) ∧ K9 (v2 + (-1)) (v3 + 1) (jX3_takeBackM (up2 (jX3_nextPlace T I (I 64 v2.toNatClampNeg) ((I 65 v2.toNatClampNeg) + 1)).2 65 v2.toNatClampNeg (-1)) (v2 + (-1)))))))) ∧ ((¬ ((jX3_nextPlace T I (I 64 v2.toNatClampNeg) ((I 65 v2.toNatClampNeg) + 1)).1) < 0) → (vp_in v2 8 ∧ (vp_in v2 8 ∧ (((jX3_putK T (up2 (jX3_nextPlace T I (I 64 v2.toNatClampNeg) ((I 65 v2.toNatClampNeg) + 1)).2 65 v2.toNatClampNeg ((jX3_nextPlace T I (I 64 v2.toNatClampNeg) ((I 65 v2.toNatClampNeg) + 1)).1)) ((jX3_nextPlace T I (I 64 v2.toNatClampNeg) ((I 65 v2.toNatClampNeg) + 1)).2 64 v2.toNatClampNeg) ((jX3_nextPlace T I (I 64 v2.toNatClampNeg) ((I 65 v2.toNatClampNeg) + 1)).1))) ∧ K9 (v2 + 1) (v3 + 1) (jX3_putM T (up2 (jX3_nextPlace T I (I 64 v2.toNatClampNeg) ((I 65 v2.toNatClampNeg) + 1)).2 65 v2.toNatClampNeg ((jX3_nextPlace T I (I 64 v2.toNatClampNeg) ((I 65 v2.toNatClampNeg) + 1)).1)) ((jX3_nextPlace T I (I 64 v2.toNatClampNeg) ((I 65 v2.toNatClampNeg) + 1)).2 64 v2.toNatClampNeg) ((jX3_nextPlace T I (I 64 v2.toNatClampNeg) ((I 65 v2.toNatClampNeg) + 1)).1))))))))))))))))))
def fX3_laid_131 (T : Topo) (a1 : Int32) (Q : Int32 → Topo → IM → Prop) (K9 : Int32 → Int32 → IM → Prop) (K131 : Int32 → Int32 → Int32 → IM → Prop) (v2 v3 v4 : Int32) (I : IM) : Prop :=
  (((v2 ≤ v4) → (v3 = 0 ∨ v3 = 1) ∧ Q v3 T I) ∧ ((¬ v2 ≤ v4) → (((jX3_takeBackK I v4)) ∧ K131 v2 v3 (v4 + 1) (jX3_takeBackM I v4))))
set_option maxHeartbeats 4000000 in
set_option maxRecDepth 100000 in
theorem sX3_laid_0 (d : Nat) {T : Topo} (hT : Lay T) (a1 : Int32)  (hPl : Pl T)  {Q : Int32 → Topo → IM → Prop} {K9 : Int32 → Int32 → IM → Prop} {K131 : Int32 → Int32 → Int32 → IM → Prop} (hK9 : ∀ (v2 v3 : Int32) (I : IM), K9 v2 v3 I → J (d + 5) mX3_laid (PI Q) 0 0 9 [some (.ref 56), none, some (.int v2), some (.int v3), none] [] T I 0 0) (hK131 : ∀ (v2 v3 v4 : Int32) (I : IM), K131 v2 v3 v4 I → J (d + 5) mX3_laid (PI Q) 0 0 131 [some (.ref 56), none, some (.int v2), some (.int v3), some (.int v4)] [] T I 0 0) (I : IM) (h : fX3_laid_0 T a1 Q K9 K131 I) : J (d + 5) mX3_laid (PI Q) 0 0 0 [some (.ref 56), some (.int a1), none, none, none] [] T I 0 0 := by
  unfold fX3_laid_0 at h
  refine J.aload_n dX3_laid_0 rfl rfl ?_
  refine J.iload_n dX3_laid_1 rfl rfl ?_
  obtain ⟨hp1, h⟩ := h
  refine J.callVD (k := 56) (as := [.int a1]) (rest := []) dX3_laid_2 kX3_gatherMembers vX3_gatherMembers lX3_74 (hT.k 56 rfl) rfl rfl rfl rfl rfl (by omega) (Nat.le_refl _) (Nat.le_refl _) (qX3_gatherMembers (d + 3) hT a1 hp1) ?_
  refine J.iconst (v := 0) dX3_laid_5 (by decide) ?_
  refine J.istore_n (ls' := [some (.ref 56), some (.int a1), some (.int 0), none, none]) dX3_laid_6 rfl rfl rfl ?_
  refine J.iconst (v := 0) dX3_laid_7 (by decide) ?_
  refine J.istore_n (ls' := [some (.ref 56), some (.int a1), some (.int 0), some (.int 0), none]) dX3_laid_8 rfl rfl rfl ?_
  exact J.weaken (ls' := [some (.ref 56), none, some (.int 0), some (.int 0), none]) (And.intro rfl (And.intro rfl (And.intro rfl trivial))) (hK9 0 0 (jX3_gatherMembers I a1) h)
set_option maxHeartbeats 4000000 in
set_option maxRecDepth 100000 in
theorem sX3_laid_9 (d : Nat) {T : Topo} (hT : Lay T) (a1 : Int32)  (hPl : Pl T)  {Q : Int32 → Topo → IM → Prop} {K9 : Int32 → Int32 → IM → Prop} {K131 : Int32 → Int32 → Int32 → IM → Prop} (hK9 : ∀ (v2 v3 : Int32) (I : IM), K9 v2 v3 I → J (d + 5) mX3_laid (PI Q) 0 0 9 [some (.ref 56), none, some (.int v2), some (.int v3), none] [] T I 0 0) (hK131 : ∀ (v2 v3 v4 : Int32) (I : IM), K131 v2 v3 v4 I → J (d + 5) mX3_laid (PI Q) 0 0 131 [some (.ref 56), none, some (.int v2), some (.int v3), some (.int v4)] [] T I 0 0) (v2 v3 : Int32) (I : IM) (h : fX3_laid_9 T a1 Q K9 K131 v2 v3 I) : J (d + 5) mX3_laid (PI Q) 0 0 9 [some (.ref 56), none, some (.int v2), some (.int v3), none] [] T I 0 0 := by
  unfold fX3_laid_9 at h
  refine J.iload_n dX3_laid_9 rfl rfl ?_
  refine J.sipush (v := 10000) dX3_laid_10 (by decide) ?_
  refine J.icmp_ge (tgt := 114) dX3_laid_13 (by decide) (fun hc1 => ?_) (fun hc1 => ?_)
  · have h := h.1 hc1
    refine J.iload_n dX3_laid_114 rfl rfl ?_
    refine J.aload_n dX3_laid_115 rfl rfl ?_
    refine J.getI dX3_laid_116 fX3_78 (hT.k 56 rfl) rfl ?_
    refine J.icmp_ne (tgt := 126) dX3_laid_119 (by decide) (fun hc2 => ?_) (fun hc2 => ?_)
    · have h := h.1 hc2
      refine J.iconst (v := 0) dX3_laid_126 (by decide) ?_
      refine J.istore_n (ls' := [some (.ref 56), none, some (.int v2), some (.int 0), none]) dX3_laid_127 rfl rfl rfl ?_
      refine J.iconst (v := 0) dX3_laid_128 (by decide) ?_
      refine J.istore (ls' := [some (.ref 56), none, some (.int v2), some (.int 0), some (.int 0)]) dX3_laid_129 rfl rfl ?_
      exact J.weaken (ls' := [some (.ref 56), none, some (.int v2), some (.int 0), some (.int 0)]) (And.intro rfl (And.intro rfl (And.intro rfl (And.intro rfl trivial)))) (hK131 v2 0 0 I h)
    · have h := h.2 hc2
      refine J.iconst (v := 1) dX3_laid_122 (by decide) ?_
      refine J.goto (tgt := 127) dX3_laid_123 (by decide) ?_
      refine J.istore_n (ls' := [some (.ref 56), none, some (.int v2), some (.int 1), none]) dX3_laid_127 rfl rfl rfl ?_
      refine J.iconst (v := 0) dX3_laid_128 (by decide) ?_
      refine J.istore (ls' := [some (.ref 56), none, some (.int v2), some (.int 1), some (.int 0)]) dX3_laid_129 rfl rfl ?_
      exact J.weaken (ls' := [some (.ref 56), none, some (.int v2), some (.int 1), some (.int 0)]) (And.intro rfl (And.intro rfl (And.intro rfl (And.intro rfl trivial)))) (hK131 v2 1 0 I h)
  · have h := h.2 hc1
    refine J.iload_n dX3_laid_16 rfl rfl ?_
    refine J.if_lt (tgt := 114) dX3_laid_17 (by decide) (fun hc3 => ?_) (fun hc3 => ?_)
    · have h := h.1 hc3
      refine J.iload_n dX3_laid_114 rfl rfl ?_
      refine J.aload_n dX3_laid_115 rfl rfl ?_
      refine J.getI dX3_laid_116 fX3_78 (hT.k 56 rfl) rfl ?_
      refine J.icmp_ne (tgt := 126) dX3_laid_119 (by decide) (fun hc4 => ?_) (fun hc4 => ?_)
      · have h := h.1 hc4
        refine J.iconst (v := 0) dX3_laid_126 (by decide) ?_
        refine J.istore_n (ls' := [some (.ref 56), none, some (.int v2), some (.int 0), none]) dX3_laid_127 rfl rfl rfl ?_
        refine J.iconst (v := 0) dX3_laid_128 (by decide) ?_
        refine J.istore (ls' := [some (.ref 56), none, some (.int v2), some (.int 0), some (.int 0)]) dX3_laid_129 rfl rfl ?_
        exact J.weaken (ls' := [some (.ref 56), none, some (.int v2), some (.int 0), some (.int 0)]) (And.intro rfl (And.intro rfl (And.intro rfl (And.intro rfl trivial)))) (hK131 v2 0 0 I h)
      · have h := h.2 hc4
        refine J.iconst (v := 1) dX3_laid_122 (by decide) ?_
        refine J.goto (tgt := 127) dX3_laid_123 (by decide) ?_
        refine J.istore_n (ls' := [some (.ref 56), none, some (.int v2), some (.int 1), none]) dX3_laid_127 rfl rfl rfl ?_
        refine J.iconst (v := 0) dX3_laid_128 (by decide) ?_
        refine J.istore (ls' := [some (.ref 56), none, some (.int v2), some (.int 1), some (.int 0)]) dX3_laid_129 rfl rfl ?_
        exact J.weaken (ls' := [some (.ref 56), none, some (.int v2), some (.int 1), some (.int 0)]) (And.intro rfl (And.intro rfl (And.intro rfl (And.intro rfl trivial)))) (hK131 v2 1 0 I h)
    · have h := h.2 hc3
      refine J.iload_n dX3_laid_20 rfl rfl ?_
      refine J.aload_n dX3_laid_21 rfl rfl ?_
      refine J.getI dX3_laid_22 fX3_78 (hT.k 56 rfl) rfl ?_
      refine J.icmp_ge (tgt := 114) dX3_laid_25 (by decide) (fun hc5 => ?_) (fun hc5 => ?_)
      · have h := h.1 hc5
        refine J.iload_n dX3_laid_114 rfl rfl ?_
        refine J.aload_n dX3_laid_115 rfl rfl ?_
        refine J.getI dX3_laid_116 fX3_78 (hT.k 56 rfl) rfl ?_
        refine J.icmp_ne (tgt := 126) dX3_laid_119 (by decide) (fun hc6 => ?_) (fun hc6 => ?_)
        · have h := h.1 hc6
          refine J.iconst (v := 0) dX3_laid_126 (by decide) ?_
          refine J.istore_n (ls' := [some (.ref 56), none, some (.int v2), some (.int 0), none]) dX3_laid_127 rfl rfl rfl ?_
          refine J.iconst (v := 0) dX3_laid_128 (by decide) ?_
          refine J.istore (ls' := [some (.ref 56), none, some (.int v2), some (.int 0), some (.int 0)]) dX3_laid_129 rfl rfl ?_
          exact J.weaken (ls' := [some (.ref 56), none, some (.int v2), some (.int 0), some (.int 0)]) (And.intro rfl (And.intro rfl (And.intro rfl (And.intro rfl trivial)))) (hK131 v2 0 0 I h)
        · have h := h.2 hc6
          refine J.iconst (v := 1) dX3_laid_122 (by decide) ?_
          refine J.goto (tgt := 127) dX3_laid_123 (by decide) ?_
          refine J.istore_n (ls' := [some (.ref 56), none, some (.int v2), some (.int 1), none]) dX3_laid_127 rfl rfl rfl ?_
          refine J.iconst (v := 0) dX3_laid_128 (by decide) ?_
          refine J.istore (ls' := [some (.ref 56), none, some (.int v2), some (.int 1), some (.int 0)]) dX3_laid_129 rfl rfl ?_
          exact J.weaken (ls' := [some (.ref 56), none, some (.int v2), some (.int 1), some (.int 0)]) (And.intro rfl (And.intro rfl (And.intro rfl (And.intro rfl trivial)))) (hK131 v2 1 0 I h)
      · have h := h.2 hc5
        refine J.aload_n dX3_laid_28 rfl rfl ?_
        refine J.getI dX3_laid_29 fX3_52 (hT.k 56 rfl) rfl ?_
        refine J.if_ne (tgt := 114) dX3_laid_32 (by decide) (fun hc7 => ?_) (fun hc7 => ?_)
        · have h := h.1 hc7
          refine J.iload_n dX3_laid_114 rfl rfl ?_
          refine J.aload_n dX3_laid_115 rfl rfl ?_
          refine J.getI dX3_laid_116 fX3_78 (hT.k 56 rfl) rfl ?_
          refine J.icmp_ne (tgt := 126) dX3_laid_119 (by decide) (fun hc8 => ?_) (fun hc8 => ?_)
          · have h := h.1 hc8
            refine J.iconst (v := 0) dX3_laid_126 (by decide) ?_
            refine J.istore_n (ls' := [some (.ref 56), none, some (.int v2), some (.int 0), none]) dX3_laid_127 rfl rfl rfl ?_
            refine J.iconst (v := 0) dX3_laid_128 (by decide) ?_
            refine J.istore (ls' := [some (.ref 56), none, some (.int v2), some (.int 0), some (.int 0)]) dX3_laid_129 rfl rfl ?_
            exact J.weaken (ls' := [some (.ref 56), none, some (.int v2), some (.int 0), some (.int 0)]) (And.intro rfl (And.intro rfl (And.intro rfl (And.intro rfl trivial)))) (hK131 v2 0 0 I h)
          · have h := h.2 hc8
            refine J.iconst (v := 1) dX3_laid_122 (by decide) ?_
            refine J.goto (tgt := 127) dX3_laid_123 (by decide) ?_
            refine J.istore_n (ls' := [some (.ref 56), none, some (.int v2), some (.int 1), none]) dX3_laid_127 rfl rfl rfl ?_
            refine J.iconst (v := 0) dX3_laid_128 (by decide) ?_
            refine J.istore (ls' := [some (.ref 56), none, some (.int v2), some (.int 1), some (.int 0)]) dX3_laid_129 rfl rfl ?_
            exact J.weaken (ls' := [some (.ref 56), none, some (.int v2), some (.int 1), some (.int 0)]) (And.intro rfl (And.intro rfl (And.intro rfl (And.intro rfl trivial)))) (hK131 v2 1 0 I h)
        · have h := h.2 hc7
          refine J.aload_n dX3_laid_35 rfl rfl ?_
          refine J.aload_n dX3_laid_36 rfl rfl ?_
          refine J.getR (r := 64) dX3_laid_37 fX3_25 (hT.k 56 rfl) rfl (hT.r 56 5 rfl rfl) ?_
          refine J.iload_n dX3_laid_40 rfl rfl ?_
          obtain ⟨hs9, h⟩ := h
          refine J.iald dX3_laid_41 (hT.k 64 rfl) (hT.l 64 rfl) hs9 ?_
          refine J.aload_n dX3_laid_42 rfl rfl ?_
          refine J.getR (r := 65) dX3_laid_43 fX3_28 (hT.k 56 rfl) rfl (hT.r 56 6 rfl rfl) ?_
          refine J.iload_n dX3_laid_46 rfl rfl ?_
          obtain ⟨hs10, h⟩ := h
          refine J.iald dX3_laid_47 (hT.k 65 rfl) (hT.l 65 rfl) hs10 ?_
          refine J.iconst (v := 1) dX3_laid_48 (by decide) ?_
          refine J.iadd dX3_laid_49 ?_
          obtain ⟨hp11, h⟩ := h
          refine J.callVE (k := 56) (as := [.int (I 64 v2.toNatClampNeg), .int ((I 65 v2.toNatClampNeg) + 1)]) (rest := []) dX3_laid_50 kX3_nextPlace vX3_nextPlace lX3_79 (hT.k 56 rfl) rfl rfl rfl rfl rfl (by omega) (Nat.le_refl _) (Nat.le_refl _) (qX3_nextPlace (d + 0) hT (I 64 v2.toNatClampNeg) ((I 65 v2.toNatClampNeg) + 1) hPl hp11) ?_
          refine J.istore (ls' := [some (.ref 56), none, some (.int v2), some (.int v3), some (.int ((jX3_nextPlace T I (I 64 v2.toNatClampNeg) ((I 65 v2.toNatClampNeg) + 1)).1))]) dX3_laid_53 rfl rfl ?_
          refine J.iload dX3_laid_55 rfl ?_
          refine J.if_lt (tgt := 86) dX3_laid_57 (by decide) (fun hc12 => ?_) (fun hc12 => ?_)
          · have h := h.1 hc12
            refine J.aload_n dX3_laid_86 rfl rfl ?_
            refine J.getI dX3_laid_87 fX3_52 (hT.k 56 rfl) rfl ?_
            refine J.if_ne (tgt := 108) dX3_laid_90 (by decide) (fun hc13 => ?_) (fun hc13 => ?_)
            · have h := h.1 hc13
              refine J.iinc (v := (v3 + 1)) (ls' := [some (.ref 56), none, some (.int v2), some (.int (v3 + 1)), some (.int ((jX3_nextPlace T I (I 64 v2.toNatClampNeg) ((I 65 v2.toNatClampNeg) + 1)).1))]) dX3_laid_108 rfl (by rfl) rfl ?_
              refine J.goto (tgt := 9) dX3_laid_111 (by decide) ?_
              exact J.weaken (ls' := [some (.ref 56), none, some (.int v2), some (.int (v3 + 1)), none]) (And.intro rfl (And.intro rfl (And.intro rfl trivial))) (hK9 v2 (v3 + 1) (jX3_nextPlace T I (I 64 v2.toNatClampNeg) ((I 65 v2.toNatClampNeg) + 1)).2 h)
            · have h := h.2 hc13
              refine J.aload_n dX3_laid_93 rfl rfl ?_
              refine J.getR (r := 65) dX3_laid_94 fX3_28 (hT.k 56 rfl) rfl (hT.r 56 6 rfl rfl) ?_
              refine J.iload_n dX3_laid_97 rfl rfl ?_
              refine J.iconst (v := (-1)) dX3_laid_98 (by decide) ?_
              obtain ⟨hs14, h⟩ := h
              refine J.iast dX3_laid_99 (hT.k 65 rfl) (hT.l 65 rfl) hs14 ?_
              refine J.iinc (v := (v2 + (-1))) (ls' := [some (.ref 56), none, some (.int (v2 + (-1))), some (.int v3), some (.int ((jX3_nextPlace T I (I 64 v2.toNatClampNeg) ((I 65 v2.toNatClampNeg) + 1)).1))]) dX3_laid_100 rfl (by rfl) rfl ?_
              refine J.aload_n dX3_laid_103 rfl rfl ?_
              refine J.iload_n dX3_laid_104 rfl rfl ?_
              obtain ⟨hp15, h⟩ := h
              refine J.callVD (k := 56) (as := [.int (v2 + (-1))]) (rest := []) dX3_laid_105 kX3_takeBack vX3_takeBack lX3_87 (hT.k 56 rfl) rfl rfl rfl rfl rfl (by omega) (Nat.le_refl _) (Nat.le_refl _) (qX3_takeBack (d + 0) hT (v2 + (-1)) hp15) ?_
              refine J.iinc (v := (v3 + 1)) (ls' := [some (.ref 56), none, some (.int (v2 + (-1))), some (.int (v3 + 1)), some (.int ((jX3_nextPlace T I (I 64 v2.toNatClampNeg) ((I 65 v2.toNatClampNeg) + 1)).1))]) dX3_laid_108 rfl (by rfl) rfl ?_
              refine J.goto (tgt := 9) dX3_laid_111 (by decide) ?_
              exact J.weaken (ls' := [some (.ref 56), none, some (.int (v2 + (-1))), some (.int (v3 + 1)), none]) (And.intro rfl (And.intro rfl (And.intro rfl trivial))) (hK9 (v2 + (-1)) (v3 + 1) (jX3_takeBackM (up2 (jX3_nextPlace T I (I 64 v2.toNatClampNeg) ((I 65 v2.toNatClampNeg) + 1)).2 65 v2.toNatClampNeg (-1)) (v2 + (-1))) h)
          · have h := h.2 hc12
            refine J.aload_n dX3_laid_60 rfl rfl ?_
            refine J.getR (r := 65) dX3_laid_61 fX3_28 (hT.k 56 rfl) rfl (hT.r 56 6 rfl rfl) ?_
            refine J.iload_n dX3_laid_64 rfl rfl ?_
            refine J.iload dX3_laid_65 rfl ?_
            obtain ⟨hs16, h⟩ := h
            refine J.iast dX3_laid_67 (hT.k 65 rfl) (hT.l 65 rfl) hs16 ?_
            refine J.aload_n dX3_laid_68 rfl rfl ?_
            refine J.aload_n dX3_laid_69 rfl rfl ?_
            refine J.getR (r := 64) dX3_laid_70 fX3_25 (hT.k 56 rfl) rfl (hT.r 56 5 rfl rfl) ?_
            refine J.iload_n dX3_laid_73 rfl rfl ?_
            obtain ⟨hs17, h⟩ := h
            refine J.iald dX3_laid_74 (hT.k 64 rfl) (hT.l 64 rfl) hs17 ?_
            refine J.topEq (y := ((jX3_nextPlace T I (I 64 v2.toNatClampNeg) ((I 65 v2.toNatClampNeg) + 1)).2 64 v2.toNatClampNeg)) (up2_o _ _ _ _ (by decide)) ?_
            refine J.iload dX3_laid_75 rfl ?_
            obtain ⟨hp18, h⟩ := h
            refine J.callVD (k := 56) (as := [.int ((jX3_nextPlace T I (I 64 v2.toNatClampNeg) ((I 65 v2.toNatClampNeg) + 1)).2 64 v2.toNatClampNeg), .int ((jX3_nextPlace T I (I 64 v2.toNatClampNeg) ((I 65 v2.toNatClampNeg) + 1)).1)]) (rest := []) dX3_laid_77 kX3_put vX3_put lX3_83 (hT.k 56 rfl) rfl rfl rfl rfl rfl (by omega) (Nat.le_refl _) (Nat.le_refl _) (qX3_put (d + 0) hT ((jX3_nextPlace T I (I 64 v2.toNatClampNeg) ((I 65 v2.toNatClampNeg) + 1)).2 64 v2.toNatClampNeg) ((jX3_nextPlace T I (I 64 v2.toNatClampNeg) ((I 65 v2.toNatClampNeg) + 1)).1) hPl hp18) ?_
            refine J.iinc (v := (v2 + 1)) (ls' := [some (.ref 56), none, some (.int (v2 + 1)), some (.int v3), some (.int ((jX3_nextPlace T I (I 64 v2.toNatClampNeg) ((I 65 v2.toNatClampNeg) + 1)).1))]) dX3_laid_80 rfl (by rfl) rfl ?_
            refine J.goto (tgt := 108) dX3_laid_83 (by decide) ?_
            refine J.iinc (v := (v3 + 1)) (ls' := [some (.ref 56), none, some (.int (v2 + 1)), some (.int (v3 + 1)), some (.int ((jX3_nextPlace T I (I 64 v2.toNatClampNeg) ((I 65 v2.toNatClampNeg) + 1)).1))]) dX3_laid_108 rfl (by rfl) rfl ?_
            refine J.goto (tgt := 9) dX3_laid_111 (by decide) ?_
            exact J.weaken (ls' := [some (.ref 56), none, some (.int (v2 + 1)), some (.int (v3 + 1)), none]) (And.intro rfl (And.intro rfl (And.intro rfl trivial))) (hK9 (v2 + 1) (v3 + 1) (jX3_putM T (up2 (jX3_nextPlace T I (I 64 v2.toNatClampNeg) ((I 65 v2.toNatClampNeg) + 1)).2 65 v2.toNatClampNeg ((jX3_nextPlace T I (I 64 v2.toNatClampNeg) ((I 65 v2.toNatClampNeg) + 1)).1)) ((jX3_nextPlace T I (I 64 v2.toNatClampNeg) ((I 65 v2.toNatClampNeg) + 1)).2 64 v2.toNatClampNeg) ((jX3_nextPlace T I (I 64 v2.toNatClampNeg) ((I 65 v2.toNatClampNeg) + 1)).1)) h)
set_option maxHeartbeats 4000000 in
set_option maxRecDepth 100000 in
theorem sX3_laid_131 (d : Nat) {T : Topo} (hT : Lay T) (a1 : Int32)  (hPl : Pl T)  {Q : Int32 → Topo → IM → Prop} {K9 : Int32 → Int32 → IM → Prop} {K131 : Int32 → Int32 → Int32 → IM → Prop} (hK9 : ∀ (v2 v3 : Int32) (I : IM), K9 v2 v3 I → J (d + 5) mX3_laid (PI Q) 0 0 9 [some (.ref 56), none, some (.int v2), some (.int v3), none] [] T I 0 0) (hK131 : ∀ (v2 v3 v4 : Int32) (I : IM), K131 v2 v3 v4 I → J (d + 5) mX3_laid (PI Q) 0 0 131 [some (.ref 56), none, some (.int v2), some (.int v3), some (.int v4)] [] T I 0 0) (v2 v3 v4 : Int32) (I : IM) (h : fX3_laid_131 T a1 Q K9 K131 v2 v3 v4 I) : J (d + 5) mX3_laid (PI Q) 0 0 131 [some (.ref 56), none, some (.int v2), some (.int v3), some (.int v4)] [] T I 0 0 := by
  unfold fX3_laid_131 at h
  refine J.iload dX3_laid_131 rfl ?_
  refine J.iload_n dX3_laid_133 rfl rfl ?_
  refine J.icmp_ge (tgt := 149) dX3_laid_134 (by decide) (fun hc1 => ?_) (fun hc1 => ?_)
  · have h := h.1 hc1
    refine J.iload_n dX3_laid_149 rfl rfl ?_
    obtain ⟨hz, h⟩ := h
    exact J.zretQ dX3_laid_150 rfl hz (Nat.le_refl _) (Nat.le_refl _) h
  · have h := h.2 hc1
    refine J.aload_n dX3_laid_137 rfl rfl ?_
    refine J.iload dX3_laid_138 rfl ?_
    obtain ⟨hp2, h⟩ := h
    refine J.callVD (k := 56) (as := [.int v4]) (rest := []) dX3_laid_140 kX3_takeBack vX3_takeBack lX3_87 (hT.k 56 rfl) rfl rfl rfl rfl rfl (by omega) (Nat.le_refl _) (Nat.le_refl _) (qX3_takeBack (d + 0) hT v4 hp2) ?_
    refine J.iinc (v := (v4 + 1)) (ls' := [some (.ref 56), none, some (.int v2), some (.int v3), some (.int (v4 + 1))]) dX3_laid_143 rfl (by rfl) rfl ?_
    refine J.goto (tgt := 131) dX3_laid_146 (by decide) ?_
    exact J.weaken (ls' := [some (.ref 56), none, some (.int v2), some (.int v3), some (.int (v4 + 1))]) (And.intro rfl (And.intro rfl (And.intro rfl (And.intro rfl trivial)))) (hK131 v2 v3 (v4 + 1) (jX3_takeBackM I v4) h)
set_option maxHeartbeats 4000000 in
set_option maxRecDepth 100000 in
theorem wX3_laid (d : Nat) {T : Topo} (hT : Lay T) (a1 : Int32)  (hPl : Pl T) {Q : Int32 → Topo → IM → Prop} (V9 : Int32 → Int32 → IM → Prop) (μ9 : Int32 → Int32 → IM → Nat) (V131 : Int32 → Int32 → Int32 → IM → Prop) (μ131 : Int32 → Int32 → Int32 → IM → Nat) (vc9 : ∀ (v2 v3 : Int32) (I : IM), V9 v2 v3 I → fX3_laid_9 T a1 Q (fun w2 w3 I_ => V9 w2 w3 I_ ∧ μ9 w2 w3 I_ < μ9 v2 v3 I) (fun w2 w3 w4 I_ => V131 w2 w3 w4 I_ ∧ μ131 w2 w3 w4 I_ < μ9 v2 v3 I) v2 v3 I) (vc131 : ∀ (v2 v3 v4 : Int32) (I : IM), V131 v2 v3 v4 I → fX3_laid_131 T a1 Q (fun w2 w3 I_ => V9 w2 w3 I_ ∧ μ9 w2 w3 I_ < μ131 v2 v3 v4 I) (fun w2 w3 w4 I_ => V131 w2 w3 w4 I_ ∧ μ131 w2 w3 w4 I_ < μ131 v2 v3 v4 I) v2 v3 v4 I) {I : IM} (h : fX3_laid_0 T a1 Q V9 V131 I) : Ct (d + 5) mX3_laid [.ref 56, .int a1] T I 0 0 (PI Q) := by
  have all : ∀ n : Nat, (∀ (v2 v3 : Int32) (I : IM), V9 v2 v3 I → μ9 v2 v3 I < n → J (d + 5) mX3_laid (PI Q) 0 0 9 [some (.ref 56), none, some (.int v2), some (.int v3), none] [] T I 0 0) ∧ (∀ (v2 v3 v4 : Int32) (I : IM), V131 v2 v3 v4 I → μ131 v2 v3 v4 I < n → J (d + 5) mX3_laid (PI Q) 0 0 131 [some (.ref 56), none, some (.int v2), some (.int v3), some (.int v4)] [] T I 0 0) := by
    intro n
    induction n with
    | zero => exact ⟨fun _ _ _ _ hn => absurd hn (Nat.not_lt_zero _), fun _ _ _ _ _ hn => absurd hn (Nat.not_lt_zero _)⟩
    | succ n ih =>
      exact ⟨fun v2 v3 I hv hn => sX3_laid_9 d hT a1  hPl (fun w2 w3 I_ hw => ih.1 w2 w3 I_ hw.1 (by have := hw.2; omega)) (fun w2 w3 w4 I_ hw => ih.2 w2 w3 w4 I_ hw.1 (by have := hw.2; omega)) v2 v3 I (vc9 v2 v3 I hv), fun v2 v3 v4 I hv hn => sX3_laid_131 d hT a1  hPl (fun w2 w3 I_ hw => ih.1 w2 w3 I_ hw.1 (by have := hw.2; omega)) (fun w2 w3 w4 I_ hw => ih.2 w2 w3 w4 I_ hw.1 (by have := hw.2; omega)) v2 v3 v4 I (vc131 v2 v3 v4 I hv)⟩
  exact Ct.ofJ (by decide +kernel) rfl (by intro v hv; revert v hv; simp [Value.category]) rfl (sX3_laid_0 d hT a1  hPl (fun w2 w3 I_ hw => (all (μ9 w2 w3 I_ + 1)).1 w2 w3 I_ hw (Nat.lt_succ_self _)) (fun w2 w3 w4 I_ hw => (all (μ131 w2 w3 w4 I_ + 1)).2 w2 w3 w4 I_ hw (Nat.lt_succ_self _)) I h)

def jX3_laidB9 (T : Topo) (a1 : Int32) (F : (Nat → Int32 → Int32 → Int32 → IM → Int32 × IM)) (v2 v3 v4 : Int32) (I : IM) : Int32 × IM := (if 10000 ≤ v3 then (if v2 = (I 56 10) then (F 1 v2 1 0 I) else (F 1 v2 0 0 I)) else (if v2 < 0 then (if v2 = (I 56 10) then (F 1 v2 1 0 I) else (F 1 v2 0 0 I)) else (if (I 56 10) ≤ v2 then (if v2 = (I 56 10) then (F 1 v2 1 0 I) else (F 1 v2 0 0 I)) else (if (I 56 12) = 0 then (if ((jX3_nextPlace T I (I 64 v2.toNatClampNeg) ((I 65 v2.toNatClampNeg) + 1)).1) < 0 then (if ((jX3_nextPlace T I (I 64 v2.toNatClampNeg) ((I 65 v2.toNatClampNeg) + 1)).2 56 12) = 0 then (F 0 (v2 + (-1)) (v3 + 1) 0 (jX3_takeBackM (up2 (jX3_nextPlace T I (I 64 v2.toNatClampNeg) ((I 65 v2.toNatClampNeg) + 1)).2 65 v2.toNatClampNeg (-1)) (v2 + (-1)))) else (F 0 v2 (v3 + 1) 0 ((jX3_nextPlace T I (I 64 v2.toNatClampNeg) ((I 65 v2.toNatClampNeg) + 1)).2))) else (F 0 (v2 + 1) (v3 + 1) 0 (jX3_putM T (up2 (jX3_nextPlace T I (I 64 v2.toNatClampNeg) ((I 65 v2.toNatClampNeg) + 1)).2 65 v2.toNatClampNeg ((jX3_nextPlace T I (I 64 v2.toNatClampNeg) ((I 65 v2.toNatClampNeg) + 1)).1)) ((jX3_nextPlace T I (I 64 v2.toNatClampNeg) ((I 65 v2.toNatClampNeg) + 1)).2 64 v2.toNatClampNeg) ((jX3_nextPlace T I (I 64 v2.toNatClampNeg) ((I 65 v2.toNatClampNeg) + 1)).1)))) else (if v2 = (I 56 10) then (F 1 v2 1 0 I) else (F 1 v2 0 0 I))))))
def jX3_laidC9 (T : Topo) (a1 : Int32) (F : (Nat → Int32 → Int32 → Int32 → IM → Prop)) (v2 v3 v4 : Int32) (I : IM) : Prop := (((10000 ≤ v3) → (((¬ v2 = (I 56 10)) → (F 1 v2 0 0 I)) ∧ ((v2 = (I 56 10)) → (F 1 v2 1 0 I)))) ∧ ((¬ 10000 ≤ v3) → (((v2 < 0) → (((¬ v2 = (I 56 10)) → (F 1 v2 0 0 I)) ∧ ((v2 = (I 56 10)) → (F 1 v2 1 0 I)))) ∧ ((¬ v2 < 0) → ((((I 56 10) ≤ v2) → (((¬ v2 = (I 56 10)) → (F 1 v2 0 0 I)) ∧ ((v2 = (I 56 10)) → (F 1 v2 1 0 I)))) ∧ ((¬ (I 56 10) ≤ v2) → (((¬ (I 56 12) = 0) → (((¬ v2 = (I 56 10)) → (F 1 v2 0 0 I)) ∧ ((v2 = (I 56 10)) → (F 1 v2 1 0 I)))) ∧ (((I 56 12) = 0) → (vp_in v2 8 ∧ (vp_in v2 8 ∧ (((jX3_nextPlaceK T I (I 64 v2.toNatClampNeg) ((I 65 v2.toNatClampNeg) + 1))) ∧ (((((jX3_nextPlace T I (I 64 v2.toNatClampNeg) ((I 65 v2.toNatClampNeg) + 1)).1) < 0) → (((¬ ((jX3_nextPlace T I (I 64 v2.toNatClampNeg) ((I 65 v2.toNatClampNeg) + 1)).2 56 12) = 0) → (F 0 v2 (v3 + 1) 0 ((jX3_nextPlace T I (I 64 v2.toNatClampNeg) ((I 65 v2.toNatClampNeg) + 1)).2))) ∧ ((((jX3_nextPlace T I (I 64 v2.toNatClampNeg) ((I 65 v2.toNatClampNeg) + 1)).2 56 12) = 0) → (vp_in v2 8 ∧ (((jX3_takeBackK (up2 (jX3_nextPlace T I (I 64 v2.toNatClampNeg) ((I 65 v2.toNatClampNeg) + 1)).2 65 v2.toNatClampNeg (-1)) (v2 + (-1)))) ∧ (F 0 (v2 + (-1)) (v3 + 1) 0 (jX3_takeBackM (up2 (jX3_nextPlace T I (I 64 v2.toNatClampNeg) ((I 65 v2.toNatClampNeg) + 1)).2 65 v2.toNatClampNeg (-1)) (v2 + (-1))))))))) ∧ ((¬ ((jX3_nextPlace T I (I 64 v2.toNatClampNeg) ((I 65 v2.toNatClampNeg) + 1)).1) < 0) → (vp_in v2 8 ∧ (vp_in v2 8 ∧ (((jX3_putK T (up2 (jX3_nextPlace T I (I 64 v2.toNatClampNeg) ((I 65 v2.toNatClampNeg) + 1)).2 65 v2.toNatClampNeg ((jX3_nextPlace T I (I 64 v2.toNatClampNeg) ((I 65 v2.toNatClampNeg) + 1)).1)) ((jX3_nextPlace T I (I 64 v2.toNatClampNeg) ((I 65 v2.toNatClampNeg) + 1)).2 64 v2.toNatClampNeg) ((jX3_nextPlace T I (I 64 v2.toNatClampNeg) ((I 65 v2.toNatClampNeg) + 1)).1))) ∧ (F 0 (v2 + 1) (v3 + 1) 0 (jX3_putM T (up2 (jX3_nextPlace T I (I 64 v2.toNatClampNeg) ((I 65 v2.toNatClampNeg) + 1)).2 65 v2.toNatClampNeg ((jX3_nextPlace T I (I 64 v2.toNatClampNeg) ((I 65 v2.toNatClampNeg) + 1)).1)) ((jX3_nextPlace T I (I 64 v2.toNatClampNeg) ((I 65 v2.toNatClampNeg) + 1)).2 64 v2.toNatClampNeg) ((jX3_nextPlace T I (I 64 v2.toNatClampNeg) ((I 65 v2.toNatClampNeg) + 1)).1)))))))))))))))))))
def jX3_laidB131 (T : Topo) (a1 : Int32) (F : (Nat → Int32 → Int32 → Int32 → IM → Int32 × IM)) (v2 v3 v4 : Int32) (I : IM) : Int32 × IM := (if v2 ≤ v4 then (v3, I) else (F 1 v2 v3 (v4 + 1) (jX3_takeBackM I v4)))
def jX3_laidC131 (T : Topo) (a1 : Int32) (F : (Nat → Int32 → Int32 → Int32 → IM → Prop)) (v2 v3 v4 : Int32) (I : IM) : Prop := (((v2 ≤ v4) → (v3 = 0 ∨ v3 = 1)) ∧ ((¬ v2 ≤ v4) → (((jX3_takeBackK I v4)) ∧ (F 1 v2 v3 (v4 + 1) (jX3_takeBackM I v4)))))
def jX3_laidI (T : Topo) (a1 : Int32) : Nat → Nat → Int32 → Int32 → Int32 → IM → Int32 × IM
  | 0 => fun _ _ _ _ I => (0, I)
  | n + 1 => fun tg v2 v3 v4 I => (if tg = 0 then jX3_laidB9 T a1 (jX3_laidI T a1 n) v2 v3 v4 I else (if tg = 1 then jX3_laidB131 T a1 (jX3_laidI T a1 n) v2 v3 v4 I else (0, I)))
def jX3_laidO (T : Topo) (a1 : Int32) : Nat → Nat → Int32 → Int32 → Int32 → IM → Prop
  | 0 => fun _ _ _ _ _ => False
  | n + 1 => fun tg v2 v3 v4 I => (if tg = 0 then jX3_laidC9 T a1 (jX3_laidO T a1 n) v2 v3 v4 I else (if tg = 1 then jX3_laidC131 T a1 (jX3_laidO T a1 n) v2 v3 v4 I else True))
theorem jX3_laidI_9 (T : Topo) (a1 : Int32) (n : Nat) (v2 v3 v4 : Int32) (I : IM) : jX3_laidI T a1 (n + 1) 0 v2 v3 v4 I = (if 10000 ≤ v3 then (if v2 = (I 56 10) then (jX3_laidI T a1 n 1 v2 1 0 I) else (jX3_laidI T a1 n 1 v2 0 0 I)) else (if v2 < 0 then (if v2 = (I 56 10) then (jX3_laidI T a1 n 1 v2 1 0 I) else (jX3_laidI T a1 n 1 v2 0 0 I)) else (if (I 56 10) ≤ v2 then (if v2 = (I 56 10) then (jX3_laidI T a1 n 1 v2 1 0 I) else (jX3_laidI T a1 n 1 v2 0 0 I)) else (if (I 56 12) = 0 then (if ((jX3_nextPlace T I (I 64 v2.toNatClampNeg) ((I 65 v2.toNatClampNeg) + 1)).1) < 0 then (if ((jX3_nextPlace T I (I 64 v2.toNatClampNeg) ((I 65 v2.toNatClampNeg) + 1)).2 56 12) = 0 then (jX3_laidI T a1 n 0 (v2 + (-1)) (v3 + 1) 0 (jX3_takeBackM (up2 (jX3_nextPlace T I (I 64 v2.toNatClampNeg) ((I 65 v2.toNatClampNeg) + 1)).2 65 v2.toNatClampNeg (-1)) (v2 + (-1)))) else (jX3_laidI T a1 n 0 v2 (v3 + 1) 0 ((jX3_nextPlace T I (I 64 v2.toNatClampNeg) ((I 65 v2.toNatClampNeg) + 1)).2))) else (jX3_laidI T a1 n 0 (v2 + 1) (v3 + 1) 0 (jX3_putM T (up2 (jX3_nextPlace T I (I 64 v2.toNatClampNeg) ((I 65 v2.toNatClampNeg) + 1)).2 65 v2.toNatClampNeg ((jX3_nextPlace T I (I 64 v2.toNatClampNeg) ((I 65 v2.toNatClampNeg) + 1)).1)) ((jX3_nextPlace T I (I 64 v2.toNatClampNeg) ((I 65 v2.toNatClampNeg) + 1)).2 64 v2.toNatClampNeg) ((jX3_nextPlace T I (I 64 v2.toNatClampNeg) ((I 65 v2.toNatClampNeg) + 1)).1)))) else (if v2 = (I 56 10) then (jX3_laidI T a1 n 1 v2 1 0 I) else (jX3_laidI T a1 n 1 v2 0 0 I)))))) := by
  show (if (0 : Nat) = 0 then jX3_laidB9 T a1 (jX3_laidI T a1 n) v2 v3 v4 I else (if (0 : Nat) = 1 then jX3_laidB131 T a1 (jX3_laidI T a1 n) v2 v3 v4 I else (0, I))) = _
  rw [if_pos rfl]; rfl
theorem jX3_laidO_9 (T : Topo) (a1 : Int32) (n : Nat) (v2 v3 v4 : Int32) (I : IM) : jX3_laidO T a1 (n + 1) 0 v2 v3 v4 I = (((10000 ≤ v3) → (((¬ v2 = (I 56 10)) → (jX3_laidO T a1 n 1 v2 0 0 I)) ∧ ((v2 = (I 56 10)) → (jX3_laidO T a1 n 1 v2 1 0 I)))) ∧ ((¬ 10000 ≤ v3) → (((v2 < 0) → (((¬ v2 = (I 56 10)) → (jX3_laidO T a1 n 1 v2 0 0 I)) ∧ ((v2 = (I 56 10)) → (jX3_laidO T a1 n 1 v2 1 0 I)))) ∧ ((¬ v2 < 0) → ((((I 56 10) ≤ v2) → (((¬ v2 = (I 56 10)) → (jX3_laidO T a1 n 1 v2 0 0 I)) ∧ ((v2 = (I 56 10)) → (jX3_laidO T a1 n 1 v2 1 0 I)))) ∧ ((¬ (I 56 10) ≤ v2) → (((¬ (I 56 12) = 0) → (((¬ v2 = (I 56 10)) → (jX3_laidO T a1 n 1 v2 0 0 I)) ∧ ((v2 = (I 56 10)) → (jX3_laidO T a1 n 1 v2 1 0 I)))) ∧ (((I 56 12) = 0) → (vp_in v2 8 ∧ (vp_in v2 8 ∧ (((jX3_nextPlaceK T I (I 64 v2.toNatClampNeg) ((I 65 v2.toNatClampNeg) + 1))) ∧ (((((jX3_nextPlace T I (I 64 v2.toNatClampNeg) ((I 65 v2.toNatClampNeg) + 1)).1) < 0) → (((¬ ((jX3_nextPlace T I (I 64 v2.toNatClampNeg) ((I 65 v2.toNatClampNeg) + 1)).2 56 12) = 0) → (jX3_laidO T a1 n 0 v2 (v3 + 1) 0 ((jX3_nextPlace T I (I 64 v2.toNatClampNeg) ((I 65 v2.toNatClampNeg) + 1)).2))) ∧ ((((jX3_nextPlace T I (I 64 v2.toNatClampNeg) ((I 65 v2.toNatClampNeg) + 1)).2 56 12) = 0) → (vp_in v2 8 ∧ (((jX3_takeBackK (up2 (jX3_nextPlace T I (I 64 v2.toNatClampNeg) ((I 65 v2.toNatClampNeg) + 1)).2 65 v2.toNatClampNeg (-1)) (v2 + (-1)))) ∧ (jX3_laidO T a1 n 0 (v2 + (-1)) (v3 + 1) 0 (jX3_takeBackM (up2 (jX3_nextPlace T I (I 64 v2.toNatClampNeg) ((I 65 v2.toNatClampNeg) + 1)).2 65 v2.toNatClampNeg (-1)) (v2 + (-1))))))))) ∧ ((¬ ((jX3_nextPlace T I (I 64 v2.toNatClampNeg) ((I 65 v2.toNatClampNeg) + 1)).1) < 0) → (vp_in v2 8 ∧ (vp_in v2 8 ∧ (((jX3_putK T (up2 (jX3_nextPlace T I (I 64 v2.toNatClampNeg) ((I 65 v2.toNatClampNeg) + 1)).2 65 v2.toNatClampNeg ((jX3_nextPlace T I (I 64 v2.toNatClampNeg) ((I 65 v2.toNatClampNeg) + 1)).1)) ((jX3_nextPlace T I (I 64 v2.toNatClampNeg) ((I 65 v2.toNatClampNeg) + 1)).2 64 v2.toNatClampNeg) ((jX3_nextPlace T I (I 64 v2.toNatClampNeg) ((I 65 v2.toNatClampNeg) + 1)).1))) ∧ (jX3_laidO T a1 n 0 (v2 + 1) (v3 + 1) 0 (jX3_putM T (up2 (jX3_nextPlace T I (I 64 v2.toNatClampNeg) ((I 65 v2.toNatClampNeg) + 1)).2 65 v2.toNatClampNeg ((jX3_nextPlace T I (I 64 v2.toNatClampNeg) ((I 65 v2.toNatClampNeg) + 1)).1)) ((jX3_nextPlace T I (I 64 v2.toNatClampNeg) ((I 65 v2.toNatClampNeg) + 1)).2 64 v2.toNatClampNeg) ((jX3_nextPlace T I (I 64 v2.toNatClampNeg) ((I 65 v2.toNatClampNeg) + 1)).1))))))))))))))))))) := by
  show (if (0 : Nat) = 0 then jX3_laidC9 T a1 (jX3_laidO T a1 n) v2 v3 v4 I else (if (0 : Nat) = 1 then jX3_laidC131 T a1 (jX3_laidO T a1 n) v2 v3 v4 I else True)) = _
  rw [if_pos rfl]; rfl
theorem jX3_laidI_131 (T : Topo) (a1 : Int32) (n : Nat) (v2 v3 v4 : Int32) (I : IM) : jX3_laidI T a1 (n + 1) 1 v2 v3 v4 I = (if v2 ≤ v4 then (v3, I) else (jX3_laidI T a1 n 1 v2 v3 (v4 + 1) (jX3_takeBackM I v4))) := by
  show (if (1 : Nat) = 0 then jX3_laidB9 T a1 (jX3_laidI T a1 n) v2 v3 v4 I else (if (1 : Nat) = 1 then jX3_laidB131 T a1 (jX3_laidI T a1 n) v2 v3 v4 I else (0, I))) = _
  rw [if_neg (by decide), if_pos rfl]; rfl
theorem jX3_laidO_131 (T : Topo) (a1 : Int32) (n : Nat) (v2 v3 v4 : Int32) (I : IM) : jX3_laidO T a1 (n + 1) 1 v2 v3 v4 I = (((v2 ≤ v4) → (v3 = 0 ∨ v3 = 1)) ∧ ((¬ v2 ≤ v4) → (((jX3_takeBackK I v4)) ∧ (jX3_laidO T a1 n 1 v2 v3 (v4 + 1) (jX3_takeBackM I v4))))) := by
  show (if (1 : Nat) = 0 then jX3_laidC9 T a1 (jX3_laidO T a1 n) v2 v3 v4 I else (if (1 : Nat) = 1 then jX3_laidC131 T a1 (jX3_laidO T a1 n) v2 v3 v4 I else True)) = _
  rw [if_neg (by decide), if_pos rfl]; rfl
def jX3_laid (T : Topo) (I : IM) (a1 : Int32) : Int32 × IM := (jX3_laidI T a1 FU 0 0 0 0 (jX3_gatherMembers I a1))
def jX3_laidK (T : Topo) (I : IM) (a1 : Int32) : Prop := (((jX3_gatherMembersK I a1)) ∧ (jX3_laidO T a1 FU 0 0 0 0 (jX3_gatherMembers I a1)))
set_option maxRecDepth 10000 in
set_option maxHeartbeats 1000000 in
theorem uX3_laid (d : Nat) {T : Topo} (hT : Lay T) (a1 : Int32)  (hPl : Pl T) {R : Int32 × IM} : ∀ n : Nat, (∀ (v2 v3 : Int32) (I : IM), jX3_laidO T a1 n 0 v2 v3 0 I → jX3_laidI T a1 n 0 v2 v3 0 I = R → J (d + 5) mX3_laid (PI (fun x T' I' => T' = T ∧ x = R.1 ∧ I' = R.2)) 0 0 9 [some (.ref 56), none, some (.int v2), some (.int v3), none] [] T I 0 0) ∧ (∀ (v2 v3 v4 : Int32) (I : IM), jX3_laidO T a1 n 1 v2 v3 v4 I → jX3_laidI T a1 n 1 v2 v3 v4 I = R → J (d + 5) mX3_laid (PI (fun x T' I' => T' = T ∧ x = R.1 ∧ I' = R.2)) 0 0 131 [some (.ref 56), none, some (.int v2), some (.int v3), some (.int v4)] [] T I 0 0) := by
  intro n
  induction n with
  | zero => exact ⟨fun _ _ _ hz => hz.elim, fun _ _ _ _ hz => hz.elim⟩
  | succ n ih =>
    refine ⟨?_, ?_⟩
    · exact fun v2 v3 I hok hit => by
        rw [jX3_laidO_9] at hok
        exact sX3_laid_9 d hT a1  hPl (K9 := fun w2 w3 I_ => (jX3_laidO T a1 n 0 w2 w3 0 I_ ∧ jX3_laidI T a1 n 0 w2 w3 0 I_ = R)) (K131 := fun w2 w3 w4 I_ => (jX3_laidO T a1 n 1 w2 w3 w4 I_ ∧ jX3_laidI T a1 n 1 w2 w3 w4 I_ = R)) (fun w2 w3 I_ hw => ih.1 w2 w3 I_ hw.1 hw.2) (fun w2 w3 w4 I_ hw => ih.2 w2 w3 w4 I_ hw.1 hw.2) v2 v3 I (by
          unfold fX3_laid_9
          exact ⟨fun hc1 => ⟨fun hc2 => ⟨((hok).1 hc1).1 hc2, by rw [jX3_laidI_9, if_pos hc1, if_neg hc2] at hit; exact hit⟩, fun hc2 => ⟨((hok).1 hc1).2 hc2, by rw [jX3_laidI_9, if_pos hc1, if_pos hc2] at hit; exact hit⟩⟩, fun hc1 => ⟨fun hc3 => ⟨fun hc4 => ⟨(((hok).2 hc1).1 hc3).1 hc4, by rw [jX3_laidI_9, if_neg hc1, if_pos hc3, if_neg hc4] at hit; exact hit⟩, fun hc4 => ⟨(((hok).2 hc1).1 hc3).2 hc4, by rw [jX3_laidI_9, if_neg hc1, if_pos hc3, if_pos hc4] at hit; exact hit⟩⟩, fun hc3 => ⟨fun hc5 => ⟨fun hc6 => ⟨((((hok).2 hc1).2 hc3).1 hc5).1 hc6, by rw [jX3_laidI_9, if_neg hc1, if_neg hc3, if_pos hc5, if_neg hc6] at hit; exact hit⟩, fun hc6 => ⟨((((hok).2 hc1).2 hc3).1 hc5).2 hc6, by rw [jX3_laidI_9, if_neg hc1, if_neg hc3, if_pos hc5, if_pos hc6] at hit; exact hit⟩⟩, fun hc5 => ⟨fun hc7 => ⟨fun hc8 => ⟨(((((hok).2 hc1).2 hc3).2 hc5).1 hc7).1 hc8, by rw [jX3_laidI_9, if_neg hc1, if_neg hc3, if_neg hc5, if_neg hc7, if_neg hc8] at hit; exact hit⟩, fun hc8 => ⟨(((((hok).2 hc1).2 hc3).2 hc5).1 hc7).2 hc8, by rw [jX3_laidI_9, if_neg hc1, if_neg hc3, if_neg hc5, if_neg hc7, if_pos hc8] at hit; exact hit⟩⟩, fun hc7 => ⟨(((((hok).2 hc1).2 hc3).2 hc5).2 hc7).1, ⟨((((((hok).2 hc1).2 hc3).2 hc5).2 hc7).2).1, ⟨(((((((hok).2 hc1).2 hc3).2 hc5).2 hc7).2).2).1, ⟨fun hc9 => ⟨fun hc10 => ⟨(((((((((hok).2 hc1).2 hc3).2 hc5).2 hc7).2).2).2).1 hc9).1 hc10, by rw [jX3_laidI_9, if_neg hc1, if_neg hc3, if_neg hc5, if_pos hc7, if_pos hc9, if_neg hc10] at hit; exact hit⟩, fun hc10 => ⟨((((((((((hok).2 hc1).2 hc3).2 hc5).2 hc7).2).2).2).1 hc9).2 hc10).1, ⟨(((((((((((hok).2 hc1).2 hc3).2 hc5).2 hc7).2).2).2).1 hc9).2 hc10).2).1, ⟨(((((((((((hok).2 hc1).2 hc3).2 hc5).2 hc7).2).2).2).1 hc9).2 hc10).2).2, by rw [jX3_laidI_9, if_neg hc1, if_neg hc3, if_neg hc5, if_pos hc7, if_pos hc9, if_pos hc10] at hit; exact hit⟩⟩⟩⟩, fun hc9 => ⟨(((((((((hok).2 hc1).2 hc3).2 hc5).2 hc7).2).2).2).2 hc9).1, ⟨((((((((((hok).2 hc1).2 hc3).2 hc5).2 hc7).2).2).2).2 hc9).2).1, ⟨(((((((((((hok).2 hc1).2 hc3).2 hc5).2 hc7).2).2).2).2 hc9).2).2).1, ⟨(((((((((((hok).2 hc1).2 hc3).2 hc5).2 hc7).2).2).2).2 hc9).2).2).2, by rw [jX3_laidI_9, if_neg hc1, if_neg hc3, if_neg hc5, if_pos hc7, if_neg hc9] at hit; exact hit⟩⟩⟩⟩⟩⟩⟩⟩⟩⟩⟩⟩)
    · exact fun v2 v3 v4 I hok hit => by
        rw [jX3_laidO_131] at hok
        exact sX3_laid_131 d hT a1  hPl (K9 := fun w2 w3 I_ => (jX3_laidO T a1 n 0 w2 w3 0 I_ ∧ jX3_laidI T a1 n 0 w2 w3 0 I_ = R)) (K131 := fun w2 w3 w4 I_ => (jX3_laidO T a1 n 1 w2 w3 w4 I_ ∧ jX3_laidI T a1 n 1 w2 w3 w4 I_ = R)) (fun w2 w3 I_ hw => ih.1 w2 w3 I_ hw.1 hw.2) (fun w2 w3 w4 I_ hw => ih.2 w2 w3 w4 I_ hw.1 hw.2) v2 v3 v4 I (by
          unfold fX3_laid_131
          exact ⟨fun hc1 => ⟨(hok).1 hc1, (by rw [jX3_laidI_131, if_pos hc1] at hit; exact ⟨rfl, by rw [← hit], by rw [← hit]⟩)⟩, fun hc1 => ⟨((hok).2 hc1).1, ⟨((hok).2 hc1).2, by rw [jX3_laidI_131, if_neg hc1] at hit; exact hit⟩⟩⟩)
set_option maxRecDepth 10000 in
set_option maxHeartbeats 1000000 in
theorem qX3_laid (d : Nat) {T : Topo} {I : IM} (hT : Lay T) (a1 : Int32) (hPl : Pl T) (hp : (jX3_laidK T I a1)) : CtI (d + 5) mX3_laid [.ref 56, .int a1] T I (fun x_ J_ => x_ = (jX3_laid T I a1).1 ∧ J_ = (jX3_laid T I a1).2) := by
  unfold jX3_laidK at hp
  exact Ct.ofJ (by decide +kernel) rfl (by intro v hv; revert v hv; simp [Value.category]) rfl (sX3_laid_0 d hT a1  hPl (K9 := fun w2 w3 I_ => (jX3_laidO T a1 FU 0 w2 w3 0 I_ ∧ jX3_laidI T a1 FU 0 w2 w3 0 I_ = (jX3_laid T I a1))) (K131 := fun w2 w3 w4 I_ => (jX3_laidO T a1 FU 1 w2 w3 w4 I_ ∧ jX3_laidI T a1 FU 1 w2 w3 w4 I_ = (jX3_laid T I a1))) (fun w2 w3 I_ hw => (uX3_laid d hT a1  hPl FU).1 w2 w3 I_ hw.1 hw.2) (fun w2 w3 w4 I_ hw => (uX3_laid d hT a1  hPl FU).2 w2 w3 w4 I_ hw.1 hw.2) I (by
    unfold fX3_laid_0
    exact ⟨(hp).1, ⟨(hp).2, rfl⟩⟩))

def fX3_findUnlikeTicks_0 (T : Topo)  (Q : Topo → IM → Prop) (K10 : Int32 → IM → Prop) (K31 : Int32 → IM → Prop) (I : IM) : Prop :=
  K10 0 (up2 I 57 4 0)
def fX3_findUnlikeTicks_10 (T : Topo)  (Q : Topo → IM → Prop) (K10 : Int32 → IM → Prop) (K31 : Int32 → IM → Prop) (v1 : Int32) (I : IM) : Prop :=
  (((8 ≤ v1) → K31 0 I) ∧ ((¬ 8 ≤ v1) → (vp_in v1 8 ∧ K10 (v1 + 1) (up2 I 63 v1.toNatClampNeg 0))))
def fX3_findUnlikeTicks_31 (T : Topo)  (Q : Topo → IM → Prop) (K10 : Int32 → IM → Prop) (K31 : Int32 → IM → Prop) (v1 : Int32) (I : IM) : Prop :=
  (((24 ≤ v1) → Q T I) ∧ ((¬ 24 ≤ v1) → (((jX3_countingAtK I v1)) ∧ (((jX3_isKnownK I (jX3_countingAt I v1))) ∧ (((¬ (jX3_isKnown I (jX3_countingAt I v1)) = 0) → K31 (v1 + 1) I) ∧ (((jX3_isKnown I (jX3_countingAt I v1)) = 0) → (((jX3_noteK I (jX3_countingAt I v1))) ∧ K31 (v1 + 1) (jX3_note I (jX3_countingAt I v1)))))))))
set_option maxHeartbeats 4000000 in
set_option maxRecDepth 100000 in
theorem sX3_findUnlikeTicks_0 (d : Nat) {T : Topo} (hT : Lay T)     {Q : Topo → IM → Prop} {K10 : Int32 → IM → Prop} {K31 : Int32 → IM → Prop} (hK10 : ∀ (v1 : Int32) (I : IM), K10 v1 I → J (d + 2) mX3_findUnlikeTicks (PV Q) 0 0 10 [some (.ref 56), some (.int v1), none] [] T I 0 0) (hK31 : ∀ (v1 : Int32) (I : IM), K31 v1 I → J (d + 2) mX3_findUnlikeTicks (PV Q) 0 0 31 [some (.ref 56), some (.int v1), none] [] T I 0 0) (I : IM) (h : fX3_findUnlikeTicks_0 T  Q K10 K31 I) : J (d + 2) mX3_findUnlikeTicks (PV Q) 0 0 0 [some (.ref 56), none, none] [] T I 0 0 := by
  unfold fX3_findUnlikeTicks_0 at h
  refine J.aload_n dX3_findUnlikeTicks_0 rfl rfl ?_
  refine J.getR (r := 57) dX3_findUnlikeTicks_1 fX3_12 (hT.k 56 rfl) rfl (hT.r 56 2 rfl rfl) ?_
  refine J.iconst (v := 0) dX3_findUnlikeTicks_4 (by decide) ?_
  refine J.putI dX3_findUnlikeTicks_5 fX3_98 (hT.k 57 rfl) rfl ?_
  refine J.iconst (v := 0) dX3_findUnlikeTicks_8 (by decide) ?_
  refine J.istore_n (ls' := [some (.ref 56), some (.int 0), none]) dX3_findUnlikeTicks_9 rfl rfl rfl ?_
  exact J.weaken (ls' := [some (.ref 56), some (.int 0), none]) (And.intro rfl (And.intro rfl trivial)) (hK10 0 (up2 I 57 4 0) h)
set_option maxHeartbeats 4000000 in
set_option maxRecDepth 100000 in
theorem sX3_findUnlikeTicks_10 (d : Nat) {T : Topo} (hT : Lay T)     {Q : Topo → IM → Prop} {K10 : Int32 → IM → Prop} {K31 : Int32 → IM → Prop} (hK10 : ∀ (v1 : Int32) (I : IM), K10 v1 I → J (d + 2) mX3_findUnlikeTicks (PV Q) 0 0 10 [some (.ref 56), some (.int v1), none] [] T I 0 0) (hK31 : ∀ (v1 : Int32) (I : IM), K31 v1 I → J (d + 2) mX3_findUnlikeTicks (PV Q) 0 0 31 [some (.ref 56), some (.int v1), none] [] T I 0 0) (v1 : Int32) (I : IM) (h : fX3_findUnlikeTicks_10 T  Q K10 K31 v1 I) : J (d + 2) mX3_findUnlikeTicks (PV Q) 0 0 10 [some (.ref 56), some (.int v1), none] [] T I 0 0 := by
  unfold fX3_findUnlikeTicks_10 at h
  refine J.iload_n dX3_findUnlikeTicks_10 rfl rfl ?_
  refine J.bipush (v := 8) dX3_findUnlikeTicks_11 (by decide) ?_
  refine J.icmp_ge (tgt := 29) dX3_findUnlikeTicks_13 (by decide) (fun hc1 => ?_) (fun hc1 => ?_)
  · have h := h.1 hc1
    refine J.iconst (v := 0) dX3_findUnlikeTicks_29 (by decide) ?_
    refine J.istore_n (ls' := [some (.ref 56), some (.int 0), none]) dX3_findUnlikeTicks_30 rfl rfl rfl ?_
    exact J.weaken (ls' := [some (.ref 56), some (.int 0), none]) (And.intro rfl (And.intro rfl trivial)) (hK31 0 I h)
  · have h := h.2 hc1
    refine J.aload_n dX3_findUnlikeTicks_16 rfl rfl ?_
    refine J.getR (r := 63) dX3_findUnlikeTicks_17 fX3_22 (hT.k 56 rfl) rfl (hT.r 56 4 rfl rfl) ?_
    refine J.iload_n dX3_findUnlikeTicks_20 rfl rfl ?_
    refine J.iconst (v := 0) dX3_findUnlikeTicks_21 (by decide) ?_
    obtain ⟨hs2, h⟩ := h
    refine J.iast dX3_findUnlikeTicks_22 (hT.k 63 rfl) (hT.l 63 rfl) hs2 ?_
    refine J.iinc (v := (v1 + 1)) (ls' := [some (.ref 56), some (.int (v1 + 1)), none]) dX3_findUnlikeTicks_23 rfl (by rfl) rfl ?_
    refine J.goto (tgt := 10) dX3_findUnlikeTicks_26 (by decide) ?_
    exact J.weaken (ls' := [some (.ref 56), some (.int (v1 + 1)), none]) (And.intro rfl (And.intro rfl trivial)) (hK10 (v1 + 1) (up2 I 63 v1.toNatClampNeg 0) h)
set_option maxHeartbeats 4000000 in
set_option maxRecDepth 100000 in
theorem sX3_findUnlikeTicks_31 (d : Nat) {T : Topo} (hT : Lay T)     {Q : Topo → IM → Prop} {K10 : Int32 → IM → Prop} {K31 : Int32 → IM → Prop} (hK10 : ∀ (v1 : Int32) (I : IM), K10 v1 I → J (d + 2) mX3_findUnlikeTicks (PV Q) 0 0 10 [some (.ref 56), some (.int v1), none] [] T I 0 0) (hK31 : ∀ (v1 : Int32) (I : IM), K31 v1 I → J (d + 2) mX3_findUnlikeTicks (PV Q) 0 0 31 [some (.ref 56), some (.int v1), none] [] T I 0 0) (v1 : Int32) (I : IM) (h : fX3_findUnlikeTicks_31 T  Q K10 K31 v1 I) : J (d + 2) mX3_findUnlikeTicks (PV Q) 0 0 31 [some (.ref 56), some (.int v1), none] [] T I 0 0 := by
  unfold fX3_findUnlikeTicks_31 at h
  refine J.iload_n dX3_findUnlikeTicks_31 rfl rfl ?_
  refine J.bipush (v := 24) dX3_findUnlikeTicks_32 (by decide) ?_
  refine J.icmp_ge (tgt := 62) dX3_findUnlikeTicks_34 (by decide) (fun hc1 => ?_) (fun hc1 => ?_)
  · have h := h.1 hc1
    exact J.vretQ dX3_findUnlikeTicks_62 rfl (Nat.le_refl _) (Nat.le_refl _) h
  · have h := h.2 hc1
    refine J.aload_n dX3_findUnlikeTicks_37 rfl rfl ?_
    refine J.iload_n dX3_findUnlikeTicks_38 rfl rfl ?_
    obtain ⟨hp2, h⟩ := h
    refine J.callVP (k := 56) (as := [.int v1]) (rest := []) dX3_findUnlikeTicks_39 kX3_countingAt vX3_countingAt lX3_101 (hT.k 56 rfl) rfl rfl rfl rfl rfl (by omega) (Nat.le_refl _) (Nat.le_refl _) (qX3_countingAt (d + 0) hT v1 hp2) ?_
    refine J.istore_n (ls' := [some (.ref 56), some (.int v1), some (.int (jX3_countingAt I v1))]) dX3_findUnlikeTicks_42 rfl rfl rfl ?_
    refine J.aload_n dX3_findUnlikeTicks_43 rfl rfl ?_
    refine J.iload_n dX3_findUnlikeTicks_44 rfl rfl ?_
    obtain ⟨hp3, h⟩ := h
    refine J.callVP (k := 56) (as := [.int (jX3_countingAt I v1)]) (rest := []) dX3_findUnlikeTicks_45 kX3_isKnown vX3_isKnown lX3_105 (hT.k 56 rfl) rfl rfl rfl rfl rfl (by omega) (Nat.le_refl _) (Nat.le_refl _) (qX3_isKnown (d + 1) hT (jX3_countingAt I v1) hp3) ?_
    refine J.if_ne (tgt := 56) dX3_findUnlikeTicks_48 (by decide) (fun hc4 => ?_) (fun hc4 => ?_)
    · have h := h.1 hc4
      refine J.iinc (v := (v1 + 1)) (ls' := [some (.ref 56), some (.int (v1 + 1)), some (.int (jX3_countingAt I v1))]) dX3_findUnlikeTicks_56 rfl (by rfl) rfl ?_
      refine J.goto (tgt := 31) dX3_findUnlikeTicks_59 (by decide) ?_
      exact J.weaken (ls' := [some (.ref 56), some (.int (v1 + 1)), none]) (And.intro rfl (And.intro rfl trivial)) (hK31 (v1 + 1) I h)
    · have h := h.2 hc4
      refine J.aload_n dX3_findUnlikeTicks_51 rfl rfl ?_
      refine J.iload_n dX3_findUnlikeTicks_52 rfl rfl ?_
      obtain ⟨hp5, h⟩ := h
      refine J.callVD (k := 56) (as := [.int (jX3_countingAt I v1)]) (rest := []) dX3_findUnlikeTicks_53 kX3_note vX3_note lX3_108 (hT.k 56 rfl) rfl rfl rfl rfl rfl (by omega) (Nat.le_refl _) (Nat.le_refl _) (qX3_note (d + 0) hT (jX3_countingAt I v1) hp5) ?_
      refine J.iinc (v := (v1 + 1)) (ls' := [some (.ref 56), some (.int (v1 + 1)), some (.int (jX3_countingAt I v1))]) dX3_findUnlikeTicks_56 rfl (by rfl) rfl ?_
      refine J.goto (tgt := 31) dX3_findUnlikeTicks_59 (by decide) ?_
      exact J.weaken (ls' := [some (.ref 56), some (.int (v1 + 1)), none]) (And.intro rfl (And.intro rfl trivial)) (hK31 (v1 + 1) (jX3_note I (jX3_countingAt I v1)) h)
set_option maxHeartbeats 4000000 in
set_option maxRecDepth 100000 in
theorem wX3_findUnlikeTicks (d : Nat) {T : Topo} (hT : Lay T)    {Q : Topo → IM → Prop} (V10 : Int32 → IM → Prop) (μ10 : Int32 → IM → Nat) (V31 : Int32 → IM → Prop) (μ31 : Int32 → IM → Nat) (vc10 : ∀ (v1 : Int32) (I : IM), V10 v1 I → fX3_findUnlikeTicks_10 T  Q (fun w1 I_ => V10 w1 I_ ∧ μ10 w1 I_ < μ10 v1 I) (fun w1 I_ => V31 w1 I_ ∧ μ31 w1 I_ < μ10 v1 I) v1 I) (vc31 : ∀ (v1 : Int32) (I : IM), V31 v1 I → fX3_findUnlikeTicks_31 T  Q (fun w1 I_ => V10 w1 I_ ∧ μ10 w1 I_ < μ31 v1 I) (fun w1 I_ => V31 w1 I_ ∧ μ31 w1 I_ < μ31 v1 I) v1 I) {I : IM} (h : fX3_findUnlikeTicks_0 T  Q V10 V31 I) : Ct (d + 2) mX3_findUnlikeTicks [.ref 56] T I 0 0 (PV Q) := by
  have all : ∀ n : Nat, (∀ (v1 : Int32) (I : IM), V10 v1 I → μ10 v1 I < n → J (d + 2) mX3_findUnlikeTicks (PV Q) 0 0 10 [some (.ref 56), some (.int v1), none] [] T I 0 0) ∧ (∀ (v1 : Int32) (I : IM), V31 v1 I → μ31 v1 I < n → J (d + 2) mX3_findUnlikeTicks (PV Q) 0 0 31 [some (.ref 56), some (.int v1), none] [] T I 0 0) := by
    intro n
    induction n with
    | zero => exact ⟨fun _ _ _ hn => absurd hn (Nat.not_lt_zero _), fun _ _ _ hn => absurd hn (Nat.not_lt_zero _)⟩
    | succ n ih =>
      exact ⟨fun v1 I hv hn => sX3_findUnlikeTicks_10 d hT    (fun w1 I_ hw => ih.1 w1 I_ hw.1 (by have := hw.2; omega)) (fun w1 I_ hw => ih.2 w1 I_ hw.1 (by have := hw.2; omega)) v1 I (vc10 v1 I hv), fun v1 I hv hn => sX3_findUnlikeTicks_31 d hT    (fun w1 I_ hw => ih.1 w1 I_ hw.1 (by have := hw.2; omega)) (fun w1 I_ hw => ih.2 w1 I_ hw.1 (by have := hw.2; omega)) v1 I (vc31 v1 I hv)⟩
  exact Ct.ofJ (by decide +kernel) rfl (by intro v hv; revert v hv; simp [Value.category]) rfl (sX3_findUnlikeTicks_0 d hT    (fun w1 I_ hw => (all (μ10 w1 I_ + 1)).1 w1 I_ hw (Nat.lt_succ_self _)) (fun w1 I_ hw => (all (μ31 w1 I_ + 1)).2 w1 I_ hw (Nat.lt_succ_self _)) I h)

def jX3_findUnlikeTicksB10  (F : (Nat → Int32 → IM → IM)) (v1 : Int32) (I : IM) : IM := (if 8 ≤ v1 then (F 1 0 I) else (F 0 (v1 + 1) (up2 I 63 v1.toNatClampNeg 0)))
def jX3_findUnlikeTicksC10  (F : (Nat → Int32 → IM → Prop)) (v1 : Int32) (I : IM) : Prop := (((8 ≤ v1) → (F 1 0 I)) ∧ ((¬ 8 ≤ v1) → (vp_in v1 8 ∧ (F 0 (v1 + 1) (up2 I 63 v1.toNatClampNeg 0)))))
def jX3_findUnlikeTicksB31  (F : (Nat → Int32 → IM → IM)) (v1 : Int32) (I : IM) : IM := (if 24 ≤ v1 then I else (if (jX3_isKnown I (jX3_countingAt I v1)) = 0 then (F 1 (v1 + 1) (jX3_note I (jX3_countingAt I v1))) else (F 1 (v1 + 1) I)))
def jX3_findUnlikeTicksC31  (F : (Nat → Int32 → IM → Prop)) (v1 : Int32) (I : IM) : Prop := (((24 ≤ v1) → True) ∧ ((¬ 24 ≤ v1) → (((jX3_countingAtK I v1)) ∧ (((jX3_isKnownK I (jX3_countingAt I v1))) ∧ (((¬ (jX3_isKnown I (jX3_countingAt I v1)) = 0) → (F 1 (v1 + 1) I)) ∧ (((jX3_isKnown I (jX3_countingAt I v1)) = 0) → (((jX3_noteK I (jX3_countingAt I v1))) ∧ (F 1 (v1 + 1) (jX3_note I (jX3_countingAt I v1))))))))))
def jX3_findUnlikeTicksI  : Nat → Nat → Int32 → IM → IM
  | 0 => fun _ _ I => I
  | n + 1 => fun tg v1 I => (if tg = 0 then jX3_findUnlikeTicksB10  (jX3_findUnlikeTicksI  n) v1 I else (if tg = 1 then jX3_findUnlikeTicksB31  (jX3_findUnlikeTicksI  n) v1 I else I))
def jX3_findUnlikeTicksO  : Nat → Nat → Int32 → IM → Prop
  | 0 => fun _ _ _ => False
  | n + 1 => fun tg v1 I => (if tg = 0 then jX3_findUnlikeTicksC10  (jX3_findUnlikeTicksO  n) v1 I else (if tg = 1 then jX3_findUnlikeTicksC31  (jX3_findUnlikeTicksO  n) v1 I else True))
theorem jX3_findUnlikeTicksI_10  (n : Nat) (v1 : Int32) (I : IM) : jX3_findUnlikeTicksI  (n + 1) 0 v1 I = (if 8 ≤ v1 then (jX3_findUnlikeTicksI  n 1 0 I) else (jX3_findUnlikeTicksI  n 0 (v1 + 1) (up2 I 63 v1.toNatClampNeg 0))) := by
  show (if (0 : Nat) = 0 then jX3_findUnlikeTicksB10  (jX3_findUnlikeTicksI  n) v1 I else (if (0 : Nat) = 1 then jX3_findUnlikeTicksB31  (jX3_findUnlikeTicksI  n) v1 I else I)) = _
  rw [if_pos rfl]; rfl
theorem jX3_findUnlikeTicksO_10  (n : Nat) (v1 : Int32) (I : IM) : jX3_findUnlikeTicksO  (n + 1) 0 v1 I = (((8 ≤ v1) → (jX3_findUnlikeTicksO  n 1 0 I)) ∧ ((¬ 8 ≤ v1) → (vp_in v1 8 ∧ (jX3_findUnlikeTicksO  n 0 (v1 + 1) (up2 I 63 v1.toNatClampNeg 0))))) := by
  show (if (0 : Nat) = 0 then jX3_findUnlikeTicksC10  (jX3_findUnlikeTicksO  n) v1 I else (if (0 : Nat) = 1 then jX3_findUnlikeTicksC31  (jX3_findUnlikeTicksO  n) v1 I else True)) = _
  rw [if_pos rfl]; rfl
theorem jX3_findUnlikeTicksI_31  (n : Nat) (v1 : Int32) (I : IM) : jX3_findUnlikeTicksI  (n + 1) 1 v1 I = (if 24 ≤ v1 then I else (if (jX3_isKnown I (jX3_countingAt I v1)) = 0 then (jX3_findUnlikeTicksI  n 1 (v1 + 1) (jX3_note I (jX3_countingAt I v1))) else (jX3_findUnlikeTicksI  n 1 (v1 + 1) I))) := by
  show (if (1 : Nat) = 0 then jX3_findUnlikeTicksB10  (jX3_findUnlikeTicksI  n) v1 I else (if (1 : Nat) = 1 then jX3_findUnlikeTicksB31  (jX3_findUnlikeTicksI  n) v1 I else I)) = _
  rw [if_neg (by decide), if_pos rfl]; rfl
theorem jX3_findUnlikeTicksO_31  (n : Nat) (v1 : Int32) (I : IM) : jX3_findUnlikeTicksO  (n + 1) 1 v1 I = (((24 ≤ v1) → True) ∧ ((¬ 24 ≤ v1) → (((jX3_countingAtK I v1)) ∧ (((jX3_isKnownK I (jX3_countingAt I v1))) ∧ (((¬ (jX3_isKnown I (jX3_countingAt I v1)) = 0) → (jX3_findUnlikeTicksO  n 1 (v1 + 1) I)) ∧ (((jX3_isKnown I (jX3_countingAt I v1)) = 0) → (((jX3_noteK I (jX3_countingAt I v1))) ∧ (jX3_findUnlikeTicksO  n 1 (v1 + 1) (jX3_note I (jX3_countingAt I v1)))))))))) := by
  show (if (1 : Nat) = 0 then jX3_findUnlikeTicksC10  (jX3_findUnlikeTicksO  n) v1 I else (if (1 : Nat) = 1 then jX3_findUnlikeTicksC31  (jX3_findUnlikeTicksO  n) v1 I else True)) = _
  rw [if_neg (by decide), if_pos rfl]; rfl
def jX3_findUnlikeTicks (I : IM)  : IM := (jX3_findUnlikeTicksI  FU 0 0 (up2 I 57 4 0))
def jX3_findUnlikeTicksK (I : IM)  : Prop := (jX3_findUnlikeTicksO  FU 0 0 (up2 I 57 4 0))
set_option maxRecDepth 10000 in
set_option maxHeartbeats 1000000 in
theorem uX3_findUnlikeTicks (d : Nat) {T : Topo} (hT : Lay T)    {R : IM} : ∀ n : Nat, (∀ (v1 : Int32) (I : IM), jX3_findUnlikeTicksO  n 0 v1 I → jX3_findUnlikeTicksI  n 0 v1 I = R → J (d + 2) mX3_findUnlikeTicks (PV (fun T' I' => T' = T ∧ I' = R)) 0 0 10 [some (.ref 56), some (.int v1), none] [] T I 0 0) ∧ (∀ (v1 : Int32) (I : IM), jX3_findUnlikeTicksO  n 1 v1 I → jX3_findUnlikeTicksI  n 1 v1 I = R → J (d + 2) mX3_findUnlikeTicks (PV (fun T' I' => T' = T ∧ I' = R)) 0 0 31 [some (.ref 56), some (.int v1), none] [] T I 0 0) := by
  intro n
  induction n with
  | zero => exact ⟨fun _ _ hz => hz.elim, fun _ _ hz => hz.elim⟩
  | succ n ih =>
    refine ⟨?_, ?_⟩
    · exact fun v1 I hok hit => by
        rw [jX3_findUnlikeTicksO_10] at hok
        exact sX3_findUnlikeTicks_10 d hT    (K10 := fun w1 I_ => (jX3_findUnlikeTicksO  n 0 w1 I_ ∧ jX3_findUnlikeTicksI  n 0 w1 I_ = R)) (K31 := fun w1 I_ => (jX3_findUnlikeTicksO  n 1 w1 I_ ∧ jX3_findUnlikeTicksI  n 1 w1 I_ = R)) (fun w1 I_ hw => ih.1 w1 I_ hw.1 hw.2) (fun w1 I_ hw => ih.2 w1 I_ hw.1 hw.2) v1 I (by
          unfold fX3_findUnlikeTicks_10
          exact ⟨fun hc1 => ⟨(hok).1 hc1, by rw [jX3_findUnlikeTicksI_10, if_pos hc1] at hit; exact hit⟩, fun hc1 => ⟨((hok).2 hc1).1, ⟨((hok).2 hc1).2, by rw [jX3_findUnlikeTicksI_10, if_neg hc1] at hit; exact hit⟩⟩⟩)
    · exact fun v1 I hok hit => by
        rw [jX3_findUnlikeTicksO_31] at hok
        exact sX3_findUnlikeTicks_31 d hT    (K10 := fun w1 I_ => (jX3_findUnlikeTicksO  n 0 w1 I_ ∧ jX3_findUnlikeTicksI  n 0 w1 I_ = R)) (K31 := fun w1 I_ => (jX3_findUnlikeTicksO  n 1 w1 I_ ∧ jX3_findUnlikeTicksI  n 1 w1 I_ = R)) (fun w1 I_ hw => ih.1 w1 I_ hw.1 hw.2) (fun w1 I_ hw => ih.2 w1 I_ hw.1 hw.2) v1 I (by
          unfold fX3_findUnlikeTicks_31
          exact ⟨fun hc1 => ⟨rfl, by rw [jX3_findUnlikeTicksI_31, if_pos hc1] at hit; exact hit⟩, fun hc1 => ⟨((hok).2 hc1).1, ⟨(((hok).2 hc1).2).1, ⟨fun hc2 => ⟨((((hok).2 hc1).2).2).1 hc2, by rw [jX3_findUnlikeTicksI_31, if_neg hc1, if_neg hc2] at hit; exact hit⟩, fun hc2 => ⟨(((((hok).2 hc1).2).2).2 hc2).1, ⟨(((((hok).2 hc1).2).2).2 hc2).2, by rw [jX3_findUnlikeTicksI_31, if_neg hc1, if_pos hc2] at hit; exact hit⟩⟩⟩⟩⟩⟩)
set_option maxRecDepth 10000 in
set_option maxHeartbeats 1000000 in
theorem qX3_findUnlikeTicks (d : Nat) {T : Topo} {I : IM} (hT : Lay T)   (hp : (jX3_findUnlikeTicksK I)) : CtV (d + 2) mX3_findUnlikeTicks [.ref 56] T I (fun J_ => J_ = (jX3_findUnlikeTicks I)) := by
  unfold jX3_findUnlikeTicksK at hp
  exact Ct.ofJ (by decide +kernel) rfl (by intro v hv; revert v hv; simp [Value.category]) rfl (sX3_findUnlikeTicks_0 d hT    (K10 := fun w1 I_ => (jX3_findUnlikeTicksO  FU 0 w1 I_ ∧ jX3_findUnlikeTicksI  FU 0 w1 I_ = (jX3_findUnlikeTicks I ))) (K31 := fun w1 I_ => (jX3_findUnlikeTicksO  FU 1 w1 I_ ∧ jX3_findUnlikeTicksI  FU 1 w1 I_ = (jX3_findUnlikeTicks I ))) (fun w1 I_ hw => (uX3_findUnlikeTicks d hT    FU).1 w1 I_ hw.1 hw.2) (fun w1 I_ hw => (uX3_findUnlikeTicks d hT    FU).2 w1 I_ hw.1 hw.2) I (by
    unfold fX3_findUnlikeTicks_0
    exact ⟨hp, rfl⟩))

def fX3_orderSets_0 (T : Topo)  (Q : Int32 → Topo → IM → Prop) (K12 : Int32 → Int32 → IM → Prop) (I : IM) : Prop :=
  (vp_in 0 256 ∧ K12 1 0 (up2 I 67 (0 : Int32).toNatClampNeg 2048000))
def fX3_orderSets_12 (T : Topo)  (Q : Int32 → Topo → IM → Prop) (K12 : Int32 → Int32 → IM → Prop) (v1 v2 : Int32) (I : IM) : Prop :=
  ((((I 15 1) ≤ v2) → Q v1 T I) ∧ ((¬ (I 15 1) ≤ v2) → ((vp_in v2 8) ∧ (((jX3_mergeShiftedK I v1 (((1 : Int32) <<< (v2 &&& 31)) - ((I (17 + 4 * (v2).toNatClampNeg) 7) * 256)))) ∧ K12 (v1 * 2) (v2 + 1) (jX3_mergeShifted I v1 (((1 : Int32) <<< (v2 &&& 31)) - ((I (17 + 4 * (v2).toNatClampNeg) 7) * 256)))))))
set_option maxHeartbeats 4000000 in
set_option maxRecDepth 100000 in
theorem sX3_orderSets_0 (d : Nat) {T : Topo} (hT : Lay T)     {Q : Int32 → Topo → IM → Prop} {K12 : Int32 → Int32 → IM → Prop} (hK12 : ∀ (v1 v2 : Int32) (I : IM), K12 v1 v2 I → J (d + 1) mX3_orderSets (PI Q) 0 0 12 [some (.ref 56), some (.int v1), some (.int v2)] [] T I 0 0) (I : IM) (h : fX3_orderSets_0 T  Q K12 I) : J (d + 1) mX3_orderSets (PI Q) 0 0 0 [some (.ref 56), none, none] [] T I 0 0 := by
  unfold fX3_orderSets_0 at h
  refine J.aload_n dX3_orderSets_0 rfl rfl ?_
  refine J.getR (r := 67) dX3_orderSets_1 fX3_34 (hT.k 56 rfl) rfl (hT.r 56 8 rfl rfl) ?_
  refine J.iconst (v := 0) dX3_orderSets_4 (by decide) ?_
  refine J.ldc (v := 2048000) dX3_orderSets_5 kcX3_143 ?_
  obtain ⟨hs1, h⟩ := h
  refine J.iast dX3_orderSets_7 (hT.k 67 rfl) (hT.l 67 rfl) hs1 ?_
  refine J.iconst (v := 1) dX3_orderSets_8 (by decide) ?_
  refine J.istore_n (ls' := [some (.ref 56), some (.int 1), none]) dX3_orderSets_9 rfl rfl rfl ?_
  refine J.iconst (v := 0) dX3_orderSets_10 (by decide) ?_
  refine J.istore_n (ls' := [some (.ref 56), some (.int 1), some (.int 0)]) dX3_orderSets_11 rfl rfl rfl ?_
  exact J.weaken (ls' := [some (.ref 56), some (.int 1), some (.int 0)]) (And.intro rfl (And.intro rfl (And.intro rfl trivial))) (hK12 1 0 (up2 I 67 (0 : Int32).toNatClampNeg 2048000) h)
set_option maxHeartbeats 4000000 in
set_option maxRecDepth 100000 in
theorem sX3_orderSets_12 (d : Nat) {T : Topo} (hT : Lay T)     {Q : Int32 → Topo → IM → Prop} {K12 : Int32 → Int32 → IM → Prop} (hK12 : ∀ (v1 v2 : Int32) (I : IM), K12 v1 v2 I → J (d + 1) mX3_orderSets (PI Q) 0 0 12 [some (.ref 56), some (.int v1), some (.int v2)] [] T I 0 0) (v1 v2 : Int32) (I : IM) (h : fX3_orderSets_12 T  Q K12 v1 v2 I) : J (d + 1) mX3_orderSets (PI Q) 0 0 12 [some (.ref 56), some (.int v1), some (.int v2)] [] T I 0 0 := by
  unfold fX3_orderSets_12 at h
  refine J.iload_n dX3_orderSets_12 rfl rfl ?_
  refine J.aload_n dX3_orderSets_13 rfl rfl ?_
  refine J.getR (r := 15) dX3_orderSets_14 fX3_44 (hT.k 56 rfl) rfl (hT.r 56 1 rfl rfl) ?_
  refine J.getI dX3_orderSets_17 fX3_56 (hT.k 15 rfl) rfl ?_
  refine J.icmp_ge (tgt := 57) dX3_orderSets_20 (by decide) (fun hc1 => ?_) (fun hc1 => ?_)
  · have h := h.1 hc1
    refine J.iload_n dX3_orderSets_57 rfl rfl ?_
    exact J.iretQ dX3_orderSets_58 rfl (Nat.le_refl _) (Nat.le_refl _) h
  · have h := h.2 hc1
    refine J.aload_n dX3_orderSets_23 rfl rfl ?_
    refine J.iload_n dX3_orderSets_24 rfl rfl ?_
    refine J.iconst (v := 1) dX3_orderSets_25 (by decide) ?_
    refine J.iload_n dX3_orderSets_26 rfl rfl ?_
    refine J.ishl dX3_orderSets_27 ?_
    refine J.aload_n dX3_orderSets_28 rfl rfl ?_
    refine J.getR (r := 15) dX3_orderSets_29 fX3_44 (hT.k 56 rfl) rfl (hT.r 56 1 rfl rfl) ?_
    refine J.atpc (pc' := 32) rfl ?_
    refine J.iload_n dX3_orderSets_32 rfl rfl ?_
    obtain ⟨hp2, h⟩ := h
    refine J.callVF (r := (17 + 4 * (v2).toNatClampNeg)) (k := 15) (as := [.int v2]) (rest := [.int ((1 : Int32) <<< (v2 &&& 31)), .int v1, .ref 56]) dX3_orderSets_33 kX9_at vX9_at lX3_111 (hT.k 15 rfl) rfl rfl rfl rfl rfl (by omega) (Nat.le_refl _) (Nat.le_refl _) (qX9_at (d + 0) hT v2 hp2) ?_
    refine J.getI dX3_orderSets_36 fX3_144 (hT.sliceK (vp_lt hp2)) rfl ?_
    refine J.sipush (v := 256) dX3_orderSets_39 (by decide) ?_
    refine J.imul dX3_orderSets_42 ?_
    refine J.isub dX3_orderSets_43 ?_
    obtain ⟨hp3, h⟩ := h
    refine J.callVD (k := 56) (as := [.int v1, .int (((1 : Int32) <<< (v2 &&& 31)) - ((I (17 + 4 * (v2).toNatClampNeg) 7) * 256))]) (rest := []) dX3_orderSets_44 kX3_mergeShifted vX3_mergeShifted lX3_147 (hT.k 56 rfl) rfl rfl rfl rfl rfl (by omega) (Nat.le_refl _) (Nat.le_refl _) (qX3_mergeShifted (d + 0) hT v1 (((1 : Int32) <<< (v2 &&& 31)) - ((I (17 + 4 * (v2).toNatClampNeg) 7) * 256)) hp3) ?_
    refine J.iload_n dX3_orderSets_47 rfl rfl ?_
    refine J.iconst (v := 2) dX3_orderSets_48 (by decide) ?_
    refine J.imul dX3_orderSets_49 ?_
    refine J.istore_n (ls' := [some (.ref 56), some (.int (v1 * 2)), some (.int v2)]) dX3_orderSets_50 rfl rfl rfl ?_
    refine J.iinc (v := (v2 + 1)) (ls' := [some (.ref 56), some (.int (v1 * 2)), some (.int (v2 + 1))]) dX3_orderSets_51 rfl (by rfl) rfl ?_
    refine J.goto (tgt := 12) dX3_orderSets_54 (by decide) ?_
    exact J.weaken (ls' := [some (.ref 56), some (.int (v1 * 2)), some (.int (v2 + 1))]) (And.intro rfl (And.intro rfl (And.intro rfl trivial))) (hK12 (v1 * 2) (v2 + 1) (jX3_mergeShifted I v1 (((1 : Int32) <<< (v2 &&& 31)) - ((I (17 + 4 * (v2).toNatClampNeg) 7) * 256))) h)
set_option maxHeartbeats 4000000 in
set_option maxRecDepth 100000 in
theorem wX3_orderSets (d : Nat) {T : Topo} (hT : Lay T)    {Q : Int32 → Topo → IM → Prop} (V12 : Int32 → Int32 → IM → Prop) (μ12 : Int32 → Int32 → IM → Nat) (vc12 : ∀ (v1 v2 : Int32) (I : IM), V12 v1 v2 I → fX3_orderSets_12 T  Q (fun w1 w2 I_ => V12 w1 w2 I_ ∧ μ12 w1 w2 I_ < μ12 v1 v2 I) v1 v2 I) {I : IM} (h : fX3_orderSets_0 T  Q V12 I) : Ct (d + 1) mX3_orderSets [.ref 56] T I 0 0 (PI Q) := by
  have all : ∀ n : Nat, (∀ (v1 v2 : Int32) (I : IM), V12 v1 v2 I → μ12 v1 v2 I < n → J (d + 1) mX3_orderSets (PI Q) 0 0 12 [some (.ref 56), some (.int v1), some (.int v2)] [] T I 0 0) := by
    intro n
    induction n with
    | zero => exact fun _ _ _ _ hn => absurd hn (Nat.not_lt_zero _)
    | succ n ih =>
      exact fun v1 v2 I hv hn => sX3_orderSets_12 d hT    (fun w1 w2 I_ hw => ih w1 w2 I_ hw.1 (by have := hw.2; omega)) v1 v2 I (vc12 v1 v2 I hv)
  exact Ct.ofJ (by decide +kernel) rfl (by intro v hv; revert v hv; simp [Value.category]) rfl (sX3_orderSets_0 d hT    (fun w1 w2 I_ hw => (all (μ12 w1 w2 I_ + 1)) w1 w2 I_ hw (Nat.lt_succ_self _)) I h)

def jX3_orderSetsI  : Nat → Int32 → Int32 → IM → Int32 × IM
  | 0 => fun _ _ I => (0, I)
  | n + 1 => fun v1 v2 I => (if (I 15 1) ≤ v2 then (v1, I) else (jX3_orderSetsI  n (v1 * 2) (v2 + 1) (jX3_mergeShifted I v1 (((1 : Int32) <<< (v2 &&& 31)) - ((I (17 + 4 * (v2).toNatClampNeg) 7) * 256)))))
def jX3_orderSetsO  : Nat → Int32 → Int32 → IM → Prop
  | 0 => fun _ _ _ => False
  | n + 1 => fun v1 v2 I => ((((I 15 1) ≤ v2) → True) ∧ ((¬ (I 15 1) ≤ v2) → ((vp_in v2 8) ∧ (((jX3_mergeShiftedK I v1 (((1 : Int32) <<< (v2 &&& 31)) - ((I (17 + 4 * (v2).toNatClampNeg) 7) * 256)))) ∧ (jX3_orderSetsO  n (v1 * 2) (v2 + 1) (jX3_mergeShifted I v1 (((1 : Int32) <<< (v2 &&& 31)) - ((I (17 + 4 * (v2).toNatClampNeg) 7) * 256))))))))
theorem jX3_orderSetsI_12  (n : Nat) (v1 v2 : Int32) (I : IM) : jX3_orderSetsI  (n + 1) v1 v2 I = (if (I 15 1) ≤ v2 then (v1, I) else (jX3_orderSetsI  n (v1 * 2) (v2 + 1) (jX3_mergeShifted I v1 (((1 : Int32) <<< (v2 &&& 31)) - ((I (17 + 4 * (v2).toNatClampNeg) 7) * 256))))) := rfl
theorem jX3_orderSetsO_12  (n : Nat) (v1 v2 : Int32) (I : IM) : jX3_orderSetsO  (n + 1) v1 v2 I = ((((I 15 1) ≤ v2) → True) ∧ ((¬ (I 15 1) ≤ v2) → ((vp_in v2 8) ∧ (((jX3_mergeShiftedK I v1 (((1 : Int32) <<< (v2 &&& 31)) - ((I (17 + 4 * (v2).toNatClampNeg) 7) * 256)))) ∧ (jX3_orderSetsO  n (v1 * 2) (v2 + 1) (jX3_mergeShifted I v1 (((1 : Int32) <<< (v2 &&& 31)) - ((I (17 + 4 * (v2).toNatClampNeg) 7) * 256)))))))) := rfl
def jX3_orderSets (I : IM)  : Int32 × IM := (jX3_orderSetsI  FU 1 0 (up2 I 67 (0 : Int32).toNatClampNeg 2048000))
def jX3_orderSetsK (I : IM)  : Prop := (vp_in 0 256 ∧ (jX3_orderSetsO  FU 1 0 (up2 I 67 (0 : Int32).toNatClampNeg 2048000)))
set_option maxRecDepth 10000 in
set_option maxHeartbeats 1000000 in
theorem uX3_orderSets (d : Nat) {T : Topo} (hT : Lay T)    {R : Int32 × IM} : ∀ n : Nat, (∀ (v1 v2 : Int32) (I : IM), jX3_orderSetsO  n v1 v2 I → jX3_orderSetsI  n v1 v2 I = R → J (d + 1) mX3_orderSets (PI (fun x T' I' => T' = T ∧ x = R.1 ∧ I' = R.2)) 0 0 12 [some (.ref 56), some (.int v1), some (.int v2)] [] T I 0 0) := by
  intro n
  induction n with
  | zero => exact fun _ _ _ hz => hz.elim
  | succ n ih =>
    exact fun v1 v2 I hok hit => by
        rw [jX3_orderSetsO_12] at hok
        exact sX3_orderSets_12 d hT    (K12 := fun w1 w2 I_ => (jX3_orderSetsO  n w1 w2 I_ ∧ jX3_orderSetsI  n w1 w2 I_ = R)) (fun w1 w2 I_ hw => ih w1 w2 I_ hw.1 hw.2) v1 v2 I (by
          unfold fX3_orderSets_12
          exact ⟨fun hc1 => (by rw [jX3_orderSetsI_12, if_pos hc1] at hit; exact ⟨rfl, by rw [← hit], by rw [← hit]⟩), fun hc1 => ⟨((hok).2 hc1).1, ⟨(((hok).2 hc1).2).1, ⟨(((hok).2 hc1).2).2, by rw [jX3_orderSetsI_12, if_neg hc1] at hit; exact hit⟩⟩⟩⟩)
set_option maxRecDepth 10000 in
set_option maxHeartbeats 1000000 in
theorem qX3_orderSets (d : Nat) {T : Topo} {I : IM} (hT : Lay T)   (hp : (jX3_orderSetsK I)) : CtI (d + 1) mX3_orderSets [.ref 56] T I (fun x_ J_ => x_ = (jX3_orderSets I).1 ∧ J_ = (jX3_orderSets I).2) := by
  unfold jX3_orderSetsK at hp
  exact Ct.ofJ (by decide +kernel) rfl (by intro v hv; revert v hv; simp [Value.category]) rfl (sX3_orderSets_0 d hT    (K12 := fun w1 w2 I_ => (jX3_orderSetsO  FU w1 w2 I_ ∧ jX3_orderSetsI  FU w1 w2 I_ = (jX3_orderSets I ))) (fun w1 w2 I_ hw => uX3_orderSets d hT    FU w1 w2 I_ hw.1 hw.2) I (by
    unfold fX3_orderSets_0
    exact ⟨(hp).1, ⟨(hp).2, rfl⟩⟩))

def fX3_dearest_0 (T : Topo)  (Q : Int32 → Topo → IM → Prop) (K7 : Int32 → Int32 → IM → Prop) (I : IM) : Prop :=
  (((jX3_orderSetsK I)) ∧ K7 ((jX3_orderSets I).1) 0 (jX3_orderSets I).2)
def fX3_dearest_7 (T : Topo)  (Q : Int32 → Topo → IM → Prop) (K7 : Int32 → Int32 → IM → Prop) (v1 v2 : Int32) (I : IM) : Prop :=
  (((v1 ≤ v2) → Q 0 T I) ∧ ((¬ v1 ≤ v2) → (((¬ (I 56 12) = 0) → Q 0 T I) ∧ (((I 56 12) = 0) → (vp_in v2 256 ∧ (((jX3_laidK T I ((I 67 v2.toNatClampNeg) &&& 255))) ∧ (((((jX3_laid T I ((I 67 v2.toNatClampNeg) &&& 255)).1) = 0) → K7 v1 (v2 + 1) (jX3_laid T I ((I 67 v2.toNatClampNeg) &&& 255)).2) ∧ ((¬ ((jX3_laid T I ((I 67 v2.toNatClampNeg) &&& 255)).1) = 0) → Q ((I 67 v2.toNatClampNeg) &&& 255) T (jX3_laid T I ((I 67 v2.toNatClampNeg) &&& 255)).2))))))))
set_option maxHeartbeats 4000000 in
set_option maxRecDepth 100000 in
theorem sX3_dearest_0 (d : Nat) {T : Topo} (hT : Lay T)   (hPl : Pl T)  {Q : Int32 → Topo → IM → Prop} {K7 : Int32 → Int32 → IM → Prop} (hK7 : ∀ (v1 v2 : Int32) (I : IM), K7 v1 v2 I → J (d + 6) mX3_dearest (PI Q) 0 0 7 [some (.ref 56), some (.int v1), some (.int v2), none] [] T I 0 0) (I : IM) (h : fX3_dearest_0 T  Q K7 I) : J (d + 6) mX3_dearest (PI Q) 0 0 0 [some (.ref 56), none, none, none] [] T I 0 0 := by
  unfold fX3_dearest_0 at h
  refine J.aload_n dX3_dearest_0 rfl rfl ?_
  obtain ⟨hp1, h⟩ := h
  refine J.callVE (k := 56) (as := []) (rest := []) dX3_dearest_1 kX3_orderSets vX3_orderSets lX3_90 (hT.k 56 rfl) rfl rfl rfl rfl rfl (by omega) (Nat.le_refl _) (Nat.le_refl _) (qX3_orderSets (d + 4) hT  hp1) ?_
  refine J.istore_n (ls' := [some (.ref 56), some (.int ((jX3_orderSets I).1)), none, none]) dX3_dearest_4 rfl rfl rfl ?_
  refine J.iconst (v := 0) dX3_dearest_5 (by decide) ?_
  refine J.istore_n (ls' := [some (.ref 56), some (.int ((jX3_orderSets I).1)), some (.int 0), none]) dX3_dearest_6 rfl rfl rfl ?_
  exact J.weaken (ls' := [some (.ref 56), some (.int ((jX3_orderSets I).1)), some (.int 0), none]) (And.intro rfl (And.intro rfl (And.intro rfl trivial))) (hK7 ((jX3_orderSets I).1) 0 (jX3_orderSets I).2 h)
set_option maxHeartbeats 4000000 in
set_option maxRecDepth 100000 in
theorem sX3_dearest_7 (d : Nat) {T : Topo} (hT : Lay T)   (hPl : Pl T)  {Q : Int32 → Topo → IM → Prop} {K7 : Int32 → Int32 → IM → Prop} (hK7 : ∀ (v1 v2 : Int32) (I : IM), K7 v1 v2 I → J (d + 6) mX3_dearest (PI Q) 0 0 7 [some (.ref 56), some (.int v1), some (.int v2), none] [] T I 0 0) (v1 v2 : Int32) (I : IM) (h : fX3_dearest_7 T  Q K7 v1 v2 I) : J (d + 6) mX3_dearest (PI Q) 0 0 7 [some (.ref 56), some (.int v1), some (.int v2), none] [] T I 0 0 := by
  unfold fX3_dearest_7 at h
  refine J.iload_n dX3_dearest_7 rfl rfl ?_
  refine J.iload_n dX3_dearest_8 rfl rfl ?_
  refine J.icmp_ge (tgt := 46) dX3_dearest_9 (by decide) (fun hc1 => ?_) (fun hc1 => ?_)
  · have h := h.1 hc1
    refine J.iconst (v := 0) dX3_dearest_46 (by decide) ?_
    exact J.iretQ dX3_dearest_47 rfl (Nat.le_refl _) (Nat.le_refl _) h
  · have h := h.2 hc1
    refine J.aload_n dX3_dearest_12 rfl rfl ?_
    refine J.getI dX3_dearest_13 fX3_52 (hT.k 56 rfl) rfl ?_
    refine J.if_ne (tgt := 46) dX3_dearest_16 (by decide) (fun hc2 => ?_) (fun hc2 => ?_)
    · have h := h.1 hc2
      refine J.iconst (v := 0) dX3_dearest_46 (by decide) ?_
      exact J.iretQ dX3_dearest_47 rfl (Nat.le_refl _) (Nat.le_refl _) h
    · have h := h.2 hc2
      refine J.aload_n dX3_dearest_19 rfl rfl ?_
      refine J.getR (r := 67) dX3_dearest_20 fX3_34 (hT.k 56 rfl) rfl (hT.r 56 8 rfl rfl) ?_
      refine J.iload_n dX3_dearest_23 rfl rfl ?_
      obtain ⟨hs3, h⟩ := h
      refine J.iald dX3_dearest_24 (hT.k 67 rfl) (hT.l 67 rfl) hs3 ?_
      refine J.sipush (v := 255) dX3_dearest_25 (by decide) ?_
      refine J.iand dX3_dearest_28 ?_
      refine J.istore_n (ls' := [some (.ref 56), some (.int v1), some (.int v2), some (.int ((I 67 v2.toNatClampNeg) &&& 255))]) dX3_dearest_29 rfl rfl rfl ?_
      refine J.aload_n dX3_dearest_30 rfl rfl ?_
      refine J.iload_n dX3_dearest_31 rfl rfl ?_
      obtain ⟨hp4, h⟩ := h
      refine J.callVE (k := 56) (as := [.int ((I 67 v2.toNatClampNeg) &&& 255)]) (rest := []) dX3_dearest_32 kX3_laid vX3_laid lX3_94 (hT.k 56 rfl) rfl rfl rfl rfl rfl (by omega) (Nat.le_refl _) (Nat.le_refl _) (qX3_laid (d + 0) hT ((I 67 v2.toNatClampNeg) &&& 255) hPl hp4) ?_
      refine J.if_eq (tgt := 40) dX3_dearest_35 (by decide) (fun hc5 => ?_) (fun hc5 => ?_)
      · have h := h.1 hc5
        refine J.iinc (v := (v2 + 1)) (ls' := [some (.ref 56), some (.int v1), some (.int (v2 + 1)), some (.int ((I 67 v2.toNatClampNeg) &&& 255))]) dX3_dearest_40 rfl (by rfl) rfl ?_
        refine J.goto (tgt := 7) dX3_dearest_43 (by decide) ?_
        exact J.weaken (ls' := [some (.ref 56), some (.int v1), some (.int (v2 + 1)), none]) (And.intro rfl (And.intro rfl (And.intro rfl trivial))) (hK7 v1 (v2 + 1) (jX3_laid T I ((I 67 v2.toNatClampNeg) &&& 255)).2 h)
      · have h := h.2 hc5
        refine J.iload_n dX3_dearest_38 rfl rfl ?_
        exact J.iretQ dX3_dearest_39 rfl (Nat.le_refl _) (Nat.le_refl _) h
set_option maxHeartbeats 4000000 in
set_option maxRecDepth 100000 in
theorem wX3_dearest (d : Nat) {T : Topo} (hT : Lay T)   (hPl : Pl T) {Q : Int32 → Topo → IM → Prop} (V7 : Int32 → Int32 → IM → Prop) (μ7 : Int32 → Int32 → IM → Nat) (vc7 : ∀ (v1 v2 : Int32) (I : IM), V7 v1 v2 I → fX3_dearest_7 T  Q (fun w1 w2 I_ => V7 w1 w2 I_ ∧ μ7 w1 w2 I_ < μ7 v1 v2 I) v1 v2 I) {I : IM} (h : fX3_dearest_0 T  Q V7 I) : Ct (d + 6) mX3_dearest [.ref 56] T I 0 0 (PI Q) := by
  have all : ∀ n : Nat, (∀ (v1 v2 : Int32) (I : IM), V7 v1 v2 I → μ7 v1 v2 I < n → J (d + 6) mX3_dearest (PI Q) 0 0 7 [some (.ref 56), some (.int v1), some (.int v2), none] [] T I 0 0) := by
    intro n
    induction n with
    | zero => exact fun _ _ _ _ hn => absurd hn (Nat.not_lt_zero _)
    | succ n ih =>
      exact fun v1 v2 I hv hn => sX3_dearest_7 d hT   hPl (fun w1 w2 I_ hw => ih w1 w2 I_ hw.1 (by have := hw.2; omega)) v1 v2 I (vc7 v1 v2 I hv)
  exact Ct.ofJ (by decide +kernel) rfl (by intro v hv; revert v hv; simp [Value.category]) rfl (sX3_dearest_0 d hT   hPl (fun w1 w2 I_ hw => (all (μ7 w1 w2 I_ + 1)) w1 w2 I_ hw (Nat.lt_succ_self _)) I h)

def jX3_dearestI (T : Topo)  : Nat → Int32 → Int32 → IM → Int32 × IM
  | 0 => fun _ _ I => (0, I)
  | n + 1 => fun v1 v2 I => (if v1 ≤ v2 then (0, I) else (if (I 56 12) = 0 then (if ((jX3_laid T I ((I 67 v2.toNatClampNeg) &&& 255)).1) = 0 then (jX3_dearestI T  n v1 (v2 + 1) ((jX3_laid T I ((I 67 v2.toNatClampNeg) &&& 255)).2)) else (((I 67 v2.toNatClampNeg) &&& 255), (jX3_laid T I ((I 67 v2.toNatClampNeg) &&& 255)).2)) else (0, I)))
def jX3_dearestO (T : Topo)  : Nat → Int32 → Int32 → IM → Prop
  | 0 => fun _ _ _ => False
  | n + 1 => fun v1 v2 I => (((v1 ≤ v2) → True) ∧ ((¬ v1 ≤ v2) → (((¬ (I 56 12) = 0) → True) ∧ (((I 56 12) = 0) → (vp_in v2 256 ∧ (((jX3_laidK T I ((I 67 v2.toNatClampNeg) &&& 255))) ∧ (((((jX3_laid T I ((I 67 v2.toNatClampNeg) &&& 255)).1) = 0) → (jX3_dearestO T  n v1 (v2 + 1) ((jX3_laid T I ((I 67 v2.toNatClampNeg) &&& 255)).2))) ∧ ((¬ ((jX3_laid T I ((I 67 v2.toNatClampNeg) &&& 255)).1) = 0) → True))))))))
theorem jX3_dearestI_7 (T : Topo)  (n : Nat) (v1 v2 : Int32) (I : IM) : jX3_dearestI T  (n + 1) v1 v2 I = (if v1 ≤ v2 then (0, I) else (if (I 56 12) = 0 then (if ((jX3_laid T I ((I 67 v2.toNatClampNeg) &&& 255)).1) = 0 then (jX3_dearestI T  n v1 (v2 + 1) ((jX3_laid T I ((I 67 v2.toNatClampNeg) &&& 255)).2)) else (((I 67 v2.toNatClampNeg) &&& 255), (jX3_laid T I ((I 67 v2.toNatClampNeg) &&& 255)).2)) else (0, I))) := rfl
theorem jX3_dearestO_7 (T : Topo)  (n : Nat) (v1 v2 : Int32) (I : IM) : jX3_dearestO T  (n + 1) v1 v2 I = (((v1 ≤ v2) → True) ∧ ((¬ v1 ≤ v2) → (((¬ (I 56 12) = 0) → True) ∧ (((I 56 12) = 0) → (vp_in v2 256 ∧ (((jX3_laidK T I ((I 67 v2.toNatClampNeg) &&& 255))) ∧ (((((jX3_laid T I ((I 67 v2.toNatClampNeg) &&& 255)).1) = 0) → (jX3_dearestO T  n v1 (v2 + 1) ((jX3_laid T I ((I 67 v2.toNatClampNeg) &&& 255)).2))) ∧ ((¬ ((jX3_laid T I ((I 67 v2.toNatClampNeg) &&& 255)).1) = 0) → True)))))))) := rfl
def jX3_dearest (T : Topo) (I : IM)  : Int32 × IM := (jX3_dearestI T  FU ((jX3_orderSets I).1) 0 ((jX3_orderSets I).2))
def jX3_dearestK (T : Topo) (I : IM)  : Prop := (((jX3_orderSetsK I)) ∧ (jX3_dearestO T  FU ((jX3_orderSets I).1) 0 ((jX3_orderSets I).2)))
set_option maxRecDepth 10000 in
set_option maxHeartbeats 1000000 in
theorem uX3_dearest (d : Nat) {T : Topo} (hT : Lay T)   (hPl : Pl T) {R : Int32 × IM} : ∀ n : Nat, (∀ (v1 v2 : Int32) (I : IM), jX3_dearestO T  n v1 v2 I → jX3_dearestI T  n v1 v2 I = R → J (d + 6) mX3_dearest (PI (fun x T' I' => T' = T ∧ x = R.1 ∧ I' = R.2)) 0 0 7 [some (.ref 56), some (.int v1), some (.int v2), none] [] T I 0 0) := by
  intro n
  induction n with
  | zero => exact fun _ _ _ hz => hz.elim
  | succ n ih =>
    exact fun v1 v2 I hok hit => by
        rw [jX3_dearestO_7] at hok
        exact sX3_dearest_7 d hT   hPl (K7 := fun w1 w2 I_ => (jX3_dearestO T  n w1 w2 I_ ∧ jX3_dearestI T  n w1 w2 I_ = R)) (fun w1 w2 I_ hw => ih w1 w2 I_ hw.1 hw.2) v1 v2 I (by
          unfold fX3_dearest_7
          exact ⟨fun hc1 => (by rw [jX3_dearestI_7, if_pos hc1] at hit; exact ⟨rfl, by rw [← hit], by rw [← hit]⟩), fun hc1 => ⟨fun hc2 => (by rw [jX3_dearestI_7, if_neg hc1, if_neg hc2] at hit; exact ⟨rfl, by rw [← hit], by rw [← hit]⟩), fun hc2 => ⟨(((hok).2 hc1).2 hc2).1, ⟨((((hok).2 hc1).2 hc2).2).1, ⟨fun hc3 => ⟨(((((hok).2 hc1).2 hc2).2).2).1 hc3, by rw [jX3_dearestI_7, if_neg hc1, if_pos hc2, if_pos hc3] at hit; exact hit⟩, fun hc3 => (by rw [jX3_dearestI_7, if_neg hc1, if_pos hc2, if_neg hc3] at hit; exact ⟨rfl, by rw [← hit], by rw [← hit]⟩)⟩⟩⟩⟩⟩)
set_option maxRecDepth 10000 in
set_option maxHeartbeats 1000000 in
theorem qX3_dearest (d : Nat) {T : Topo} {I : IM} (hT : Lay T)  (hPl : Pl T) (hp : (jX3_dearestK T I)) : CtI (d + 6) mX3_dearest [.ref 56] T I (fun x_ J_ => x_ = (jX3_dearest T I).1 ∧ J_ = (jX3_dearest T I).2) := by
  unfold jX3_dearestK at hp
  exact Ct.ofJ (by decide +kernel) rfl (by intro v hv; revert v hv; simp [Value.category]) rfl (sX3_dearest_0 d hT   hPl (K7 := fun w1 w2 I_ => (jX3_dearestO T  FU w1 w2 I_ ∧ jX3_dearestI T  FU w1 w2 I_ = (jX3_dearest T I ))) (fun w1 w2 I_ hw => uX3_dearest d hT   hPl FU w1 w2 I_ hw.1 hw.2) I (by
    unfold fX3_dearest_0
    exact ⟨(hp).1, ⟨(hp).2, rfl⟩⟩))

end
