noncomputable section
def fX12_offer_0 (T : Topo) (a1 : Int32) (a2 : Int32) (Q : Int32 → Topo → IM → Prop)  (I : IM) : Prop :=
  ((((¬ (wi a1 0 (I 79 2 - 1))) → (Q (jX12_finds (-1000001)) T (jX12_findsM I))) ∧ ((wi a1 0 (I 79 2 - 1)) → ((((wi a2 1 100) → (vp_in a1 8 ∧ (((((I 101 a1.toNatClampNeg) + a2) ≤ 1000) → (vp_in a1 8 ∧ (vp_in a1 8 ∧ (vp_in a1 8 ∧ Q ((I 101 a1.toNatClampNeg) + a2) T (up2 I 101 a1.toNatClampNeg ((I 101 a1.toNatClampNeg) + a2)))))) ∧ ((¬ ((I 101 a1.toNatClampNeg) + a2) ≤ 1000) → (Q (jX12_finds (-1000002)) T (jX12_findsM I)))))) ∧ ((¬ (wi a2 1 100)) → (Q (jX12_finds (-1000001)) T (jX12_findsM I))))))))
set_option maxHeartbeats 4000000 in
set_option maxRecDepth 100000 in
theorem sX12_offer_0 (d : Nat) {T : Topo} (hT : Lay T) (a1 : Int32) (a2 : Int32)    {Q : Int32 → Topo → IM → Prop}   (I : IM) (h : fX12_offer_0 T a1 a2 Q  I) : J (d + 2) mX12_offer (PI Q) 0 0 0 [some (.ref 79), some (.int a1), some (.int a2)] [] T I 0 0 := by
  unfold fX12_offer_0 at h
  refine J.aload_n dX12_offer_0 rfl rfl ?_
  refine J.iload_n dX12_offer_1 rfl rfl ?_
  refine J.callVP (k := 79) (as := [.int a1]) (rest := []) dX12_offer_2 kX12_isSlice vX12_isSlice lX12_235 (hT.k 79 rfl) rfl rfl rfl rfl rfl (by omega) (Nat.le_refl _) (Nat.le_refl _) (qX12_isSlice (d + 0) hT a1 ) ?_
  refine J.bz_eq (tgt := 18) dX12_offer_5 (by decide) (fun hc1 => ?_) (fun hc1 => ?_)
  · have h := h.1 hc1
    refine J.aload_n dX12_offer_18 rfl rfl ?_
    refine J.ldc (v := (-1000001)) dX12_offer_19 kcX12_199 ?_
    refine J.callVE (k := 79) (as := [.int (-1000001)]) (rest := []) dX12_offer_21 kX12_finds vX12_finds lX12_200 (hT.k 79 rfl) rfl rfl rfl rfl rfl (by omega) (Nat.le_refl _) (Nat.le_refl _) (qX12_finds (d + 1) hT (-1000001) ) ?_
    exact J.iretQ dX12_offer_24 rfl (Nat.le_refl _) (Nat.le_refl _) h
  · have h := h.2 hc1
    refine J.iload_n dX12_offer_8 rfl rfl ?_
    refine J.iconst (v := 1) dX12_offer_9 (by decide) ?_
    refine J.bipush (v := 100) dX12_offer_10 (by decide) ?_
    refine J.callSP (as := [.int a2, .int 1, .int 100]) (rest := []) dX12_offer_12 kX12_in vX12_in lX12_189 rfl rfl rfl (by omega) (Nat.le_refl _) (Nat.le_refl _) (qX12_in (d + 1) hT a2 1 100 ) ?_
    refine J.bz_ne (tgt := 25) dX12_offer_15 (by decide) (fun hc2 => ?_) (fun hc2 => ?_)
    · have h := h.1 hc2
      refine J.aload_n dX12_offer_25 rfl rfl ?_
      refine J.getR (r := 101) dX12_offer_26 fX12_78 (hT.k 79 rfl) rfl (hT.r 79 30 rfl rfl) ?_
      refine J.iload_n dX12_offer_29 rfl rfl ?_
      obtain ⟨hs3, h⟩ := h
      refine J.iald dX12_offer_30 (hT.k 101 rfl) (hT.l 101 rfl) hs3 ?_
      refine J.iload_n dX12_offer_31 rfl rfl ?_
      refine J.iadd dX12_offer_32 ?_
      refine J.sipush (v := 1000) dX12_offer_33 (by decide) ?_
      refine J.icmp_le (tgt := 46) dX12_offer_36 (by decide) (fun hc4 => ?_) (fun hc4 => ?_)
      · have h := h.1 hc4
        refine J.aload_n dX12_offer_46 rfl rfl ?_
        refine J.getR (r := 101) dX12_offer_47 fX12_78 (hT.k 79 rfl) rfl (hT.r 79 30 rfl rfl) ?_
        refine J.iload_n dX12_offer_50 rfl rfl ?_
        refine J.dup2 dX12_offer_51 rfl rfl ?_
        obtain ⟨hs5, h⟩ := h
        refine J.iald dX12_offer_52 (hT.k 101 rfl) (hT.l 101 rfl) hs5 ?_
        refine J.iload_n dX12_offer_53 rfl rfl ?_
        refine J.iadd dX12_offer_54 ?_
        obtain ⟨hs6, h⟩ := h
        refine J.iast dX12_offer_55 (hT.k 101 rfl) (hT.l 101 rfl) hs6 ?_
        refine J.aload_n dX12_offer_56 rfl rfl ?_
        refine J.getR (r := 101) dX12_offer_57 fX12_78 (hT.k 79 rfl) rfl (hT.r 79 30 rfl rfl) ?_
        refine J.iload_n dX12_offer_60 rfl rfl ?_
        obtain ⟨hs7, h⟩ := h
        refine J.iald dX12_offer_61 (hT.k 101 rfl) (hT.l 101 rfl) hs7 ?_
        refine J.topEq (y := ((I 101 a1.toNatClampNeg) + a2)) (up2_at _ _ _ _) ?_
        exact J.iretQ dX12_offer_62 rfl (Nat.le_refl _) (Nat.le_refl _) h
      · have h := h.2 hc4
        refine J.aload_n dX12_offer_39 rfl rfl ?_
        refine J.ldc (v := (-1000002)) dX12_offer_40 kcX12_204 ?_
        refine J.callVE (k := 79) (as := [.int (-1000002)]) (rest := []) dX12_offer_42 kX12_finds vX12_finds lX12_200 (hT.k 79 rfl) rfl rfl rfl rfl rfl (by omega) (Nat.le_refl _) (Nat.le_refl _) (qX12_finds (d + 1) hT (-1000002) ) ?_
        exact J.iretQ dX12_offer_45 rfl (Nat.le_refl _) (Nat.le_refl _) h
    · have h := h.2 hc2
      refine J.aload_n dX12_offer_18 rfl rfl ?_
      refine J.ldc (v := (-1000001)) dX12_offer_19 kcX12_199 ?_
      refine J.callVE (k := 79) (as := [.int (-1000001)]) (rest := []) dX12_offer_21 kX12_finds vX12_finds lX12_200 (hT.k 79 rfl) rfl rfl rfl rfl rfl (by omega) (Nat.le_refl _) (Nat.le_refl _) (qX12_finds (d + 1) hT (-1000001) ) ?_
      exact J.iretQ dX12_offer_24 rfl (Nat.le_refl _) (Nat.le_refl _) h
set_option maxHeartbeats 4000000 in
set_option maxRecDepth 100000 in
theorem wX12_offer (d : Nat) {T : Topo} (hT : Lay T) (a1 : Int32) (a2 : Int32)   {Q : Int32 → Topo → IM → Prop} {I : IM} (h : fX12_offer_0 T a1 a2 Q I) : Ct (d + 2) mX12_offer [.ref 79, .int a1, .int a2] T I 0 0 (PI Q) :=
  Ct.ofJ (by decide +kernel) rfl (by intro v hv; revert v hv; simp [Value.category]) rfl (sX12_offer_0 d hT a1 a2   I h)

def jX12_offer (I : IM) (a1 : Int32) (a2 : Int32) : Int32 := (if wi a1 0 (I 79 2 - 1) then (if wi a2 1 100 then (if ((I 101 a1.toNatClampNeg) + a2) ≤ 1000 then ((I 101 a1.toNatClampNeg) + a2) else (jX12_finds (-1000002))) else (jX12_finds (-1000001))) else (jX12_finds (-1000001)))
def jX12_offerM (I : IM) (a1 : Int32) (a2 : Int32) : IM := (if wi a1 0 (I 79 2 - 1) then (if wi a2 1 100 then (if ((I 101 a1.toNatClampNeg) + a2) ≤ 1000 then (up2 I 101 a1.toNatClampNeg ((I 101 a1.toNatClampNeg) + a2)) else (jX12_findsM I)) else (jX12_findsM I)) else (jX12_findsM I))
def jX12_offerK (I : IM) (a1 : Int32) (a2 : Int32) : Prop := (((¬ (wi a1 0 (I 79 2 - 1))) → True) ∧ ((wi a1 0 (I 79 2 - 1)) → (((wi a2 1 100) → (vp_in a1 8 ∧ (((((I 101 a1.toNatClampNeg) + a2) ≤ 1000) → (vp_in a1 8 ∧ (vp_in a1 8 ∧ vp_in a1 8))) ∧ ((¬ ((I 101 a1.toNatClampNeg) + a2) ≤ 1000) → True)))) ∧ ((¬ (wi a2 1 100)) → True))))
set_option maxRecDepth 10000 in
theorem qX12_offer (d : Nat) {T : Topo} {I : IM} (hT : Lay T) (a1 : Int32) (a2 : Int32)  (hp : (jX12_offerK I a1 a2)) : CtI (d + 2) mX12_offer [.ref 79, .int a1, .int a2] T I (fun x_ J_ => x_ = (jX12_offer I a1 a2) ∧ J_ = (jX12_offerM I a1 a2)) :=
  wX12_offer d hT a1 a2   (by
  unfold fX12_offer_0
  exact ⟨fun hc1 => ⟨rfl, by unfold jX12_offer; rw [if_neg hc1], by unfold jX12_offerM; rw [if_neg hc1]⟩, fun hc1 => ⟨fun hc2 => ⟨(((hp).2 hc1).1 hc2).1, ⟨fun hc3 => ⟨(((((hp).2 hc1).1 hc2).2).1 hc3).1, ⟨((((((hp).2 hc1).1 hc2).2).1 hc3).2).1, ⟨((((((hp).2 hc1).1 hc2).2).1 hc3).2).2, ⟨rfl, by unfold jX12_offer; rw [if_pos hc1, if_pos hc2, if_pos hc3], by unfold jX12_offerM; rw [if_pos hc1, if_pos hc2, if_pos hc3]⟩⟩⟩⟩, fun hc3 => ⟨rfl, by unfold jX12_offer; rw [if_pos hc1, if_pos hc2, if_neg hc3], by unfold jX12_offerM; rw [if_pos hc1, if_pos hc2, if_neg hc3]⟩⟩⟩, fun hc2 => ⟨rfl, by unfold jX12_offer; rw [if_pos hc1, if_neg hc2], by unfold jX12_offerM; rw [if_pos hc1, if_neg hc2]⟩⟩⟩)

def fX12_leftIn_0 (T : Topo) (a1 : Int32) (Q : Int32 → Topo → IM → Prop) (K5 : Int32 → Int32 → IM → Prop) (I : IM) : Prop :=
  K5 50 0 I
def fX12_leftIn_5 (T : Topo) (a1 : Int32) (Q : Int32 → Topo → IM → Prop) (K5 : Int32 → Int32 → IM → Prop) (v2 v3 : Int32) (I : IM) : Prop :=
  ((((I 79 1) ≤ v3) → Q v2 T I) ∧ ((¬ (I 79 1) ≤ v3) → ((((¬ (hs a1 v3)) → K5 v2 (v3 + 1) I) ∧ ((hs a1 v3) → (vp_in v3 9 ∧ (vp_in v3 9 ∧ (((v2 ≤ ((I 83 v3.toNatClampNeg) - (I 87 v3.toNatClampNeg))) → K5 v2 (v3 + 1) I) ∧ ((¬ v2 ≤ ((I 83 v3.toNatClampNeg) - (I 87 v3.toNatClampNeg))) → (vp_in v3 9 ∧ (vp_in v3 9 ∧ K5 ((I 83 v3.toNatClampNeg) - (I 87 v3.toNatClampNeg)) (v3 + 1) I)))))))))))
set_option maxHeartbeats 4000000 in
set_option maxRecDepth 100000 in
theorem sX12_leftIn_0 (d : Nat) {T : Topo} (hT : Lay T) (a1 : Int32)    {Q : Int32 → Topo → IM → Prop} {K5 : Int32 → Int32 → IM → Prop} (hK5 : ∀ (v2 v3 : Int32) (I : IM), K5 v2 v3 I → J (d + 1) mX12_leftIn (PI Q) 0 0 5 [some (.ref 79), some (.int a1), some (.int v2), some (.int v3)] [] T I 0 0) (I : IM) (h : fX12_leftIn_0 T a1 Q K5 I) : J (d + 1) mX12_leftIn (PI Q) 0 0 0 [some (.ref 79), some (.int a1), none, none] [] T I 0 0 := by
  unfold fX12_leftIn_0 at h
  refine J.bipush (v := 50) dX12_leftIn_0 (by decide) ?_
  refine J.istore_n (ls' := [some (.ref 79), some (.int a1), some (.int 50), none]) dX12_leftIn_2 rfl rfl rfl ?_
  refine J.iconst (v := 0) dX12_leftIn_3 (by decide) ?_
  refine J.istore_n (ls' := [some (.ref 79), some (.int a1), some (.int 50), some (.int 0)]) dX12_leftIn_4 rfl rfl rfl ?_
  exact J.weaken (ls' := [some (.ref 79), some (.int a1), some (.int 50), some (.int 0)]) (And.intro rfl (And.intro rfl (And.intro rfl (And.intro rfl trivial)))) (hK5 50 0 I h)
set_option maxHeartbeats 4000000 in
set_option maxRecDepth 100000 in
theorem sX12_leftIn_5 (d : Nat) {T : Topo} (hT : Lay T) (a1 : Int32)    {Q : Int32 → Topo → IM → Prop} {K5 : Int32 → Int32 → IM → Prop} (hK5 : ∀ (v2 v3 : Int32) (I : IM), K5 v2 v3 I → J (d + 1) mX12_leftIn (PI Q) 0 0 5 [some (.ref 79), some (.int a1), some (.int v2), some (.int v3)] [] T I 0 0) (v2 v3 : Int32) (I : IM) (h : fX12_leftIn_5 T a1 Q K5 v2 v3 I) : J (d + 1) mX12_leftIn (PI Q) 0 0 5 [some (.ref 79), some (.int a1), some (.int v2), some (.int v3)] [] T I 0 0 := by
  unfold fX12_leftIn_5 at h
  refine J.iload_n dX12_leftIn_5 rfl rfl ?_
  refine J.aload_n dX12_leftIn_6 rfl rfl ?_
  refine J.getI dX12_leftIn_7 fX12_193 (hT.k 79 rfl) rfl ?_
  refine J.icmp_ge (tgt := 58) dX12_leftIn_10 (by decide) (fun hc1 => ?_) (fun hc1 => ?_)
  · have h := h.1 hc1
    refine J.iload_n dX12_leftIn_58 rfl rfl ?_
    exact J.iretQ dX12_leftIn_59 rfl (Nat.le_refl _) (Nat.le_refl _) h
  · have h := h.2 hc1
    refine J.iload_n dX12_leftIn_13 rfl rfl ?_
    refine J.iload_n dX12_leftIn_14 rfl rfl ?_
    refine J.callSP (as := [.int a1, .int v3]) (rest := []) dX12_leftIn_15 kX12_has vX12_has lX12_212 rfl rfl rfl (by omega) (Nat.le_refl _) (Nat.le_refl _) (qX12_has (d + 0) hT a1 v3 ) ?_
    refine J.bz_eq (tgt := 52) dX12_leftIn_18 (by decide) (fun hc2 => ?_) (fun hc2 => ?_)
    · have h := h.1 hc2
      refine J.iinc (v := (v3 + 1)) (ls' := [some (.ref 79), some (.int a1), some (.int v2), some (.int (v3 + 1))]) dX12_leftIn_52 rfl (by rfl) rfl ?_
      refine J.goto (tgt := 5) dX12_leftIn_55 (by decide) ?_
      exact J.weaken (ls' := [some (.ref 79), some (.int a1), some (.int v2), some (.int (v3 + 1))]) (And.intro rfl (And.intro rfl (And.intro rfl (And.intro rfl trivial)))) (hK5 v2 (v3 + 1) I h)
    · have h := h.2 hc2
      refine J.aload_n dX12_leftIn_21 rfl rfl ?_
      refine J.getR (r := 83) dX12_leftIn_22 fX12_23 (hT.k 79 rfl) rfl (hT.r 79 12 rfl rfl) ?_
      refine J.iload_n dX12_leftIn_25 rfl rfl ?_
      obtain ⟨hs3, h⟩ := h
      refine J.iald dX12_leftIn_26 (hT.k 83 rfl) (hT.l 83 rfl) hs3 ?_
      refine J.aload_n dX12_leftIn_27 rfl rfl ?_
      refine J.getR (r := 87) dX12_leftIn_28 fX12_35 (hT.k 79 rfl) rfl (hT.r 79 16 rfl rfl) ?_
      refine J.iload_n dX12_leftIn_31 rfl rfl ?_
      obtain ⟨hs4, h⟩ := h
      refine J.iald dX12_leftIn_32 (hT.k 87 rfl) (hT.l 87 rfl) hs4 ?_
      refine J.isub dX12_leftIn_33 ?_
      refine J.iload_n dX12_leftIn_34 rfl rfl ?_
      refine J.icmp_ge (tgt := 52) dX12_leftIn_35 (by decide) (fun hc5 => ?_) (fun hc5 => ?_)
      · have h := h.1 hc5
        refine J.iinc (v := (v3 + 1)) (ls' := [some (.ref 79), some (.int a1), some (.int v2), some (.int (v3 + 1))]) dX12_leftIn_52 rfl (by rfl) rfl ?_
        refine J.goto (tgt := 5) dX12_leftIn_55 (by decide) ?_
        exact J.weaken (ls' := [some (.ref 79), some (.int a1), some (.int v2), some (.int (v3 + 1))]) (And.intro rfl (And.intro rfl (And.intro rfl (And.intro rfl trivial)))) (hK5 v2 (v3 + 1) I h)
      · have h := h.2 hc5
        refine J.aload_n dX12_leftIn_38 rfl rfl ?_
        refine J.getR (r := 83) dX12_leftIn_39 fX12_23 (hT.k 79 rfl) rfl (hT.r 79 12 rfl rfl) ?_
        refine J.iload_n dX12_leftIn_42 rfl rfl ?_
        obtain ⟨hs6, h⟩ := h
        refine J.iald dX12_leftIn_43 (hT.k 83 rfl) (hT.l 83 rfl) hs6 ?_
        refine J.aload_n dX12_leftIn_44 rfl rfl ?_
        refine J.getR (r := 87) dX12_leftIn_45 fX12_35 (hT.k 79 rfl) rfl (hT.r 79 16 rfl rfl) ?_
        refine J.iload_n dX12_leftIn_48 rfl rfl ?_
        obtain ⟨hs7, h⟩ := h
        refine J.iald dX12_leftIn_49 (hT.k 87 rfl) (hT.l 87 rfl) hs7 ?_
        refine J.isub dX12_leftIn_50 ?_
        refine J.istore_n (ls' := [some (.ref 79), some (.int a1), some (.int ((I 83 v3.toNatClampNeg) - (I 87 v3.toNatClampNeg))), some (.int v3)]) dX12_leftIn_51 rfl rfl rfl ?_
        refine J.iinc (v := (v3 + 1)) (ls' := [some (.ref 79), some (.int a1), some (.int ((I 83 v3.toNatClampNeg) - (I 87 v3.toNatClampNeg))), some (.int (v3 + 1))]) dX12_leftIn_52 rfl (by rfl) rfl ?_
        refine J.goto (tgt := 5) dX12_leftIn_55 (by decide) ?_
        exact J.weaken (ls' := [some (.ref 79), some (.int a1), some (.int ((I 83 v3.toNatClampNeg) - (I 87 v3.toNatClampNeg))), some (.int (v3 + 1))]) (And.intro rfl (And.intro rfl (And.intro rfl (And.intro rfl trivial)))) (hK5 ((I 83 v3.toNatClampNeg) - (I 87 v3.toNatClampNeg)) (v3 + 1) I h)
set_option maxHeartbeats 4000000 in
set_option maxRecDepth 100000 in
theorem wX12_leftIn (d : Nat) {T : Topo} (hT : Lay T) (a1 : Int32)   {Q : Int32 → Topo → IM → Prop} (V5 : Int32 → Int32 → IM → Prop) (μ5 : Int32 → Int32 → IM → Nat) (vc5 : ∀ (v2 v3 : Int32) (I : IM), V5 v2 v3 I → fX12_leftIn_5 T a1 Q (fun w2 w3 I_ => V5 w2 w3 I_ ∧ μ5 w2 w3 I_ < μ5 v2 v3 I) v2 v3 I) {I : IM} (h : fX12_leftIn_0 T a1 Q V5 I) : Ct (d + 1) mX12_leftIn [.ref 79, .int a1] T I 0 0 (PI Q) := by
  have all : ∀ n : Nat, (∀ (v2 v3 : Int32) (I : IM), V5 v2 v3 I → μ5 v2 v3 I < n → J (d + 1) mX12_leftIn (PI Q) 0 0 5 [some (.ref 79), some (.int a1), some (.int v2), some (.int v3)] [] T I 0 0) := by
    intro n
    induction n with
    | zero => exact fun _ _ _ _ hn => absurd hn (Nat.not_lt_zero _)
    | succ n ih =>
      exact fun v2 v3 I hv hn => sX12_leftIn_5 d hT a1   (fun w2 w3 I_ hw => ih w2 w3 I_ hw.1 (by have := hw.2; omega)) v2 v3 I (vc5 v2 v3 I hv)
  exact Ct.ofJ (by decide +kernel) rfl (by intro v hv; revert v hv; simp [Value.category]) rfl (sX12_leftIn_0 d hT a1   (fun w2 w3 I_ hw => (all (μ5 w2 w3 I_ + 1)) w2 w3 I_ hw (Nat.lt_succ_self _)) I h)

def jX12_leftInI (a1 : Int32) : Nat → Int32 → Int32 → IM → Int32
  | 0 => fun _ _ I => 0
  | n + 1 => fun v2 v3 I => (if (I 79 1) ≤ v3 then v2 else (if hs a1 v3 then (if v2 ≤ ((I 83 v3.toNatClampNeg) - (I 87 v3.toNatClampNeg)) then (jX12_leftInI a1 n v2 (v3 + 1) I) else (jX12_leftInI a1 n ((I 83 v3.toNatClampNeg) - (I 87 v3.toNatClampNeg)) (v3 + 1) I)) else (jX12_leftInI a1 n v2 (v3 + 1) I)))
def jX12_leftInO (a1 : Int32) : Nat → Int32 → Int32 → IM → Prop
  | 0 => fun _ _ _ => False
  | n + 1 => fun v2 v3 I => ((((I 79 1) ≤ v3) → True) ∧ ((¬ (I 79 1) ≤ v3) → (((¬ (hs a1 v3)) → (jX12_leftInO a1 n v2 (v3 + 1) I)) ∧ ((hs a1 v3) → (vp_in v3 9 ∧ (vp_in v3 9 ∧ (((v2 ≤ ((I 83 v3.toNatClampNeg) - (I 87 v3.toNatClampNeg))) → (jX12_leftInO a1 n v2 (v3 + 1) I)) ∧ ((¬ v2 ≤ ((I 83 v3.toNatClampNeg) - (I 87 v3.toNatClampNeg))) → (vp_in v3 9 ∧ (vp_in v3 9 ∧ (jX12_leftInO a1 n ((I 83 v3.toNatClampNeg) - (I 87 v3.toNatClampNeg)) (v3 + 1) I)))))))))))
theorem jX12_leftInI_5 (a1 : Int32) (n : Nat) (v2 v3 : Int32) (I : IM) : jX12_leftInI a1 (n + 1) v2 v3 I = (if (I 79 1) ≤ v3 then v2 else (if hs a1 v3 then (if v2 ≤ ((I 83 v3.toNatClampNeg) - (I 87 v3.toNatClampNeg)) then (jX12_leftInI a1 n v2 (v3 + 1) I) else (jX12_leftInI a1 n ((I 83 v3.toNatClampNeg) - (I 87 v3.toNatClampNeg)) (v3 + 1) I)) else (jX12_leftInI a1 n v2 (v3 + 1) I))) := rfl
theorem jX12_leftInO_5 (a1 : Int32) (n : Nat) (v2 v3 : Int32) (I : IM) : jX12_leftInO a1 (n + 1) v2 v3 I = ((((I 79 1) ≤ v3) → True) ∧ ((¬ (I 79 1) ≤ v3) → (((¬ (hs a1 v3)) → (jX12_leftInO a1 n v2 (v3 + 1) I)) ∧ ((hs a1 v3) → (vp_in v3 9 ∧ (vp_in v3 9 ∧ (((v2 ≤ ((I 83 v3.toNatClampNeg) - (I 87 v3.toNatClampNeg))) → (jX12_leftInO a1 n v2 (v3 + 1) I)) ∧ ((¬ v2 ≤ ((I 83 v3.toNatClampNeg) - (I 87 v3.toNatClampNeg))) → (vp_in v3 9 ∧ (vp_in v3 9 ∧ (jX12_leftInO a1 n ((I 83 v3.toNatClampNeg) - (I 87 v3.toNatClampNeg)) (v3 + 1) I))))))))))) := rfl
def jX12_leftIn (I : IM) (a1 : Int32) : Int32 := (jX12_leftInI a1 FU 50 0 I)
def jX12_leftInK (I : IM) (a1 : Int32) : Prop := (jX12_leftInO a1 FU 50 0 I)
set_option maxRecDepth 10000 in
set_option maxHeartbeats 1000000 in
theorem uX12_leftIn (d : Nat) {T : Topo} (hT : Lay T) (a1 : Int32)   {R : Int32} {I00 : IM} : ∀ n : Nat, (∀ (v2 v3 : Int32) (I : IM), I = I00 → jX12_leftInO a1 n v2 v3 I → jX12_leftInI a1 n v2 v3 I = R → J (d + 1) mX12_leftIn (PI (fun x T' I' => x = R ∧ T' = T ∧ I' = I00)) 0 0 5 [some (.ref 79), some (.int a1), some (.int v2), some (.int v3)] [] T I 0 0) := by
  intro n
  induction n with
  | zero => exact fun _ _ _ _ hz => hz.elim
  | succ n ih =>
    exact fun v2 v3 I hI hok hit => by
        rw [jX12_leftInO_5] at hok
        exact sX12_leftIn_5 d hT a1   (K5 := fun w2 w3 I_ => (jX12_leftInO a1 n w2 w3 I_ ∧ jX12_leftInI a1 n w2 w3 I_ = R) ∧ I_ = I00) (fun w2 w3 I_ hw => ih w2 w3 I_ hw.2 hw.1.1 hw.1.2) v2 v3 I (by
          unfold fX12_leftIn_5
          exact ⟨fun hc1 => ⟨by rw [jX12_leftInI_5, if_pos hc1] at hit; exact hit, rfl, hI⟩, fun hc1 => ⟨fun hc2 => ⟨⟨((hok).2 hc1).1 hc2, by rw [jX12_leftInI_5, if_neg hc1, if_neg hc2] at hit; exact hit⟩, hI⟩, fun hc2 => ⟨(((hok).2 hc1).2 hc2).1, ⟨((((hok).2 hc1).2 hc2).2).1, ⟨fun hc3 => ⟨⟨(((((hok).2 hc1).2 hc2).2).2).1 hc3, by rw [jX12_leftInI_5, if_neg hc1, if_pos hc2, if_pos hc3] at hit; exact hit⟩, hI⟩, fun hc3 => ⟨((((((hok).2 hc1).2 hc2).2).2).2 hc3).1, ⟨(((((((hok).2 hc1).2 hc2).2).2).2 hc3).2).1, ⟨⟨(((((((hok).2 hc1).2 hc2).2).2).2 hc3).2).2, by rw [jX12_leftInI_5, if_neg hc1, if_pos hc2, if_neg hc3] at hit; exact hit⟩, hI⟩⟩⟩⟩⟩⟩⟩⟩)
set_option maxRecDepth 10000 in
set_option maxHeartbeats 1000000 in
theorem qX12_leftIn (d : Nat) {T : Topo} {I : IM} (hT : Lay T) (a1 : Int32)  (hp : (jX12_leftInK I a1)) : CtP (d + 1) mX12_leftIn [.ref 79, .int a1] T I (jX12_leftIn I a1) := by
  unfold jX12_leftInK at hp
  exact Ct.ofJ (by decide +kernel) rfl (by intro v hv; revert v hv; simp [Value.category]) rfl (sX12_leftIn_0 d hT a1   (K5 := fun w2 w3 I_ => (jX12_leftInO a1 FU w2 w3 I_ ∧ jX12_leftInI a1 FU w2 w3 I_ = (jX12_leftIn I a1)) ∧ I_ = I) (fun w2 w3 I_ hw => uX12_leftIn d hT a1   FU w2 w3 I_ hw.2 hw.1.1 hw.1.2) I (by
    unfold fX12_leftIn_0
    exact ⟨⟨hp, rfl⟩, rfl⟩))

def fX12_passes_0 (T : Topo) (a1 : Int32) (a2 : Int32) (a3 : Int32) (Q : Topo → IM → Prop) (K6 : Int32 → Int32 → IM → Prop) (I : IM) : Prop :=
  K6 0 0 I
def fX12_passes_6 (T : Topo) (a1 : Int32) (a2 : Int32) (a3 : Int32) (Q : Topo → IM → Prop) (K6 : Int32 → Int32 → IM → Prop) (v4 v5 : Int32) (I : IM) : Prop :=
  ((((I 79 1) ≤ v5) → (vp_in a1 8 ∧ (vp_in a1 8 ∧ (vp_in a1 8 ∧ (vp_in a1 8 ∧ (vp_in a1 8 ∧ (vp_in a1 8 ∧ (vp_in a1 8 ∧ (vp_in a1 8 ∧ Q T (up2 (up2 (up2 (up2 (up2 (up2 I 101 a1.toNatClampNeg ((I 101 a1.toNatClampNeg) - a3)) 102 a1.toNatClampNeg ((I 102 a1.toNatClampNeg) + a3)) 105 a1.toNatClampNeg ((I 105 a1.toNatClampNeg) + a3)) 104 a1.toNatClampNeg ((I 104 a1.toNatClampNeg) + (a3 * v4))) 79 6 ((I 79 6) + a3)) 79 7 ((I 79 7) + (a3 * v4)))))))))))) ∧ ((¬ (I 79 1) ≤ v5) → ((((hs a2 v5) → (vp_in v5 9 ∧ (vp_in v5 9 ∧ (vp_in v5 9 ∧ (vp_in v5 9 ∧ (vp_in v5 9 ∧ (vp_in v5 9 ∧ (vp_in v5 9 ∧ (vp_in v5 9 ∧ K6 (v4 + (I 85 v5.toNatClampNeg)) (v5 + 1) (up2 (up2 (up2 I 86 v5.toNatClampNeg ((I 86 v5.toNatClampNeg) + a3)) 87 v5.toNatClampNeg ((I 87 v5.toNatClampNeg) + a3)) 88 v5.toNatClampNeg ((I 88 v5.toNatClampNeg) + (a3 * (I 85 v5.toNatClampNeg))))))))))))) ∧ ((¬ (hs a2 v5)) → K6 v4 (v5 + 1) I)))))
set_option maxHeartbeats 4000000 in
set_option maxRecDepth 100000 in
theorem sX12_passes_0 (d : Nat) {T : Topo} (hT : Lay T) (a1 : Int32) (a2 : Int32) (a3 : Int32)    {Q : Topo → IM → Prop} {K6 : Int32 → Int32 → IM → Prop} (hK6 : ∀ (v4 v5 : Int32) (I : IM), K6 v4 v5 I → J (d + 1) mX12_passes (PV Q) 0 0 6 [some (.ref 79), some (.int a1), some (.int a2), some (.int a3), some (.int v4), some (.int v5)] [] T I 0 0) (I : IM) (h : fX12_passes_0 T a1 a2 a3 Q K6 I) : J (d + 1) mX12_passes (PV Q) 0 0 0 [some (.ref 79), some (.int a1), some (.int a2), some (.int a3), none, none] [] T I 0 0 := by
  unfold fX12_passes_0 at h
  refine J.iconst (v := 0) dX12_passes_0 (by decide) ?_
  refine J.istore (ls' := [some (.ref 79), some (.int a1), some (.int a2), some (.int a3), some (.int 0), none]) dX12_passes_1 rfl rfl ?_
  refine J.iconst (v := 0) dX12_passes_3 (by decide) ?_
  refine J.istore (ls' := [some (.ref 79), some (.int a1), some (.int a2), some (.int a3), some (.int 0), some (.int 0)]) dX12_passes_4 rfl rfl ?_
  exact J.weaken (ls' := [some (.ref 79), some (.int a1), some (.int a2), some (.int a3), some (.int 0), some (.int 0)]) (And.intro rfl (And.intro rfl (And.intro rfl (And.intro rfl (And.intro rfl (And.intro rfl trivial)))))) (hK6 0 0 I h)
set_option maxHeartbeats 4000000 in
set_option maxRecDepth 100000 in
theorem sX12_passes_6 (d : Nat) {T : Topo} (hT : Lay T) (a1 : Int32) (a2 : Int32) (a3 : Int32)    {Q : Topo → IM → Prop} {K6 : Int32 → Int32 → IM → Prop} (hK6 : ∀ (v4 v5 : Int32) (I : IM), K6 v4 v5 I → J (d + 1) mX12_passes (PV Q) 0 0 6 [some (.ref 79), some (.int a1), some (.int a2), some (.int a3), some (.int v4), some (.int v5)] [] T I 0 0) (v4 v5 : Int32) (I : IM) (h : fX12_passes_6 T a1 a2 a3 Q K6 v4 v5 I) : J (d + 1) mX12_passes (PV Q) 0 0 6 [some (.ref 79), some (.int a1), some (.int a2), some (.int a3), some (.int v4), some (.int v5)] [] T I 0 0 := by
  unfold fX12_passes_6 at h
  refine J.iload dX12_passes_6 rfl ?_
  refine J.aload_n dX12_passes_8 rfl rfl ?_
  refine J.getI dX12_passes_9 fX12_193 (hT.k 79 rfl) rfl ?_
  refine J.icmp_ge (tgt := 86) dX12_passes_12 (by decide) (fun hc1 => ?_) (fun hc1 => ?_)
  · have h := h.1 hc1
    refine J.aload_n dX12_passes_86 rfl rfl ?_
    refine J.getR (r := 101) dX12_passes_87 fX12_78 (hT.k 79 rfl) rfl (hT.r 79 30 rfl rfl) ?_
    refine J.iload_n dX12_passes_90 rfl rfl ?_
    refine J.dup2 dX12_passes_91 rfl rfl ?_
    obtain ⟨hs2, h⟩ := h
    refine J.iald dX12_passes_92 (hT.k 101 rfl) (hT.l 101 rfl) hs2 ?_
    refine J.iload_n dX12_passes_93 rfl rfl ?_
    refine J.isub dX12_passes_94 ?_
    obtain ⟨hs3, h⟩ := h
    refine J.iast dX12_passes_95 (hT.k 101 rfl) (hT.l 101 rfl) hs3 ?_
    refine J.aload_n dX12_passes_96 rfl rfl ?_
    refine J.getR (r := 102) dX12_passes_97 fX12_81 (hT.k 79 rfl) rfl (hT.r 79 31 rfl rfl) ?_
    refine J.iload_n dX12_passes_100 rfl rfl ?_
    refine J.dup2 dX12_passes_101 rfl rfl ?_
    obtain ⟨hs4, h⟩ := h
    refine J.iald dX12_passes_102 (hT.k 102 rfl) (hT.l 102 rfl) hs4 ?_
    refine J.topEq (y := (I 102 a1.toNatClampNeg)) (up2_o _ _ _ _ (by decide)) ?_
    refine J.iload_n dX12_passes_103 rfl rfl ?_
    refine J.iadd dX12_passes_104 ?_
    obtain ⟨hs5, h⟩ := h
    refine J.iast dX12_passes_105 (hT.k 102 rfl) (hT.l 102 rfl) hs5 ?_
    refine J.aload_n dX12_passes_106 rfl rfl ?_
    refine J.getR (r := 105) dX12_passes_107 fX12_90 (hT.k 79 rfl) rfl (hT.r 79 34 rfl rfl) ?_
    refine J.iload_n dX12_passes_110 rfl rfl ?_
    refine J.dup2 dX12_passes_111 rfl rfl ?_
    obtain ⟨hs6, h⟩ := h
    refine J.iald dX12_passes_112 (hT.k 105 rfl) (hT.l 105 rfl) hs6 ?_
    refine J.topEq (y := (I 105 a1.toNatClampNeg)) (Eq.trans (up2_o _ _ _ _ (by decide)) (up2_o _ _ _ _ (by decide))) ?_
    refine J.iload_n dX12_passes_113 rfl rfl ?_
    refine J.iadd dX12_passes_114 ?_
    obtain ⟨hs7, h⟩ := h
    refine J.iast dX12_passes_115 (hT.k 105 rfl) (hT.l 105 rfl) hs7 ?_
    refine J.aload_n dX12_passes_116 rfl rfl ?_
    refine J.getR (r := 104) dX12_passes_117 fX12_87 (hT.k 79 rfl) rfl (hT.r 79 33 rfl rfl) ?_
    refine J.iload_n dX12_passes_120 rfl rfl ?_
    refine J.dup2 dX12_passes_121 rfl rfl ?_
    obtain ⟨hs8, h⟩ := h
    refine J.iald dX12_passes_122 (hT.k 104 rfl) (hT.l 104 rfl) hs8 ?_
    refine J.topEq (y := (I 104 a1.toNatClampNeg)) (Eq.trans (up2_o _ _ _ _ (by decide)) (Eq.trans (up2_o _ _ _ _ (by decide)) (up2_o _ _ _ _ (by decide)))) ?_
    refine J.iload_n dX12_passes_123 rfl rfl ?_
    refine J.iload dX12_passes_124 rfl ?_
    refine J.imul dX12_passes_126 ?_
    refine J.iadd dX12_passes_127 ?_
    obtain ⟨hs9, h⟩ := h
    refine J.iast dX12_passes_128 (hT.k 104 rfl) (hT.l 104 rfl) hs9 ?_
    refine J.aload_n dX12_passes_129 rfl rfl ?_
    refine J.dup dX12_passes_130 rfl ?_
    refine J.getI dX12_passes_131 fX12_329 (hT.k 79 rfl) rfl ?_
    refine J.topEq (y := (I 79 6)) (Eq.trans (up2_o _ _ _ _ (by decide)) (Eq.trans (up2_o _ _ _ _ (by decide)) (Eq.trans (up2_o _ _ _ _ (by decide)) (up2_o _ _ _ _ (by decide))))) ?_
    refine J.iload_n dX12_passes_134 rfl rfl ?_
    refine J.iadd dX12_passes_135 ?_
    refine J.putI dX12_passes_136 fX12_329 (hT.k 79 rfl) rfl ?_
    refine J.aload_n dX12_passes_139 rfl rfl ?_
    refine J.atpc (pc' := 140) rfl ?_
    refine J.dup dX12_passes_140 rfl ?_
    refine J.getI dX12_passes_141 fX12_332 (hT.k 79 rfl) rfl ?_
    refine J.topEq (y := (I 79 7)) (Eq.trans (up2_sj _ _ _ (by decide)) (Eq.trans (up2_o _ _ _ _ (by decide)) (Eq.trans (up2_o _ _ _ _ (by decide)) (Eq.trans (up2_o _ _ _ _ (by decide)) (up2_o _ _ _ _ (by decide)))))) ?_
    refine J.iload_n dX12_passes_144 rfl rfl ?_
    refine J.iload dX12_passes_145 rfl ?_
    refine J.imul dX12_passes_147 ?_
    refine J.iadd dX12_passes_148 ?_
    refine J.putI dX12_passes_149 fX12_332 (hT.k 79 rfl) rfl ?_
    exact J.vretQ dX12_passes_152 rfl (Nat.le_refl _) (Nat.le_refl _) h
  · have h := h.2 hc1
    refine J.iload_n dX12_passes_15 rfl rfl ?_
    refine J.iload dX12_passes_16 rfl ?_
    refine J.callSP (as := [.int a2, .int v5]) (rest := []) dX12_passes_18 kX12_has vX12_has lX12_212 rfl rfl rfl (by omega) (Nat.le_refl _) (Nat.le_refl _) (qX12_has (d + 0) hT a2 v5 ) ?_
    refine J.bz_ne (tgt := 27) dX12_passes_21 (by decide) (fun hc10 => ?_) (fun hc10 => ?_)
    · have h := h.1 hc10
      refine J.aload_n dX12_passes_27 rfl rfl ?_
      refine J.getR (r := 86) dX12_passes_28 fX12_32 (hT.k 79 rfl) rfl (hT.r 79 15 rfl rfl) ?_
      refine J.iload dX12_passes_31 rfl ?_
      refine J.dup2 dX12_passes_33 rfl rfl ?_
      obtain ⟨hs11, h⟩ := h
      refine J.iald dX12_passes_34 (hT.k 86 rfl) (hT.l 86 rfl) hs11 ?_
      refine J.iload_n dX12_passes_35 rfl rfl ?_
      refine J.iadd dX12_passes_36 ?_
      obtain ⟨hs12, h⟩ := h
      refine J.iast dX12_passes_37 (hT.k 86 rfl) (hT.l 86 rfl) hs12 ?_
      refine J.aload_n dX12_passes_38 rfl rfl ?_
      refine J.getR (r := 87) dX12_passes_39 fX12_35 (hT.k 79 rfl) rfl (hT.r 79 16 rfl rfl) ?_
      refine J.iload dX12_passes_42 rfl ?_
      refine J.dup2 dX12_passes_44 rfl rfl ?_
      obtain ⟨hs13, h⟩ := h
      refine J.iald dX12_passes_45 (hT.k 87 rfl) (hT.l 87 rfl) hs13 ?_
      refine J.topEq (y := (I 87 v5.toNatClampNeg)) (up2_o _ _ _ _ (by decide)) ?_
      refine J.iload_n dX12_passes_46 rfl rfl ?_
      refine J.iadd dX12_passes_47 ?_
      obtain ⟨hs14, h⟩ := h
      refine J.iast dX12_passes_48 (hT.k 87 rfl) (hT.l 87 rfl) hs14 ?_
      refine J.aload_n dX12_passes_49 rfl rfl ?_
      refine J.getR (r := 88) dX12_passes_50 fX12_38 (hT.k 79 rfl) rfl (hT.r 79 17 rfl rfl) ?_
      refine J.iload dX12_passes_53 rfl ?_
      refine J.dup2 dX12_passes_55 rfl rfl ?_
      obtain ⟨hs15, h⟩ := h
      refine J.iald dX12_passes_56 (hT.k 88 rfl) (hT.l 88 rfl) hs15 ?_
      refine J.topEq (y := (I 88 v5.toNatClampNeg)) (Eq.trans (up2_o _ _ _ _ (by decide)) (up2_o _ _ _ _ (by decide))) ?_
      refine J.iload_n dX12_passes_57 rfl rfl ?_
      refine J.aload_n dX12_passes_58 rfl rfl ?_
      refine J.getR (r := 85) dX12_passes_59 fX12_29 (hT.k 79 rfl) rfl (hT.r 79 14 rfl rfl) ?_
      refine J.iload dX12_passes_62 rfl ?_
      obtain ⟨hs16, h⟩ := h
      refine J.iald dX12_passes_64 (hT.k 85 rfl) (hT.l 85 rfl) hs16 ?_
      refine J.topEq (y := (I 85 v5.toNatClampNeg)) (Eq.trans (up2_o _ _ _ _ (by decide)) (up2_o _ _ _ _ (by decide))) ?_
      refine J.imul dX12_passes_65 ?_
      refine J.iadd dX12_passes_66 ?_
      obtain ⟨hs17, h⟩ := h
      refine J.iast dX12_passes_67 (hT.k 88 rfl) (hT.l 88 rfl) hs17 ?_
      refine J.iload dX12_passes_68 rfl ?_
      refine J.aload_n dX12_passes_70 rfl rfl ?_
      refine J.getR (r := 85) dX12_passes_71 fX12_29 (hT.k 79 rfl) rfl (hT.r 79 14 rfl rfl) ?_
      refine J.iload dX12_passes_74 rfl ?_
      obtain ⟨hs18, h⟩ := h
      refine J.iald dX12_passes_76 (hT.k 85 rfl) (hT.l 85 rfl) hs18 ?_
      refine J.topEq (y := (I 85 v5.toNatClampNeg)) (Eq.trans (up2_o _ _ _ _ (by decide)) (Eq.trans (up2_o _ _ _ _ (by decide)) (up2_o _ _ _ _ (by decide)))) ?_
      refine J.iadd dX12_passes_77 ?_
      refine J.istore (ls' := [some (.ref 79), some (.int a1), some (.int a2), some (.int a3), some (.int (v4 + (I 85 v5.toNatClampNeg))), some (.int v5)]) dX12_passes_78 rfl rfl ?_
      refine J.iinc (v := (v5 + 1)) (ls' := [some (.ref 79), some (.int a1), some (.int a2), some (.int a3), some (.int (v4 + (I 85 v5.toNatClampNeg))), some (.int (v5 + 1))]) dX12_passes_80 rfl (by rfl) rfl ?_
      refine J.goto (tgt := 6) dX12_passes_83 (by decide) ?_
      exact J.weaken (ls' := [some (.ref 79), some (.int a1), some (.int a2), some (.int a3), some (.int (v4 + (I 85 v5.toNatClampNeg))), some (.int (v5 + 1))]) (And.intro rfl (And.intro rfl (And.intro rfl (And.intro rfl (And.intro rfl (And.intro rfl trivial)))))) (hK6 (v4 + (I 85 v5.toNatClampNeg)) (v5 + 1) (up2 (up2 (up2 I 86 v5.toNatClampNeg ((I 86 v5.toNatClampNeg) + a3)) 87 v5.toNatClampNeg ((I 87 v5.toNatClampNeg) + a3)) 88 v5.toNatClampNeg ((I 88 v5.toNatClampNeg) + (a3 * (I 85 v5.toNatClampNeg)))) h)
    · have h := h.2 hc10
      refine J.goto (tgt := 80) dX12_passes_24 (by decide) ?_
      refine J.iinc (v := (v5 + 1)) (ls' := [some (.ref 79), some (.int a1), some (.int a2), some (.int a3), some (.int v4), some (.int (v5 + 1))]) dX12_passes_80 rfl (by rfl) rfl ?_
      refine J.goto (tgt := 6) dX12_passes_83 (by decide) ?_
      exact J.weaken (ls' := [some (.ref 79), some (.int a1), some (.int a2), some (.int a3), some (.int v4), some (.int (v5 + 1))]) (And.intro rfl (And.intro rfl (And.intro rfl (And.intro rfl (And.intro rfl (And.intro rfl trivial)))))) (hK6 v4 (v5 + 1) I h)
set_option maxHeartbeats 4000000 in
set_option maxRecDepth 100000 in
theorem wX12_passes (d : Nat) {T : Topo} (hT : Lay T) (a1 : Int32) (a2 : Int32) (a3 : Int32)   {Q : Topo → IM → Prop} (V6 : Int32 → Int32 → IM → Prop) (μ6 : Int32 → Int32 → IM → Nat) (vc6 : ∀ (v4 v5 : Int32) (I : IM), V6 v4 v5 I → fX12_passes_6 T a1 a2 a3 Q (fun w4 w5 I_ => V6 w4 w5 I_ ∧ μ6 w4 w5 I_ < μ6 v4 v5 I) v4 v5 I) {I : IM} (h : fX12_passes_0 T a1 a2 a3 Q V6 I) : Ct (d + 1) mX12_passes [.ref 79, .int a1, .int a2, .int a3] T I 0 0 (PV Q) := by
  have all : ∀ n : Nat, (∀ (v4 v5 : Int32) (I : IM), V6 v4 v5 I → μ6 v4 v5 I < n → J (d + 1) mX12_passes (PV Q) 0 0 6 [some (.ref 79), some (.int a1), some (.int a2), some (.int a3), some (.int v4), some (.int v5)] [] T I 0 0) := by
    intro n
    induction n with
    | zero => exact fun _ _ _ _ hn => absurd hn (Nat.not_lt_zero _)
    | succ n ih =>
      exact fun v4 v5 I hv hn => sX12_passes_6 d hT a1 a2 a3   (fun w4 w5 I_ hw => ih w4 w5 I_ hw.1 (by have := hw.2; omega)) v4 v5 I (vc6 v4 v5 I hv)
  exact Ct.ofJ (by decide +kernel) rfl (by intro v hv; revert v hv; simp [Value.category]) rfl (sX12_passes_0 d hT a1 a2 a3   (fun w4 w5 I_ hw => (all (μ6 w4 w5 I_ + 1)) w4 w5 I_ hw (Nat.lt_succ_self _)) I h)

def jX12_passesI (a1 : Int32) (a2 : Int32) (a3 : Int32) : Nat → Int32 → Int32 → IM → IM
  | 0 => fun _ _ I => I
  | n + 1 => fun v4 v5 I => (if (I 79 1) ≤ v5 then (up2 (up2 (up2 (up2 (up2 (up2 I 101 a1.toNatClampNeg ((I 101 a1.toNatClampNeg) - a3)) 102 a1.toNatClampNeg ((I 102 a1.toNatClampNeg) + a3)) 105 a1.toNatClampNeg ((I 105 a1.toNatClampNeg) + a3)) 104 a1.toNatClampNeg ((I 104 a1.toNatClampNeg) + (a3 * v4))) 79 6 ((I 79 6) + a3)) 79 7 ((I 79 7) + (a3 * v4))) else (if hs a2 v5 then (jX12_passesI a1 a2 a3 n (v4 + (I 85 v5.toNatClampNeg)) (v5 + 1) (up2 (up2 (up2 I 86 v5.toNatClampNeg ((I 86 v5.toNatClampNeg) + a3)) 87 v5.toNatClampNeg ((I 87 v5.toNatClampNeg) + a3)) 88 v5.toNatClampNeg ((I 88 v5.toNatClampNeg) + (a3 * (I 85 v5.toNatClampNeg))))) else (jX12_passesI a1 a2 a3 n v4 (v5 + 1) I)))
def jX12_passesO (a1 : Int32) (a2 : Int32) (a3 : Int32) : Nat → Int32 → Int32 → IM → Prop
  | 0 => fun _ _ _ => False
  | n + 1 => fun v4 v5 I => ((((I 79 1) ≤ v5) → (vp_in a1 8 ∧ (vp_in a1 8 ∧ (vp_in a1 8 ∧ (vp_in a1 8 ∧ (vp_in a1 8 ∧ (vp_in a1 8 ∧ (vp_in a1 8 ∧ vp_in a1 8)))))))) ∧ ((¬ (I 79 1) ≤ v5) → (((hs a2 v5) → (vp_in v5 9 ∧ (vp_in v5 9 ∧ (vp_in v5 9 ∧ (vp_in v5 9 ∧ (vp_in v5 9 ∧ (vp_in v5 9 ∧ (vp_in v5 9 ∧ (vp_in v5 9 ∧ (jX12_passesO a1 a2 a3 n (v4 + (I 85 v5.toNatClampNeg)) (v5 + 1) (up2 (up2 (up2 I 86 v5.toNatClampNeg ((I 86 v5.toNatClampNeg) + a3)) 87 v5.toNatClampNeg ((I 87 v5.toNatClampNeg) + a3)) 88 v5.toNatClampNeg ((I 88 v5.toNatClampNeg) + (a3 * (I 85 v5.toNatClampNeg)))))))))))))) ∧ ((¬ (hs a2 v5)) → (jX12_passesO a1 a2 a3 n v4 (v5 + 1) I)))))
theorem jX12_passesI_6 (a1 : Int32) (a2 : Int32) (a3 : Int32) (n : Nat) (v4 v5 : Int32) (I : IM) : jX12_passesI a1 a2 a3 (n + 1) v4 v5 I = (if (I 79 1) ≤ v5 then (up2 (up2 (up2 (up2 (up2 (up2 I 101 a1.toNatClampNeg ((I 101 a1.toNatClampNeg) - a3)) 102 a1.toNatClampNeg ((I 102 a1.toNatClampNeg) + a3)) 105 a1.toNatClampNeg ((I 105 a1.toNatClampNeg) + a3)) 104 a1.toNatClampNeg ((I 104 a1.toNatClampNeg) + (a3 * v4))) 79 6 ((I 79 6) + a3)) 79 7 ((I 79 7) + (a3 * v4))) else (if hs a2 v5 then (jX12_passesI a1 a2 a3 n (v4 + (I 85 v5.toNatClampNeg)) (v5 + 1) (up2 (up2 (up2 I 86 v5.toNatClampNeg ((I 86 v5.toNatClampNeg) + a3)) 87 v5.toNatClampNeg ((I 87 v5.toNatClampNeg) + a3)) 88 v5.toNatClampNeg ((I 88 v5.toNatClampNeg) + (a3 * (I 85 v5.toNatClampNeg))))) else (jX12_passesI a1 a2 a3 n v4 (v5 + 1) I))) := rfl
theorem jX12_passesO_6 (a1 : Int32) (a2 : Int32) (a3 : Int32) (n : Nat) (v4 v5 : Int32) (I : IM) : jX12_passesO a1 a2 a3 (n + 1) v4 v5 I = ((((I 79 1) ≤ v5) → (vp_in a1 8 ∧ (vp_in a1 8 ∧ (vp_in a1 8 ∧ (vp_in a1 8 ∧ (vp_in a1 8 ∧ (vp_in a1 8 ∧ (vp_in a1 8 ∧ vp_in a1 8)))))))) ∧ ((¬ (I 79 1) ≤ v5) → (((hs a2 v5) → (vp_in v5 9 ∧ (vp_in v5 9 ∧ (vp_in v5 9 ∧ (vp_in v5 9 ∧ (vp_in v5 9 ∧ (vp_in v5 9 ∧ (vp_in v5 9 ∧ (vp_in v5 9 ∧ (jX12_passesO a1 a2 a3 n (v4 + (I 85 v5.toNatClampNeg)) (v5 + 1) (up2 (up2 (up2 I 86 v5.toNatClampNeg ((I 86 v5.toNatClampNeg) + a3)) 87 v5.toNatClampNeg ((I 87 v5.toNatClampNeg) + a3)) 88 v5.toNatClampNeg ((I 88 v5.toNatClampNeg) + (a3 * (I 85 v5.toNatClampNeg)))))))))))))) ∧ ((¬ (hs a2 v5)) → (jX12_passesO a1 a2 a3 n v4 (v5 + 1) I))))) := rfl
def jX12_passes (I : IM) (a1 : Int32) (a2 : Int32) (a3 : Int32) : IM := (jX12_passesI a1 a2 a3 FU 0 0 I)
def jX12_passesK (I : IM) (a1 : Int32) (a2 : Int32) (a3 : Int32) : Prop := (jX12_passesO a1 a2 a3 FU 0 0 I)
set_option maxRecDepth 10000 in
set_option maxHeartbeats 1000000 in
theorem uX12_passes (d : Nat) {T : Topo} (hT : Lay T) (a1 : Int32) (a2 : Int32) (a3 : Int32)   {R : IM} : ∀ n : Nat, (∀ (v4 v5 : Int32) (I : IM), jX12_passesO a1 a2 a3 n v4 v5 I → jX12_passesI a1 a2 a3 n v4 v5 I = R → J (d + 1) mX12_passes (PV (fun T' I' => T' = T ∧ I' = R)) 0 0 6 [some (.ref 79), some (.int a1), some (.int a2), some (.int a3), some (.int v4), some (.int v5)] [] T I 0 0) := by
  intro n
  induction n with
  | zero => exact fun _ _ _ hz => hz.elim
  | succ n ih =>
    exact fun v4 v5 I hok hit => by
        rw [jX12_passesO_6] at hok
        exact sX12_passes_6 d hT a1 a2 a3   (K6 := fun w4 w5 I_ => (jX12_passesO a1 a2 a3 n w4 w5 I_ ∧ jX12_passesI a1 a2 a3 n w4 w5 I_ = R)) (fun w4 w5 I_ hw => ih w4 w5 I_ hw.1 hw.2) v4 v5 I (by
          unfold fX12_passes_6
          exact ⟨fun hc1 => ⟨((hok).1 hc1).1, ⟨(((hok).1 hc1).2).1, ⟨((((hok).1 hc1).2).2).1, ⟨(((((hok).1 hc1).2).2).2).1, ⟨((((((hok).1 hc1).2).2).2).2).1, ⟨(((((((hok).1 hc1).2).2).2).2).2).1, ⟨((((((((hok).1 hc1).2).2).2).2).2).2).1, ⟨((((((((hok).1 hc1).2).2).2).2).2).2).2, ⟨rfl, by rw [jX12_passesI_6, if_pos hc1] at hit; exact hit⟩⟩⟩⟩⟩⟩⟩⟩⟩, fun hc1 => ⟨fun hc2 => ⟨(((hok).2 hc1).1 hc2).1, ⟨((((hok).2 hc1).1 hc2).2).1, ⟨(((((hok).2 hc1).1 hc2).2).2).1, ⟨((((((hok).2 hc1).1 hc2).2).2).2).1, ⟨(((((((hok).2 hc1).1 hc2).2).2).2).2).1, ⟨((((((((hok).2 hc1).1 hc2).2).2).2).2).2).1, ⟨(((((((((hok).2 hc1).1 hc2).2).2).2).2).2).2).1, ⟨((((((((((hok).2 hc1).1 hc2).2).2).2).2).2).2).2).1, ⟨((((((((((hok).2 hc1).1 hc2).2).2).2).2).2).2).2).2, by rw [jX12_passesI_6, if_neg hc1, if_pos hc2] at hit; exact hit⟩⟩⟩⟩⟩⟩⟩⟩⟩, fun hc2 => ⟨((hok).2 hc1).2 hc2, by rw [jX12_passesI_6, if_neg hc1, if_neg hc2] at hit; exact hit⟩⟩⟩)
set_option maxRecDepth 10000 in
set_option maxHeartbeats 1000000 in
theorem qX12_passes (d : Nat) {T : Topo} {I : IM} (hT : Lay T) (a1 : Int32) (a2 : Int32) (a3 : Int32)  (hp : (jX12_passesK I a1 a2 a3)) : CtV (d + 1) mX12_passes [.ref 79, .int a1, .int a2, .int a3] T I (fun J_ => J_ = (jX12_passes I a1 a2 a3)) := by
  unfold jX12_passesK at hp
  exact Ct.ofJ (by decide +kernel) rfl (by intro v hv; revert v hv; simp [Value.category]) rfl (sX12_passes_0 d hT a1 a2 a3   (K6 := fun w4 w5 I_ => (jX12_passesO a1 a2 a3 FU w4 w5 I_ ∧ jX12_passesI a1 a2 a3 FU w4 w5 I_ = (jX12_passes I a1 a2 a3))) (fun w4 w5 I_ hw => uX12_passes d hT a1 a2 a3   FU w4 w5 I_ hw.1 hw.2) I (by
    unfold fX12_passes_0
    exact ⟨hp, rfl⟩))

theorem swd_0_8 {x : Int32} (h : x.toInt < 0 ∨ 8 < x.toInt) : ¬ x = 0 ∧ ¬ x = 1 ∧ ¬ x = 2 ∧ ¬ x = 3 ∧ ¬ x = 4 ∧ ¬ x = 5 ∧ ¬ x = 6 ∧ ¬ x = 7 ∧ ¬ x = 8 := by
  refine ⟨?_, ?_, ?_, ?_, ?_, ?_, ?_, ?_, ?_⟩ <;> (intro e; subst e; revert h; decide)
theorem sw_0_8 (x : Int32) : x = 0 ∨ x = 1 ∨ x = 2 ∨ x = 3 ∨ x = 4 ∨ x = 5 ∨ x = 6 ∨ x = 7 ∨ x = 8 ∨ (x.toInt < 0 ∨ 8 < x.toInt) := by
  by_cases hr : x.toInt < 0 ∨ 8 < x.toInt
  · exact Or.inr (Or.inr (Or.inr (Or.inr (Or.inr (Or.inr (Or.inr (Or.inr (Or.inr (hr)))))))))
  · have hc : x.toInt = 0 ∨ x.toInt = 1 ∨ x.toInt = 2 ∨ x.toInt = 3 ∨ x.toInt = 4 ∨ x.toInt = 5 ∨ x.toInt = 6 ∨ x.toInt = 7 ∨ x.toInt = 8 := by omega
    rcases hc with hc | hc | hc | hc | hc | hc | hc | hc | hc
    · exact Or.inl (Int32.toInt_inj.mp (hc.trans (by decide)))
    · exact Or.inr (Or.inl (Int32.toInt_inj.mp (hc.trans (by decide))))
    · exact Or.inr (Or.inr (Or.inl (Int32.toInt_inj.mp (hc.trans (by decide)))))
    · exact Or.inr (Or.inr (Or.inr (Or.inl (Int32.toInt_inj.mp (hc.trans (by decide))))))
    · exact Or.inr (Or.inr (Or.inr (Or.inr (Or.inl (Int32.toInt_inj.mp (hc.trans (by decide)))))))
    · exact Or.inr (Or.inr (Or.inr (Or.inr (Or.inr (Or.inl (Int32.toInt_inj.mp (hc.trans (by decide))))))))
    · exact Or.inr (Or.inr (Or.inr (Or.inr (Or.inr (Or.inr (Or.inl (Int32.toInt_inj.mp (hc.trans (by decide)))))))))
    · exact Or.inr (Or.inr (Or.inr (Or.inr (Or.inr (Or.inr (Or.inr (Or.inl (Int32.toInt_inj.mp (hc.trans (by decide))))))))))
    · exact Or.inr (Or.inr (Or.inr (Or.inr (Or.inr (Or.inr (Or.inr (Or.inr (Or.inl (Int32.toInt_inj.mp (hc.trans (by decide)))))))))))

def fX12_about_0 (T : Topo) (a1 : Int32) (a2 : Int32) (Q : Int32 → Topo → IM → Prop)  (I : IM) : Prop :=
  ((((wi a1 0 (I 79 1 - 1)) → ((a2 = 0 → (vp_in a1 9 ∧ Q (I 81 a1.toNatClampNeg) T I)) ∧ (a2 = 1 → (vp_in a1 9 ∧ Q (I 82 a1.toNatClampNeg) T I)) ∧ (a2 = 2 → (vp_in a1 9 ∧ Q (I 83 a1.toNatClampNeg) T I)) ∧ (a2 = 3 → (vp_in a1 9 ∧ Q (I 84 a1.toNatClampNeg) T I)) ∧ (a2 = 4 → (vp_in a1 9 ∧ Q (I 85 a1.toNatClampNeg) T I)) ∧ (a2 = 5 → (vp_in a1 9 ∧ ((((I 89 a1.toNatClampNeg) = 0) → Q 0 T I) ∧ ((¬ (I 89 a1.toNatClampNeg) = 0) → Q 1 T I)))) ∧ (a2 = 6 → (vp_in a1 9 ∧ Q (I 86 a1.toNatClampNeg) T I)) ∧ (a2 = 7 → (vp_in a1 9 ∧ Q (I 87 a1.toNatClampNeg) T I)) ∧ (a2 = 8 → (vp_in a1 9 ∧ Q (I 88 a1.toNatClampNeg) T I)) ∧ ((a2.toInt < 0 ∨ 8 < a2.toInt) → (Q (jX12_finds (-1000001)) T (jX12_findsM I))))) ∧ ((¬ (wi a1 0 (I 79 1 - 1))) → (Q (jX12_finds (-1000001)) T (jX12_findsM I)))))
set_option maxHeartbeats 4000000 in
set_option maxRecDepth 100000 in
theorem sX12_about_0 (d : Nat) {T : Topo} (hT : Lay T) (a1 : Int32) (a2 : Int32)    {Q : Int32 → Topo → IM → Prop}   (I : IM) (h : fX12_about_0 T a1 a2 Q  I) : J (d + 2) mX12_about (PI Q) 0 0 0 [some (.ref 79), some (.int a1), some (.int a2)] [] T I 0 0 := by
  unfold fX12_about_0 at h
  refine J.aload_n dX12_about_0 rfl rfl ?_
  refine J.iload_n dX12_about_1 rfl rfl ?_
  refine J.callVP (k := 79) (as := [.int a1]) (rest := []) dX12_about_2 kX12_isLine vX12_isLine lX12_209 (hT.k 79 rfl) rfl rfl rfl rfl rfl (by omega) (Nat.le_refl _) (Nat.le_refl _) (qX12_isLine (d + 0) hT a1 ) ?_
  refine J.bz_ne (tgt := 15) dX12_about_5 (by decide) (fun hc1 => ?_) (fun hc1 => ?_)
  · have h := h.1 hc1
    refine J.iload_n dX12_about_15 rfl rfl ?_
    obtain ⟨h0_, h1_, h2_, h3_, h4_, h5_, h6_, h7_, h8_, hdf⟩ := h
    rcases sw_0_8 a2 with e | e | e | e | e | e | e | e | e | e
    · refine J.tableIn (off := 52) (tgt := 68) dX12_about_16 (by rw [e]; decide) (by rw [e]; decide) (by rw [e]; decide) (by decide) ?_
      have h := h0_ e
      refine J.aload_n dX12_about_68 rfl rfl ?_
      refine J.getR (r := 81) dX12_about_69 fX12_17 (hT.k 79 rfl) rfl (hT.r 79 10 rfl rfl) ?_
      refine J.iload_n dX12_about_72 rfl rfl ?_
      obtain ⟨hs2, h⟩ := h
      refine J.iald dX12_about_73 (hT.k 81 rfl) (hT.l 81 rfl) hs2 ?_
      exact J.iretQ dX12_about_74 rfl (Nat.le_refl _) (Nat.le_refl _) h
    · refine J.tableIn (off := 59) (tgt := 75) dX12_about_16 (by rw [e]; decide) (by rw [e]; decide) (by rw [e]; decide) (by decide) ?_
      have h := h1_ e
      refine J.aload_n dX12_about_75 rfl rfl ?_
      refine J.getR (r := 82) dX12_about_76 fX12_20 (hT.k 79 rfl) rfl (hT.r 79 11 rfl rfl) ?_
      refine J.iload_n dX12_about_79 rfl rfl ?_
      obtain ⟨hs3, h⟩ := h
      refine J.iald dX12_about_80 (hT.k 82 rfl) (hT.l 82 rfl) hs3 ?_
      exact J.iretQ dX12_about_81 rfl (Nat.le_refl _) (Nat.le_refl _) h
    · refine J.tableIn (off := 66) (tgt := 82) dX12_about_16 (by rw [e]; decide) (by rw [e]; decide) (by rw [e]; decide) (by decide) ?_
      have h := h2_ e
      refine J.aload_n dX12_about_82 rfl rfl ?_
      refine J.getR (r := 83) dX12_about_83 fX12_23 (hT.k 79 rfl) rfl (hT.r 79 12 rfl rfl) ?_
      refine J.iload_n dX12_about_86 rfl rfl ?_
      obtain ⟨hs4, h⟩ := h
      refine J.iald dX12_about_87 (hT.k 83 rfl) (hT.l 83 rfl) hs4 ?_
      exact J.iretQ dX12_about_88 rfl (Nat.le_refl _) (Nat.le_refl _) h
    · refine J.tableIn (off := 73) (tgt := 89) dX12_about_16 (by rw [e]; decide) (by rw [e]; decide) (by rw [e]; decide) (by decide) ?_
      have h := h3_ e
      refine J.aload_n dX12_about_89 rfl rfl ?_
      refine J.getR (r := 84) dX12_about_90 fX12_26 (hT.k 79 rfl) rfl (hT.r 79 13 rfl rfl) ?_
      refine J.iload_n dX12_about_93 rfl rfl ?_
      obtain ⟨hs5, h⟩ := h
      refine J.iald dX12_about_94 (hT.k 84 rfl) (hT.l 84 rfl) hs5 ?_
      exact J.iretQ dX12_about_95 rfl (Nat.le_refl _) (Nat.le_refl _) h
    · refine J.tableIn (off := 80) (tgt := 96) dX12_about_16 (by rw [e]; decide) (by rw [e]; decide) (by rw [e]; decide) (by decide) ?_
      have h := h4_ e
      refine J.aload_n dX12_about_96 rfl rfl ?_
      refine J.getR (r := 85) dX12_about_97 fX12_29 (hT.k 79 rfl) rfl (hT.r 79 14 rfl rfl) ?_
      refine J.iload_n dX12_about_100 rfl rfl ?_
      obtain ⟨hs6, h⟩ := h
      refine J.iald dX12_about_101 (hT.k 85 rfl) (hT.l 85 rfl) hs6 ?_
      exact J.iretQ dX12_about_102 rfl (Nat.le_refl _) (Nat.le_refl _) h
    · refine J.tableIn (off := 87) (tgt := 103) dX12_about_16 (by rw [e]; decide) (by rw [e]; decide) (by rw [e]; decide) (by decide) ?_
      have h := h5_ e
      refine J.aload_n dX12_about_103 rfl rfl ?_
      refine J.getR (r := 89) dX12_about_104 fX12_41 (hT.k 79 rfl) rfl (hT.r 79 18 rfl rfl) ?_
      refine J.iload_n dX12_about_107 rfl rfl ?_
      obtain ⟨hs7, h⟩ := h
      refine J.bald dX12_about_108 (hT.k 89 rfl) (hT.l 89 rfl) hs7 ?_
      refine J.if_eq (tgt := 116) dX12_about_109 (by decide) (fun hc8 => ?_) (fun hc8 => ?_)
      · have h := h.1 hc8
        refine J.iconst (v := 0) dX12_about_116 (by decide) ?_
        exact J.iretQ dX12_about_117 rfl (Nat.le_refl _) (Nat.le_refl _) h
      · have h := h.2 hc8
        refine J.iconst (v := 1) dX12_about_112 (by decide) ?_
        refine J.goto (tgt := 117) dX12_about_113 (by decide) ?_
        exact J.iretQ dX12_about_117 rfl (Nat.le_refl _) (Nat.le_refl _) h
    · refine J.tableIn (off := 102) (tgt := 118) dX12_about_16 (by rw [e]; decide) (by rw [e]; decide) (by rw [e]; decide) (by decide) ?_
      have h := h6_ e
      refine J.aload_n dX12_about_118 rfl rfl ?_
      refine J.getR (r := 86) dX12_about_119 fX12_32 (hT.k 79 rfl) rfl (hT.r 79 15 rfl rfl) ?_
      refine J.iload_n dX12_about_122 rfl rfl ?_
      obtain ⟨hs9, h⟩ := h
      refine J.iald dX12_about_123 (hT.k 86 rfl) (hT.l 86 rfl) hs9 ?_
      exact J.iretQ dX12_about_124 rfl (Nat.le_refl _) (Nat.le_refl _) h
    · refine J.tableIn (off := 109) (tgt := 125) dX12_about_16 (by rw [e]; decide) (by rw [e]; decide) (by rw [e]; decide) (by decide) ?_
      have h := h7_ e
      refine J.aload_n dX12_about_125 rfl rfl ?_
      refine J.getR (r := 87) dX12_about_126 fX12_35 (hT.k 79 rfl) rfl (hT.r 79 16 rfl rfl) ?_
      refine J.iload_n dX12_about_129 rfl rfl ?_
      obtain ⟨hs10, h⟩ := h
      refine J.iald dX12_about_130 (hT.k 87 rfl) (hT.l 87 rfl) hs10 ?_
      exact J.iretQ dX12_about_131 rfl (Nat.le_refl _) (Nat.le_refl _) h
    · refine J.tableIn (off := 116) (tgt := 132) dX12_about_16 (by rw [e]; decide) (by rw [e]; decide) (by rw [e]; decide) (by decide) ?_
      have h := h8_ e
      refine J.aload_n dX12_about_132 rfl rfl ?_
      refine J.getR (r := 88) dX12_about_133 fX12_38 (hT.k 79 rfl) rfl (hT.r 79 17 rfl rfl) ?_
      refine J.iload_n dX12_about_136 rfl rfl ?_
      obtain ⟨hs11, h⟩ := h
      refine J.iald dX12_about_137 (hT.k 88 rfl) (hT.l 88 rfl) hs11 ?_
      exact J.iretQ dX12_about_138 rfl (Nat.le_refl _) (Nat.le_refl _) h
    · refine J.tableOut (tgt := 139) dX12_about_16 e (by decide) ?_
      have h := hdf e
      refine J.aload_n dX12_about_139 rfl rfl ?_
      refine J.ldc (v := (-1000001)) dX12_about_140 kcX12_199 ?_
      refine J.callVE (k := 79) (as := [.int (-1000001)]) (rest := []) dX12_about_142 kX12_finds vX12_finds lX12_200 (hT.k 79 rfl) rfl rfl rfl rfl rfl (by omega) (Nat.le_refl _) (Nat.le_refl _) (qX12_finds (d + 1) hT (-1000001) ) ?_
      exact J.iretQ dX12_about_145 rfl (Nat.le_refl _) (Nat.le_refl _) h
  · have h := h.2 hc1
    refine J.aload_n dX12_about_8 rfl rfl ?_
    refine J.ldc (v := (-1000001)) dX12_about_9 kcX12_199 ?_
    refine J.callVE (k := 79) (as := [.int (-1000001)]) (rest := []) dX12_about_11 kX12_finds vX12_finds lX12_200 (hT.k 79 rfl) rfl rfl rfl rfl rfl (by omega) (Nat.le_refl _) (Nat.le_refl _) (qX12_finds (d + 1) hT (-1000001) ) ?_
    exact J.iretQ dX12_about_14 rfl (Nat.le_refl _) (Nat.le_refl _) h
set_option maxHeartbeats 4000000 in
set_option maxRecDepth 100000 in
theorem wX12_about (d : Nat) {T : Topo} (hT : Lay T) (a1 : Int32) (a2 : Int32)   {Q : Int32 → Topo → IM → Prop} {I : IM} (h : fX12_about_0 T a1 a2 Q I) : Ct (d + 2) mX12_about [.ref 79, .int a1, .int a2] T I 0 0 (PI Q) :=
  Ct.ofJ (by decide +kernel) rfl (by intro v hv; revert v hv; simp [Value.category]) rfl (sX12_about_0 d hT a1 a2   I h)

def jX12_about (I : IM) (a1 : Int32) (a2 : Int32) : Int32 := (if wi a1 0 (I 79 1 - 1) then (if a2 = 0 then (I 81 a1.toNatClampNeg) else (if a2 = 1 then (I 82 a1.toNatClampNeg) else (if a2 = 2 then (I 83 a1.toNatClampNeg) else (if a2 = 3 then (I 84 a1.toNatClampNeg) else (if a2 = 4 then (I 85 a1.toNatClampNeg) else (if a2 = 5 then (if (I 89 a1.toNatClampNeg) = 0 then 0 else 1) else (if a2 = 6 then (I 86 a1.toNatClampNeg) else (if a2 = 7 then (I 87 a1.toNatClampNeg) else (if a2 = 8 then (I 88 a1.toNatClampNeg) else (jX12_finds (-1000001))))))))))) else (jX12_finds (-1000001)))
def jX12_aboutM (I : IM) (a1 : Int32) (a2 : Int32) : IM := (if wi a1 0 (I 79 1 - 1) then (if a2 = 0 then I else (if a2 = 1 then I else (if a2 = 2 then I else (if a2 = 3 then I else (if a2 = 4 then I else (if a2 = 5 then I else (if a2 = 6 then I else (if a2 = 7 then I else (if a2 = 8 then I else (jX12_findsM I)))))))))) else (jX12_findsM I))
def jX12_aboutK (I : IM) (a1 : Int32) (a2 : Int32) : Prop := (((wi a1 0 (I 79 1 - 1)) → ((a2 = 0 → vp_in a1 9) ∧ (a2 = 1 → vp_in a1 9) ∧ (a2 = 2 → vp_in a1 9) ∧ (a2 = 3 → vp_in a1 9) ∧ (a2 = 4 → vp_in a1 9) ∧ (a2 = 5 → vp_in a1 9) ∧ (a2 = 6 → vp_in a1 9) ∧ (a2 = 7 → vp_in a1 9) ∧ (a2 = 8 → vp_in a1 9) ∧ ((a2.toInt < 0 ∨ 8 < a2.toInt) → True))) ∧ ((¬ (wi a1 0 (I 79 1 - 1))) → True))
set_option maxRecDepth 10000 in
theorem qX12_about (d : Nat) {T : Topo} {I : IM} (hT : Lay T) (a1 : Int32) (a2 : Int32)  (hp : (jX12_aboutK I a1 a2)) : CtI (d + 2) mX12_about [.ref 79, .int a1, .int a2] T I (fun x_ J_ => x_ = (jX12_about I a1 a2) ∧ J_ = (jX12_aboutM I a1 a2)) :=
  wX12_about d hT a1 a2   (by
  unfold fX12_about_0
  exact ⟨fun hc1 => ⟨fun hw2 => ⟨(((hp).1 hc1).1) hw2, ⟨rfl, by unfold jX12_about; rw [if_pos hc1, if_pos hw2], by unfold jX12_aboutM; rw [if_pos hc1, if_pos hw2]⟩⟩, fun hw2 => ⟨(((hp).1 hc1).2.1) hw2, ⟨rfl, by unfold jX12_about; rw [if_pos hc1, if_neg (show ¬ a2 = 0 by rw [hw2]; decide), if_pos hw2], by unfold jX12_aboutM; rw [if_pos hc1, if_neg (show ¬ a2 = 0 by rw [hw2]; decide), if_pos hw2]⟩⟩, fun hw2 => ⟨(((hp).1 hc1).2.2.1) hw2, ⟨rfl, by unfold jX12_about; rw [if_pos hc1, if_neg (show ¬ a2 = 0 by rw [hw2]; decide), if_neg (show ¬ a2 = 1 by rw [hw2]; decide), if_pos hw2], by unfold jX12_aboutM; rw [if_pos hc1, if_neg (show ¬ a2 = 0 by rw [hw2]; decide), if_neg (show ¬ a2 = 1 by rw [hw2]; decide), if_pos hw2]⟩⟩, fun hw2 => ⟨(((hp).1 hc1).2.2.2.1) hw2, ⟨rfl, by unfold jX12_about; rw [if_pos hc1, if_neg (show ¬ a2 = 0 by rw [hw2]; decide), if_neg (show ¬ a2 = 1 by rw [hw2]; decide), if_neg (show ¬ a2 = 2 by rw [hw2]; decide), if_pos hw2], by unfold jX12_aboutM; rw [if_pos hc1, if_neg (show ¬ a2 = 0 by rw [hw2]; decide), if_neg (show ¬ a2 = 1 by rw [hw2]; decide), if_neg (show ¬ a2 = 2 by rw [hw2]; decide), if_pos hw2]⟩⟩, fun hw2 => ⟨(((hp).1 hc1).2.2.2.2.1) hw2, ⟨rfl, by unfold jX12_about; rw [if_pos hc1, if_neg (show ¬ a2 = 0 by rw [hw2]; decide), if_neg (show ¬ a2 = 1 by rw [hw2]; decide), if_neg (show ¬ a2 = 2 by rw [hw2]; decide), if_neg (show ¬ a2 = 3 by rw [hw2]; decide), if_pos hw2], by unfold jX12_aboutM; rw [if_pos hc1, if_neg (show ¬ a2 = 0 by rw [hw2]; decide), if_neg (show ¬ a2 = 1 by rw [hw2]; decide), if_neg (show ¬ a2 = 2 by rw [hw2]; decide), if_neg (show ¬ a2 = 3 by rw [hw2]; decide), if_pos hw2]⟩⟩, fun hw2 => ⟨(((hp).1 hc1).2.2.2.2.2.1) hw2, ⟨fun hc3 => ⟨rfl, by unfold jX12_about; rw [if_pos hc1, if_neg (show ¬ a2 = 0 by rw [hw2]; decide), if_neg (show ¬ a2 = 1 by rw [hw2]; decide), if_neg (show ¬ a2 = 2 by rw [hw2]; decide), if_neg (show ¬ a2 = 3 by rw [hw2]; decide), if_neg (show ¬ a2 = 4 by rw [hw2]; decide), if_pos hw2, if_pos hc3], by unfold jX12_aboutM; rw [if_pos hc1, if_neg (show ¬ a2 = 0 by rw [hw2]; decide), if_neg (show ¬ a2 = 1 by rw [hw2]; decide), if_neg (show ¬ a2 = 2 by rw [hw2]; decide), if_neg (show ¬ a2 = 3 by rw [hw2]; decide), if_neg (show ¬ a2 = 4 by rw [hw2]; decide), if_pos hw2]⟩, fun hc3 => ⟨rfl, by unfold jX12_about; rw [if_pos hc1, if_neg (show ¬ a2 = 0 by rw [hw2]; decide), if_neg (show ¬ a2 = 1 by rw [hw2]; decide), if_neg (show ¬ a2 = 2 by rw [hw2]; decide), if_neg (show ¬ a2 = 3 by rw [hw2]; decide), if_neg (show ¬ a2 = 4 by rw [hw2]; decide), if_pos hw2, if_neg hc3], by unfold jX12_aboutM; rw [if_pos hc1, if_neg (show ¬ a2 = 0 by rw [hw2]; decide), if_neg (show ¬ a2 = 1 by rw [hw2]; decide), if_neg (show ¬ a2 = 2 by rw [hw2]; decide), if_neg (show ¬ a2 = 3 by rw [hw2]; decide), if_neg (show ¬ a2 = 4 by rw [hw2]; decide), if_pos hw2]⟩⟩⟩, fun hw2 => ⟨(((hp).1 hc1).2.2.2.2.2.2.1) hw2, ⟨rfl, by unfold jX12_about; rw [if_pos hc1, if_neg (show ¬ a2 = 0 by rw [hw2]; decide), if_neg (show ¬ a2 = 1 by rw [hw2]; decide), if_neg (show ¬ a2 = 2 by rw [hw2]; decide), if_neg (show ¬ a2 = 3 by rw [hw2]; decide), if_neg (show ¬ a2 = 4 by rw [hw2]; decide), if_neg (show ¬ a2 = 5 by rw [hw2]; decide), if_pos hw2], by unfold jX12_aboutM; rw [if_pos hc1, if_neg (show ¬ a2 = 0 by rw [hw2]; decide), if_neg (show ¬ a2 = 1 by rw [hw2]; decide), if_neg (show ¬ a2 = 2 by rw [hw2]; decide), if_neg (show ¬ a2 = 3 by rw [hw2]; decide), if_neg (show ¬ a2 = 4 by rw [hw2]; decide), if_neg (show ¬ a2 = 5 by rw [hw2]; decide), if_pos hw2]⟩⟩, fun hw2 => ⟨(((hp).1 hc1).2.2.2.2.2.2.2.1) hw2, ⟨rfl, by unfold jX12_about; rw [if_pos hc1, if_neg (show ¬ a2 = 0 by rw [hw2]; decide), if_neg (show ¬ a2 = 1 by rw [hw2]; decide), if_neg (show ¬ a2 = 2 by rw [hw2]; decide), if_neg (show ¬ a2 = 3 by rw [hw2]; decide), if_neg (show ¬ a2 = 4 by rw [hw2]; decide), if_neg (show ¬ a2 = 5 by rw [hw2]; decide), if_neg (show ¬ a2 = 6 by rw [hw2]; decide), if_pos hw2], by unfold jX12_aboutM; rw [if_pos hc1, if_neg (show ¬ a2 = 0 by rw [hw2]; decide), if_neg (show ¬ a2 = 1 by rw [hw2]; decide), if_neg (show ¬ a2 = 2 by rw [hw2]; decide), if_neg (show ¬ a2 = 3 by rw [hw2]; decide), if_neg (show ¬ a2 = 4 by rw [hw2]; decide), if_neg (show ¬ a2 = 5 by rw [hw2]; decide), if_neg (show ¬ a2 = 6 by rw [hw2]; decide), if_pos hw2]⟩⟩, fun hw2 => ⟨(((hp).1 hc1).2.2.2.2.2.2.2.2.1) hw2, ⟨rfl, by unfold jX12_about; rw [if_pos hc1, if_neg (show ¬ a2 = 0 by rw [hw2]; decide), if_neg (show ¬ a2 = 1 by rw [hw2]; decide), if_neg (show ¬ a2 = 2 by rw [hw2]; decide), if_neg (show ¬ a2 = 3 by rw [hw2]; decide), if_neg (show ¬ a2 = 4 by rw [hw2]; decide), if_neg (show ¬ a2 = 5 by rw [hw2]; decide), if_neg (show ¬ a2 = 6 by rw [hw2]; decide), if_neg (show ¬ a2 = 7 by rw [hw2]; decide), if_pos hw2], by unfold jX12_aboutM; rw [if_pos hc1, if_neg (show ¬ a2 = 0 by rw [hw2]; decide), if_neg (show ¬ a2 = 1 by rw [hw2]; decide), if_neg (show ¬ a2 = 2 by rw [hw2]; decide), if_neg (show ¬ a2 = 3 by rw [hw2]; decide), if_neg (show ¬ a2 = 4 by rw [hw2]; decide), if_neg (show ¬ a2 = 5 by rw [hw2]; decide), if_neg (show ¬ a2 = 6 by rw [hw2]; decide), if_neg (show ¬ a2 = 7 by rw [hw2]; decide), if_pos hw2]⟩⟩, fun hw2 => ⟨rfl, by unfold jX12_about; rw [if_pos hc1, if_neg (swd_0_8 hw2).1, if_neg (swd_0_8 hw2).2.1, if_neg (swd_0_8 hw2).2.2.1, if_neg (swd_0_8 hw2).2.2.2.1, if_neg (swd_0_8 hw2).2.2.2.2.1, if_neg (swd_0_8 hw2).2.2.2.2.2.1, if_neg (swd_0_8 hw2).2.2.2.2.2.2.1, if_neg (swd_0_8 hw2).2.2.2.2.2.2.2.1, if_neg (swd_0_8 hw2).2.2.2.2.2.2.2.2], by unfold jX12_aboutM; rw [if_pos hc1, if_neg (swd_0_8 hw2).1, if_neg (swd_0_8 hw2).2.1, if_neg (swd_0_8 hw2).2.2.1, if_neg (swd_0_8 hw2).2.2.2.1, if_neg (swd_0_8 hw2).2.2.2.2.1, if_neg (swd_0_8 hw2).2.2.2.2.2.1, if_neg (swd_0_8 hw2).2.2.2.2.2.2.1, if_neg (swd_0_8 hw2).2.2.2.2.2.2.2.1, if_neg (swd_0_8 hw2).2.2.2.2.2.2.2.2]⟩⟩, fun hc1 => ⟨rfl, by unfold jX12_about; rw [if_neg hc1], by unfold jX12_aboutM; rw [if_neg hc1]⟩⟩)

def fX12_sheet_0 (T : Topo) (a1 : Int32) (a2 : Int32) (a3 : Int32) (Q : Int32 → Topo → IM → Prop) (K86 : Int32 → IM → Prop) (I : IM) : Prop :=
  ((((¬ (wi a1 0 3)) → (Q (jX12_finds (-1000001)) T (jX12_findsM I))) ∧ ((wi a1 0 3) → (((a2 = 0) → (((0 ≤ a3) → (((a3 ≤ 8) → (vp_in a1 4 ∧ (vp_in a1 4 ∧ K86 0 (up2 (up2 I 112 a1.toNatClampNeg a2) 113 a1.toNatClampNeg 0)))) ∧ ((¬ a3 ≤ 8) → (Q (jX12_finds (-1000001)) T (jX12_findsM I))))) ∧ ((¬ 0 ≤ a3) → (Q (jX12_finds (-1000008)) T (jX12_findsM I))))) ∧ ((¬ a2 = 0) → (((a2 = 8) → (((0 ≤ a3) → (((a3 ≤ 8) → (vp_in a1 4 ∧ (vp_in a1 4 ∧ K86 0 (up2 (up2 I 112 a1.toNatClampNeg a2) 113 a1.toNatClampNeg a3)))) ∧ ((¬ a3 ≤ 8) → (Q (jX12_finds (-1000001)) T (jX12_findsM I))))) ∧ ((¬ 0 ≤ a3) → (Q (jX12_finds (-1000008)) T (jX12_findsM I))))) ∧ ((¬ a2 = 8) → (((a2 = 16) → (((0 ≤ a3) → (((a3 ≤ 8) → (vp_in a1 4 ∧ (vp_in a1 4 ∧ K86 0 (up2 (up2 I 112 a1.toNatClampNeg a2) 113 a1.toNatClampNeg a3)))) ∧ ((¬ a3 ≤ 8) → (Q (jX12_finds (-1000001)) T (jX12_findsM I))))) ∧ ((¬ 0 ≤ a3) → (Q (jX12_finds (-1000008)) T (jX12_findsM I))))) ∧ ((¬ a2 = 16) → (((a2 = 32) → (((0 ≤ a3) → (((a3 ≤ 8) → (vp_in a1 4 ∧ (vp_in a1 4 ∧ K86 0 (up2 (up2 I 112 a1.toNatClampNeg a2) 113 a1.toNatClampNeg a3)))) ∧ ((¬ a3 ≤ 8) → (Q (jX12_finds (-1000001)) T (jX12_findsM I))))) ∧ ((¬ 0 ≤ a3) → (Q (jX12_finds (-1000008)) T (jX12_findsM I))))) ∧ ((¬ a2 = 32) → (Q (jX12_finds (-1000001)) T (jX12_findsM I)))))))))))))
def fX12_sheet_86 (T : Topo) (a1 : Int32) (a2 : Int32) (a3 : Int32) (Q : Int32 → Topo → IM → Prop) (K86 : Int32 → IM → Prop) (v4 : Int32) (I : IM) : Prop :=
  (((8 ≤ v4) → (vp_in a1 4 ∧ Q (I 113 a1.toNatClampNeg) T I)) ∧ ((¬ 8 ≤ v4) → (vp_in ((8 * a1) + v4) 32 ∧ K86 (v4 + 1) (up2 I 114 ((8 * a1) + v4).toNatClampNeg 0))))
set_option maxHeartbeats 4000000 in
set_option maxRecDepth 100000 in
theorem sX12_sheet_0 (d : Nat) {T : Topo} (hT : Lay T) (a1 : Int32) (a2 : Int32) (a3 : Int32)    {Q : Int32 → Topo → IM → Prop} {K86 : Int32 → IM → Prop} (hK86 : ∀ (v4 : Int32) (I : IM), K86 v4 I → J (d + 2) mX12_sheet (PI Q) 0 0 86 [some (.ref 79), some (.int a1), none, none, some (.int v4)] [] T I 0 0) (I : IM) (h : fX12_sheet_0 T a1 a2 a3 Q K86 I) : J (d + 2) mX12_sheet (PI Q) 0 0 0 [some (.ref 79), some (.int a1), some (.int a2), some (.int a3), none] [] T I 0 0 := by
  unfold fX12_sheet_0 at h
  refine J.iload_n dX12_sheet_0 rfl rfl ?_
  refine J.callSP (as := [.int a1]) (rest := []) dX12_sheet_1 kX12_isSheet vX12_isSheet lX12_347 rfl rfl rfl (by omega) (Nat.le_refl _) (Nat.le_refl _) (qX12_isSheet (d + 0) hT a1 ) ?_
  refine J.bz_eq (tgt := 29) dX12_sheet_4 (by decide) (fun hc1 => ?_) (fun hc1 => ?_)
  · have h := h.1 hc1
    refine J.aload_n dX12_sheet_29 rfl rfl ?_
    refine J.ldc (v := (-1000001)) dX12_sheet_30 kcX12_199 ?_
    refine J.callVE (k := 79) (as := [.int (-1000001)]) (rest := []) dX12_sheet_32 kX12_finds vX12_finds lX12_200 (hT.k 79 rfl) rfl rfl rfl rfl rfl (by omega) (Nat.le_refl _) (Nat.le_refl _) (qX12_finds (d + 1) hT (-1000001) ) ?_
    exact J.iretQ dX12_sheet_35 rfl (Nat.le_refl _) (Nat.le_refl _) h
  · have h := h.2 hc1
    refine J.iload_n dX12_sheet_7 rfl rfl ?_
    refine J.if_eq (tgt := 36) dX12_sheet_8 (by decide) (fun hc2 => ?_) (fun hc2 => ?_)
    · have h := h.1 hc2
      refine J.iload_n dX12_sheet_36 rfl rfl ?_
      refine J.if_ge (tgt := 48) dX12_sheet_37 (by decide) (fun hc3 => ?_) (fun hc3 => ?_)
      · have h := h.1 hc3
        refine J.iload_n dX12_sheet_48 rfl rfl ?_
        refine J.bipush (v := 8) dX12_sheet_49 (by decide) ?_
        refine J.icmp_le (tgt := 61) dX12_sheet_51 (by decide) (fun hc4 => ?_) (fun hc4 => ?_)
        · have h := h.1 hc4
          refine J.aload_n dX12_sheet_61 rfl rfl ?_
          refine J.getR (r := 112) dX12_sheet_62 fX12_111 (hT.k 79 rfl) rfl (hT.r 79 41 rfl rfl) ?_
          refine J.iload_n dX12_sheet_65 rfl rfl ?_
          refine J.iload_n dX12_sheet_66 rfl rfl ?_
          obtain ⟨hs5, h⟩ := h
          refine J.iast dX12_sheet_67 (hT.k 112 rfl) (hT.l 112 rfl) hs5 ?_
          refine J.aload_n dX12_sheet_68 rfl rfl ?_
          refine J.getR (r := 113) dX12_sheet_69 fX12_114 (hT.k 79 rfl) rfl (hT.r 79 42 rfl rfl) ?_
          refine J.iload_n dX12_sheet_72 rfl rfl ?_
          refine J.iload_n dX12_sheet_73 rfl rfl ?_
          refine J.if_ne (tgt := 81) dX12_sheet_74 (by decide) (fun hc => absurd hc2 hc) (fun hc => ?_)
          refine J.iconst (v := 0) dX12_sheet_77 (by decide) ?_
          refine J.goto (tgt := 82) dX12_sheet_78 (by decide) ?_
          refine J.atpc (pc' := 82) rfl ?_
          obtain ⟨hs6, h⟩ := h
          refine J.iast dX12_sheet_82 (hT.k 113 rfl) (hT.l 113 rfl) hs6 ?_
          refine J.iconst (v := 0) dX12_sheet_83 (by decide) ?_
          refine J.istore (ls' := [some (.ref 79), some (.int a1), some (.int a2), some (.int a3), some (.int 0)]) dX12_sheet_84 rfl rfl ?_
          exact J.weaken (ls' := [some (.ref 79), some (.int a1), none, none, some (.int 0)]) (And.intro rfl (And.intro rfl (And.intro rfl trivial))) (hK86 0 (up2 (up2 I 112 a1.toNatClampNeg a2) 113 a1.toNatClampNeg 0) h)
        · have h := h.2 hc4
          refine J.aload_n dX12_sheet_54 rfl rfl ?_
          refine J.ldc (v := (-1000001)) dX12_sheet_55 kcX12_199 ?_
          refine J.callVE (k := 79) (as := [.int (-1000001)]) (rest := []) dX12_sheet_57 kX12_finds vX12_finds lX12_200 (hT.k 79 rfl) rfl rfl rfl rfl rfl (by omega) (Nat.le_refl _) (Nat.le_refl _) (qX12_finds (d + 1) hT (-1000001) ) ?_
          exact J.iretQ dX12_sheet_60 rfl (Nat.le_refl _) (Nat.le_refl _) h
      · have h := h.2 hc3
        refine J.aload_n dX12_sheet_40 rfl rfl ?_
        refine J.ldcw (v := (-1000008)) dX12_sheet_41 kcX12_350 ?_
        refine J.callVE (k := 79) (as := [.int (-1000008)]) (rest := []) dX12_sheet_44 kX12_finds vX12_finds lX12_200 (hT.k 79 rfl) rfl rfl rfl rfl rfl (by omega) (Nat.le_refl _) (Nat.le_refl _) (qX12_finds (d + 1) hT (-1000008) ) ?_
        exact J.iretQ dX12_sheet_47 rfl (Nat.le_refl _) (Nat.le_refl _) h
    · have h := h.2 hc2
      refine J.iload_n dX12_sheet_11 rfl rfl ?_
      refine J.bipush (v := 8) dX12_sheet_12 (by decide) ?_
      refine J.icmp_eq (tgt := 36) dX12_sheet_14 (by decide) (fun hc7 => ?_) (fun hc7 => ?_)
      · have h := h.1 hc7
        refine J.iload_n dX12_sheet_36 rfl rfl ?_
        refine J.if_ge (tgt := 48) dX12_sheet_37 (by decide) (fun hc8 => ?_) (fun hc8 => ?_)
        · have h := h.1 hc8
          refine J.iload_n dX12_sheet_48 rfl rfl ?_
          refine J.bipush (v := 8) dX12_sheet_49 (by decide) ?_
          refine J.icmp_le (tgt := 61) dX12_sheet_51 (by decide) (fun hc9 => ?_) (fun hc9 => ?_)
          · have h := h.1 hc9
            refine J.aload_n dX12_sheet_61 rfl rfl ?_
            refine J.getR (r := 112) dX12_sheet_62 fX12_111 (hT.k 79 rfl) rfl (hT.r 79 41 rfl rfl) ?_
            refine J.iload_n dX12_sheet_65 rfl rfl ?_
            refine J.iload_n dX12_sheet_66 rfl rfl ?_
            obtain ⟨hs10, h⟩ := h
            refine J.iast dX12_sheet_67 (hT.k 112 rfl) (hT.l 112 rfl) hs10 ?_
            refine J.aload_n dX12_sheet_68 rfl rfl ?_
            refine J.getR (r := 113) dX12_sheet_69 fX12_114 (hT.k 79 rfl) rfl (hT.r 79 42 rfl rfl) ?_
            refine J.iload_n dX12_sheet_72 rfl rfl ?_
            refine J.iload_n dX12_sheet_73 rfl rfl ?_
            refine J.if_ne (tgt := 81) dX12_sheet_74 (by decide) (fun hc => ?_) (fun hc => absurd hc hc2)
            refine J.iload_n dX12_sheet_81 rfl rfl ?_
            obtain ⟨hs11, h⟩ := h
            refine J.iast dX12_sheet_82 (hT.k 113 rfl) (hT.l 113 rfl) hs11 ?_
            refine J.iconst (v := 0) dX12_sheet_83 (by decide) ?_
            refine J.istore (ls' := [some (.ref 79), some (.int a1), some (.int a2), some (.int a3), some (.int 0)]) dX12_sheet_84 rfl rfl ?_
            exact J.weaken (ls' := [some (.ref 79), some (.int a1), none, none, some (.int 0)]) (And.intro rfl (And.intro rfl (And.intro rfl trivial))) (hK86 0 (up2 (up2 I 112 a1.toNatClampNeg a2) 113 a1.toNatClampNeg a3) h)
          · have h := h.2 hc9
            refine J.aload_n dX12_sheet_54 rfl rfl ?_
            refine J.ldc (v := (-1000001)) dX12_sheet_55 kcX12_199 ?_
            refine J.callVE (k := 79) (as := [.int (-1000001)]) (rest := []) dX12_sheet_57 kX12_finds vX12_finds lX12_200 (hT.k 79 rfl) rfl rfl rfl rfl rfl (by omega) (Nat.le_refl _) (Nat.le_refl _) (qX12_finds (d + 1) hT (-1000001) ) ?_
            exact J.iretQ dX12_sheet_60 rfl (Nat.le_refl _) (Nat.le_refl _) h
        · have h := h.2 hc8
          refine J.aload_n dX12_sheet_40 rfl rfl ?_
          refine J.ldcw (v := (-1000008)) dX12_sheet_41 kcX12_350 ?_
          refine J.callVE (k := 79) (as := [.int (-1000008)]) (rest := []) dX12_sheet_44 kX12_finds vX12_finds lX12_200 (hT.k 79 rfl) rfl rfl rfl rfl rfl (by omega) (Nat.le_refl _) (Nat.le_refl _) (qX12_finds (d + 1) hT (-1000008) ) ?_
          exact J.iretQ dX12_sheet_47 rfl (Nat.le_refl _) (Nat.le_refl _) h
      · have h := h.2 hc7
        refine J.iload_n dX12_sheet_17 rfl rfl ?_
        refine J.bipush (v := 16) dX12_sheet_18 (by decide) ?_
        refine J.icmp_eq (tgt := 36) dX12_sheet_20 (by decide) (fun hc12 => ?_) (fun hc12 => ?_)
        · have h := h.1 hc12
          refine J.iload_n dX12_sheet_36 rfl rfl ?_
          refine J.if_ge (tgt := 48) dX12_sheet_37 (by decide) (fun hc13 => ?_) (fun hc13 => ?_)
          · have h := h.1 hc13
            refine J.iload_n dX12_sheet_48 rfl rfl ?_
            refine J.bipush (v := 8) dX12_sheet_49 (by decide) ?_
            refine J.icmp_le (tgt := 61) dX12_sheet_51 (by decide) (fun hc14 => ?_) (fun hc14 => ?_)
            · have h := h.1 hc14
              refine J.aload_n dX12_sheet_61 rfl rfl ?_
              refine J.getR (r := 112) dX12_sheet_62 fX12_111 (hT.k 79 rfl) rfl (hT.r 79 41 rfl rfl) ?_
              refine J.iload_n dX12_sheet_65 rfl rfl ?_
              refine J.iload_n dX12_sheet_66 rfl rfl ?_
              obtain ⟨hs15, h⟩ := h
              refine J.iast dX12_sheet_67 (hT.k 112 rfl) (hT.l 112 rfl) hs15 ?_
              refine J.aload_n dX12_sheet_68 rfl rfl ?_
              refine J.getR (r := 113) dX12_sheet_69 fX12_114 (hT.k 79 rfl) rfl (hT.r 79 42 rfl rfl) ?_
              refine J.iload_n dX12_sheet_72 rfl rfl ?_
              refine J.iload_n dX12_sheet_73 rfl rfl ?_
              refine J.if_ne (tgt := 81) dX12_sheet_74 (by decide) (fun hc => ?_) (fun hc => absurd hc hc2)
              refine J.iload_n dX12_sheet_81 rfl rfl ?_
              obtain ⟨hs16, h⟩ := h
              refine J.iast dX12_sheet_82 (hT.k 113 rfl) (hT.l 113 rfl) hs16 ?_
              refine J.iconst (v := 0) dX12_sheet_83 (by decide) ?_
              refine J.istore (ls' := [some (.ref 79), some (.int a1), some (.int a2), some (.int a3), some (.int 0)]) dX12_sheet_84 rfl rfl ?_
              exact J.weaken (ls' := [some (.ref 79), some (.int a1), none, none, some (.int 0)]) (And.intro rfl (And.intro rfl (And.intro rfl trivial))) (hK86 0 (up2 (up2 I 112 a1.toNatClampNeg a2) 113 a1.toNatClampNeg a3) h)
            · have h := h.2 hc14
              refine J.aload_n dX12_sheet_54 rfl rfl ?_
              refine J.ldc (v := (-1000001)) dX12_sheet_55 kcX12_199 ?_
              refine J.callVE (k := 79) (as := [.int (-1000001)]) (rest := []) dX12_sheet_57 kX12_finds vX12_finds lX12_200 (hT.k 79 rfl) rfl rfl rfl rfl rfl (by omega) (Nat.le_refl _) (Nat.le_refl _) (qX12_finds (d + 1) hT (-1000001) ) ?_
              exact J.iretQ dX12_sheet_60 rfl (Nat.le_refl _) (Nat.le_refl _) h
          · have h := h.2 hc13
            refine J.aload_n dX12_sheet_40 rfl rfl ?_
            refine J.ldcw (v := (-1000008)) dX12_sheet_41 kcX12_350 ?_
            refine J.callVE (k := 79) (as := [.int (-1000008)]) (rest := []) dX12_sheet_44 kX12_finds vX12_finds lX12_200 (hT.k 79 rfl) rfl rfl rfl rfl rfl (by omega) (Nat.le_refl _) (Nat.le_refl _) (qX12_finds (d + 1) hT (-1000008) ) ?_
            exact J.iretQ dX12_sheet_47 rfl (Nat.le_refl _) (Nat.le_refl _) h
        · have h := h.2 hc12
          refine J.iload_n dX12_sheet_23 rfl rfl ?_
          refine J.bipush (v := 32) dX12_sheet_24 (by decide) ?_
          refine J.icmp_eq (tgt := 36) dX12_sheet_26 (by decide) (fun hc17 => ?_) (fun hc17 => ?_)
          · have h := h.1 hc17
            refine J.iload_n dX12_sheet_36 rfl rfl ?_
            refine J.if_ge (tgt := 48) dX12_sheet_37 (by decide) (fun hc18 => ?_) (fun hc18 => ?_)
            · have h := h.1 hc18
              refine J.iload_n dX12_sheet_48 rfl rfl ?_
              refine J.bipush (v := 8) dX12_sheet_49 (by decide) ?_
              refine J.icmp_le (tgt := 61) dX12_sheet_51 (by decide) (fun hc19 => ?_) (fun hc19 => ?_)
              · have h := h.1 hc19
                refine J.aload_n dX12_sheet_61 rfl rfl ?_
                refine J.getR (r := 112) dX12_sheet_62 fX12_111 (hT.k 79 rfl) rfl (hT.r 79 41 rfl rfl) ?_
                refine J.iload_n dX12_sheet_65 rfl rfl ?_
                refine J.iload_n dX12_sheet_66 rfl rfl ?_
                obtain ⟨hs20, h⟩ := h
                refine J.iast dX12_sheet_67 (hT.k 112 rfl) (hT.l 112 rfl) hs20 ?_
                refine J.aload_n dX12_sheet_68 rfl rfl ?_
                refine J.getR (r := 113) dX12_sheet_69 fX12_114 (hT.k 79 rfl) rfl (hT.r 79 42 rfl rfl) ?_
                refine J.iload_n dX12_sheet_72 rfl rfl ?_
                refine J.iload_n dX12_sheet_73 rfl rfl ?_
                refine J.if_ne (tgt := 81) dX12_sheet_74 (by decide) (fun hc => ?_) (fun hc => absurd hc hc2)
                refine J.iload_n dX12_sheet_81 rfl rfl ?_
                obtain ⟨hs21, h⟩ := h
                refine J.iast dX12_sheet_82 (hT.k 113 rfl) (hT.l 113 rfl) hs21 ?_
                refine J.iconst (v := 0) dX12_sheet_83 (by decide) ?_
                refine J.istore (ls' := [some (.ref 79), some (.int a1), some (.int a2), some (.int a3), some (.int 0)]) dX12_sheet_84 rfl rfl ?_
                exact J.weaken (ls' := [some (.ref 79), some (.int a1), none, none, some (.int 0)]) (And.intro rfl (And.intro rfl (And.intro rfl trivial))) (hK86 0 (up2 (up2 I 112 a1.toNatClampNeg a2) 113 a1.toNatClampNeg a3) h)
              · have h := h.2 hc19
                refine J.aload_n dX12_sheet_54 rfl rfl ?_
                refine J.ldc (v := (-1000001)) dX12_sheet_55 kcX12_199 ?_
                refine J.callVE (k := 79) (as := [.int (-1000001)]) (rest := []) dX12_sheet_57 kX12_finds vX12_finds lX12_200 (hT.k 79 rfl) rfl rfl rfl rfl rfl (by omega) (Nat.le_refl _) (Nat.le_refl _) (qX12_finds (d + 1) hT (-1000001) ) ?_
                exact J.iretQ dX12_sheet_60 rfl (Nat.le_refl _) (Nat.le_refl _) h
            · have h := h.2 hc18
              refine J.aload_n dX12_sheet_40 rfl rfl ?_
              refine J.ldcw (v := (-1000008)) dX12_sheet_41 kcX12_350 ?_
              refine J.callVE (k := 79) (as := [.int (-1000008)]) (rest := []) dX12_sheet_44 kX12_finds vX12_finds lX12_200 (hT.k 79 rfl) rfl rfl rfl rfl rfl (by omega) (Nat.le_refl _) (Nat.le_refl _) (qX12_finds (d + 1) hT (-1000008) ) ?_
              exact J.iretQ dX12_sheet_47 rfl (Nat.le_refl _) (Nat.le_refl _) h
          · have h := h.2 hc17
            refine J.aload_n dX12_sheet_29 rfl rfl ?_
            refine J.ldc (v := (-1000001)) dX12_sheet_30 kcX12_199 ?_
            refine J.callVE (k := 79) (as := [.int (-1000001)]) (rest := []) dX12_sheet_32 kX12_finds vX12_finds lX12_200 (hT.k 79 rfl) rfl rfl rfl rfl rfl (by omega) (Nat.le_refl _) (Nat.le_refl _) (qX12_finds (d + 1) hT (-1000001) ) ?_
            exact J.iretQ dX12_sheet_35 rfl (Nat.le_refl _) (Nat.le_refl _) h
set_option maxHeartbeats 4000000 in
set_option maxRecDepth 100000 in
theorem sX12_sheet_86 (d : Nat) {T : Topo} (hT : Lay T) (a1 : Int32) (a2 : Int32) (a3 : Int32)    {Q : Int32 → Topo → IM → Prop} {K86 : Int32 → IM → Prop} (hK86 : ∀ (v4 : Int32) (I : IM), K86 v4 I → J (d + 2) mX12_sheet (PI Q) 0 0 86 [some (.ref 79), some (.int a1), none, none, some (.int v4)] [] T I 0 0) (v4 : Int32) (I : IM) (h : fX12_sheet_86 T a1 a2 a3 Q K86 v4 I) : J (d + 2) mX12_sheet (PI Q) 0 0 86 [some (.ref 79), some (.int a1), none, none, some (.int v4)] [] T I 0 0 := by
  unfold fX12_sheet_86 at h
  refine J.iload dX12_sheet_86 rfl ?_
  refine J.bipush (v := 8) dX12_sheet_88 (by decide) ?_
  refine J.icmp_ge (tgt := 112) dX12_sheet_90 (by decide) (fun hc1 => ?_) (fun hc1 => ?_)
  · have h := h.1 hc1
    refine J.aload_n dX12_sheet_112 rfl rfl ?_
    refine J.getR (r := 113) dX12_sheet_113 fX12_114 (hT.k 79 rfl) rfl (hT.r 79 42 rfl rfl) ?_
    refine J.iload_n dX12_sheet_116 rfl rfl ?_
    obtain ⟨hs2, h⟩ := h
    refine J.iald dX12_sheet_117 (hT.k 113 rfl) (hT.l 113 rfl) hs2 ?_
    exact J.iretQ dX12_sheet_118 rfl (Nat.le_refl _) (Nat.le_refl _) h
  · have h := h.2 hc1
    refine J.aload_n dX12_sheet_93 rfl rfl ?_
    refine J.getR (r := 114) dX12_sheet_94 fX12_117 (hT.k 79 rfl) rfl (hT.r 79 43 rfl rfl) ?_
    refine J.bipush (v := 8) dX12_sheet_97 (by decide) ?_
    refine J.iload_n dX12_sheet_99 rfl rfl ?_
    refine J.imul dX12_sheet_100 ?_
    refine J.iload dX12_sheet_101 rfl ?_
    refine J.iadd dX12_sheet_103 ?_
    refine J.atpc (pc' := 104) rfl ?_
    refine J.iconst (v := 0) dX12_sheet_104 (by decide) ?_
    obtain ⟨hs3, h⟩ := h
    refine J.iast dX12_sheet_105 (hT.k 114 rfl) (hT.l 114 rfl) hs3 ?_
    refine J.iinc (v := (v4 + 1)) (ls' := [some (.ref 79), some (.int a1), none, none, some (.int (v4 + 1))]) dX12_sheet_106 rfl (by rfl) rfl ?_
    refine J.goto (tgt := 86) dX12_sheet_109 (by decide) ?_
    exact J.weaken (ls' := [some (.ref 79), some (.int a1), none, none, some (.int (v4 + 1))]) (And.intro rfl (And.intro rfl (And.intro rfl trivial))) (hK86 (v4 + 1) (up2 I 114 ((8 * a1) + v4).toNatClampNeg 0) h)
set_option maxHeartbeats 4000000 in
set_option maxRecDepth 100000 in
theorem wX12_sheet (d : Nat) {T : Topo} (hT : Lay T) (a1 : Int32) (a2 : Int32) (a3 : Int32)   {Q : Int32 → Topo → IM → Prop} (V86 : Int32 → IM → Prop) (μ86 : Int32 → IM → Nat) (vc86 : ∀ (v4 : Int32) (I : IM), V86 v4 I → fX12_sheet_86 T a1 a2 a3 Q (fun w4 I_ => V86 w4 I_ ∧ μ86 w4 I_ < μ86 v4 I) v4 I) {I : IM} (h : fX12_sheet_0 T a1 a2 a3 Q V86 I) : Ct (d + 2) mX12_sheet [.ref 79, .int a1, .int a2, .int a3] T I 0 0 (PI Q) := by
  have all : ∀ n : Nat, (∀ (v4 : Int32) (I : IM), V86 v4 I → μ86 v4 I < n → J (d + 2) mX12_sheet (PI Q) 0 0 86 [some (.ref 79), some (.int a1), none, none, some (.int v4)] [] T I 0 0) := by
    intro n
    induction n with
    | zero => exact fun _ _ _ hn => absurd hn (Nat.not_lt_zero _)
    | succ n ih =>
      exact fun v4 I hv hn => sX12_sheet_86 d hT a1 a2 a3   (fun w4 I_ hw => ih w4 I_ hw.1 (by have := hw.2; omega)) v4 I (vc86 v4 I hv)
  exact Ct.ofJ (by decide +kernel) rfl (by intro v hv; revert v hv; simp [Value.category]) rfl (sX12_sheet_0 d hT a1 a2 a3   (fun w4 I_ hw => (all (μ86 w4 I_ + 1)) w4 I_ hw (Nat.lt_succ_self _)) I h)

def jX12_sheetI (a1 : Int32) (a2 : Int32) (a3 : Int32) : Nat → Int32 → IM → Int32 × IM
  | 0 => fun _ I => (0, I)
  | n + 1 => fun v4 I => (if 8 ≤ v4 then ((I 113 a1.toNatClampNeg), I) else (jX12_sheetI a1 a2 a3 n (v4 + 1) (up2 I 114 ((8 * a1) + v4).toNatClampNeg 0)))
def jX12_sheetO (a1 : Int32) (a2 : Int32) (a3 : Int32) : Nat → Int32 → IM → Prop
  | 0 => fun _ _ => False
  | n + 1 => fun v4 I => (((8 ≤ v4) → vp_in a1 4) ∧ ((¬ 8 ≤ v4) → (vp_in ((8 * a1) + v4) 32 ∧ (jX12_sheetO a1 a2 a3 n (v4 + 1) (up2 I 114 ((8 * a1) + v4).toNatClampNeg 0)))))
theorem jX12_sheetI_86 (a1 : Int32) (a2 : Int32) (a3 : Int32) (n : Nat) (v4 : Int32) (I : IM) : jX12_sheetI a1 a2 a3 (n + 1) v4 I = (if 8 ≤ v4 then ((I 113 a1.toNatClampNeg), I) else (jX12_sheetI a1 a2 a3 n (v4 + 1) (up2 I 114 ((8 * a1) + v4).toNatClampNeg 0))) := rfl
theorem jX12_sheetO_86 (a1 : Int32) (a2 : Int32) (a3 : Int32) (n : Nat) (v4 : Int32) (I : IM) : jX12_sheetO a1 a2 a3 (n + 1) v4 I = (((8 ≤ v4) → vp_in a1 4) ∧ ((¬ 8 ≤ v4) → (vp_in ((8 * a1) + v4) 32 ∧ (jX12_sheetO a1 a2 a3 n (v4 + 1) (up2 I 114 ((8 * a1) + v4).toNatClampNeg 0))))) := rfl
def jX12_sheet (I : IM) (a1 : Int32) (a2 : Int32) (a3 : Int32) : Int32 × IM := (if wi a1 0 3 then (if a2 = 0 then (if 0 ≤ a3 then (if a3 ≤ 8 then (jX12_sheetI a1 a2 a3 FU 0 (up2 (up2 I 112 a1.toNatClampNeg a2) 113 a1.toNatClampNeg 0)) else ((jX12_finds (-1000001)), (jX12_findsM I))) else ((jX12_finds (-1000008)), (jX12_findsM I))) else (if a2 = 8 then (if 0 ≤ a3 then (if a3 ≤ 8 then (jX12_sheetI a1 a2 a3 FU 0 (up2 (up2 I 112 a1.toNatClampNeg a2) 113 a1.toNatClampNeg a3)) else ((jX12_finds (-1000001)), (jX12_findsM I))) else ((jX12_finds (-1000008)), (jX12_findsM I))) else (if a2 = 16 then (if 0 ≤ a3 then (if a3 ≤ 8 then (jX12_sheetI a1 a2 a3 FU 0 (up2 (up2 I 112 a1.toNatClampNeg a2) 113 a1.toNatClampNeg a3)) else ((jX12_finds (-1000001)), (jX12_findsM I))) else ((jX12_finds (-1000008)), (jX12_findsM I))) else (if a2 = 32 then (if 0 ≤ a3 then (if a3 ≤ 8 then (jX12_sheetI a1 a2 a3 FU 0 (up2 (up2 I 112 a1.toNatClampNeg a2) 113 a1.toNatClampNeg a3)) else ((jX12_finds (-1000001)), (jX12_findsM I))) else ((jX12_finds (-1000008)), (jX12_findsM I))) else ((jX12_finds (-1000001)), (jX12_findsM I)))))) else ((jX12_finds (-1000001)), (jX12_findsM I)))
def jX12_sheetK (I : IM) (a1 : Int32) (a2 : Int32) (a3 : Int32) : Prop := (((¬ (wi a1 0 3)) → True) ∧ ((wi a1 0 3) → (((a2 = 0) → (((0 ≤ a3) → (((a3 ≤ 8) → (vp_in a1 4 ∧ (vp_in a1 4 ∧ (jX12_sheetO a1 a2 a3 FU 0 (up2 (up2 I 112 a1.toNatClampNeg a2) 113 a1.toNatClampNeg 0))))) ∧ ((¬ a3 ≤ 8) → True))) ∧ ((¬ 0 ≤ a3) → True))) ∧ ((¬ a2 = 0) → (((a2 = 8) → (((0 ≤ a3) → (((a3 ≤ 8) → (vp_in a1 4 ∧ (vp_in a1 4 ∧ (jX12_sheetO a1 a2 a3 FU 0 (up2 (up2 I 112 a1.toNatClampNeg a2) 113 a1.toNatClampNeg a3))))) ∧ ((¬ a3 ≤ 8) → True))) ∧ ((¬ 0 ≤ a3) → True))) ∧ ((¬ a2 = 8) → (((a2 = 16) → (((0 ≤ a3) → (((a3 ≤ 8) → (vp_in a1 4 ∧ (vp_in a1 4 ∧ (jX12_sheetO a1 a2 a3 FU 0 (up2 (up2 I 112 a1.toNatClampNeg a2) 113 a1.toNatClampNeg a3))))) ∧ ((¬ a3 ≤ 8) → True))) ∧ ((¬ 0 ≤ a3) → True))) ∧ ((¬ a2 = 16) → (((a2 = 32) → (((0 ≤ a3) → (((a3 ≤ 8) → (vp_in a1 4 ∧ (vp_in a1 4 ∧ (jX12_sheetO a1 a2 a3 FU 0 (up2 (up2 I 112 a1.toNatClampNeg a2) 113 a1.toNatClampNeg a3))))) ∧ ((¬ a3 ≤ 8) → True))) ∧ ((¬ 0 ≤ a3) → True))) ∧ ((¬ a2 = 32) → True))))))))))
set_option maxRecDepth 10000 in
set_option maxHeartbeats 1000000 in
theorem uX12_sheet (d : Nat) {T : Topo} (hT : Lay T) (a1 : Int32) (a2 : Int32) (a3 : Int32)   {R : Int32 × IM} : ∀ n : Nat, (∀ (v4 : Int32) (I : IM), jX12_sheetO a1 a2 a3 n v4 I → jX12_sheetI a1 a2 a3 n v4 I = R → J (d + 2) mX12_sheet (PI (fun x T' I' => T' = T ∧ x = R.1 ∧ I' = R.2)) 0 0 86 [some (.ref 79), some (.int a1), none, none, some (.int v4)] [] T I 0 0) := by
  intro n
  induction n with
  | zero => exact fun _ _ hz => hz.elim
  | succ n ih =>
    exact fun v4 I hok hit => by
        rw [jX12_sheetO_86] at hok
        exact sX12_sheet_86 d hT a1 a2 a3   (K86 := fun w4 I_ => (jX12_sheetO a1 a2 a3 n w4 I_ ∧ jX12_sheetI a1 a2 a3 n w4 I_ = R)) (fun w4 I_ hw => ih w4 I_ hw.1 hw.2) v4 I (by
          unfold fX12_sheet_86
          exact ⟨fun hc1 => ⟨(hok).1 hc1, (by rw [jX12_sheetI_86, if_pos hc1] at hit; exact ⟨rfl, by rw [← hit], by rw [← hit]⟩)⟩, fun hc1 => ⟨((hok).2 hc1).1, ⟨((hok).2 hc1).2, by rw [jX12_sheetI_86, if_neg hc1] at hit; exact hit⟩⟩⟩)
set_option maxRecDepth 10000 in
set_option maxHeartbeats 1000000 in
theorem qX12_sheet (d : Nat) {T : Topo} {I : IM} (hT : Lay T) (a1 : Int32) (a2 : Int32) (a3 : Int32)  (hp : (jX12_sheetK I a1 a2 a3)) : CtI (d + 2) mX12_sheet [.ref 79, .int a1, .int a2, .int a3] T I (fun x_ J_ => x_ = (jX12_sheet I a1 a2 a3).1 ∧ J_ = (jX12_sheet I a1 a2 a3).2) := by
  unfold jX12_sheetK at hp
  exact Ct.ofJ (by decide +kernel) rfl (by intro v hv; revert v hv; simp [Value.category]) rfl (sX12_sheet_0 d hT a1 a2 a3   (K86 := fun w4 I_ => (jX12_sheetO a1 a2 a3 FU w4 I_ ∧ jX12_sheetI a1 a2 a3 FU w4 I_ = (jX12_sheet I a1 a2 a3))) (fun w4 I_ hw => uX12_sheet d hT a1 a2 a3   FU w4 I_ hw.1 hw.2) I (by
    unfold fX12_sheet_0
    exact ⟨fun hc1 => ⟨rfl, by unfold jX12_sheet; rw [if_neg hc1], by unfold jX12_sheet; rw [if_neg hc1]⟩, fun hc1 => ⟨fun hc2 => ⟨fun hc3 => ⟨fun hc4 => ⟨(((((hp).2 hc1).1 hc2).1 hc3).1 hc4).1, ⟨((((((hp).2 hc1).1 hc2).1 hc3).1 hc4).2).1, ⟨((((((hp).2 hc1).1 hc2).1 hc3).1 hc4).2).2, by unfold jX12_sheet; rw [if_pos hc1, if_pos hc2, if_pos hc3, if_pos hc4]⟩⟩⟩, fun hc4 => ⟨rfl, by unfold jX12_sheet; rw [if_pos hc1, if_pos hc2, if_pos hc3, if_neg hc4], by unfold jX12_sheet; rw [if_pos hc1, if_pos hc2, if_pos hc3, if_neg hc4]⟩⟩, fun hc3 => ⟨rfl, by unfold jX12_sheet; rw [if_pos hc1, if_pos hc2, if_neg hc3], by unfold jX12_sheet; rw [if_pos hc1, if_pos hc2, if_neg hc3]⟩⟩, fun hc2 => ⟨fun hc5 => ⟨fun hc6 => ⟨fun hc7 => ⟨((((((hp).2 hc1).2 hc2).1 hc5).1 hc6).1 hc7).1, ⟨(((((((hp).2 hc1).2 hc2).1 hc5).1 hc6).1 hc7).2).1, ⟨(((((((hp).2 hc1).2 hc2).1 hc5).1 hc6).1 hc7).2).2, by unfold jX12_sheet; rw [if_pos hc1, if_neg hc2, if_pos hc5, if_pos hc6, if_pos hc7]⟩⟩⟩, fun hc7 => ⟨rfl, by unfold jX12_sheet; rw [if_pos hc1, if_neg hc2, if_pos hc5, if_pos hc6, if_neg hc7], by unfold jX12_sheet; rw [if_pos hc1, if_neg hc2, if_pos hc5, if_pos hc6, if_neg hc7]⟩⟩, fun hc6 => ⟨rfl, by unfold jX12_sheet; rw [if_pos hc1, if_neg hc2, if_pos hc5, if_neg hc6], by unfold jX12_sheet; rw [if_pos hc1, if_neg hc2, if_pos hc5, if_neg hc6]⟩⟩, fun hc5 => ⟨fun hc8 => ⟨fun hc9 => ⟨fun hc10 => ⟨(((((((hp).2 hc1).2 hc2).2 hc5).1 hc8).1 hc9).1 hc10).1, ⟨((((((((hp).2 hc1).2 hc2).2 hc5).1 hc8).1 hc9).1 hc10).2).1, ⟨((((((((hp).2 hc1).2 hc2).2 hc5).1 hc8).1 hc9).1 hc10).2).2, by unfold jX12_sheet; rw [if_pos hc1, if_neg hc2, if_neg hc5, if_pos hc8, if_pos hc9, if_pos hc10]⟩⟩⟩, fun hc10 => ⟨rfl, by unfold jX12_sheet; rw [if_pos hc1, if_neg hc2, if_neg hc5, if_pos hc8, if_pos hc9, if_neg hc10], by unfold jX12_sheet; rw [if_pos hc1, if_neg hc2, if_neg hc5, if_pos hc8, if_pos hc9, if_neg hc10]⟩⟩, fun hc9 => ⟨rfl, by unfold jX12_sheet; rw [if_pos hc1, if_neg hc2, if_neg hc5, if_pos hc8, if_neg hc9], by unfold jX12_sheet; rw [if_pos hc1, if_neg hc2, if_neg hc5, if_pos hc8, if_neg hc9]⟩⟩, fun hc8 => ⟨fun hc11 => ⟨fun hc12 => ⟨fun hc13 => ⟨((((((((hp).2 hc1).2 hc2).2 hc5).2 hc8).1 hc11).1 hc12).1 hc13).1, ⟨(((((((((hp).2 hc1).2 hc2).2 hc5).2 hc8).1 hc11).1 hc12).1 hc13).2).1, ⟨(((((((((hp).2 hc1).2 hc2).2 hc5).2 hc8).1 hc11).1 hc12).1 hc13).2).2, by unfold jX12_sheet; rw [if_pos hc1, if_neg hc2, if_neg hc5, if_neg hc8, if_pos hc11, if_pos hc12, if_pos hc13]⟩⟩⟩, fun hc13 => ⟨rfl, by unfold jX12_sheet; rw [if_pos hc1, if_neg hc2, if_neg hc5, if_neg hc8, if_pos hc11, if_pos hc12, if_neg hc13], by unfold jX12_sheet; rw [if_pos hc1, if_neg hc2, if_neg hc5, if_neg hc8, if_pos hc11, if_pos hc12, if_neg hc13]⟩⟩, fun hc12 => ⟨rfl, by unfold jX12_sheet; rw [if_pos hc1, if_neg hc2, if_neg hc5, if_neg hc8, if_pos hc11, if_neg hc12], by unfold jX12_sheet; rw [if_pos hc1, if_neg hc2, if_neg hc5, if_neg hc8, if_pos hc11, if_neg hc12]⟩⟩, fun hc11 => ⟨rfl, by unfold jX12_sheet; rw [if_pos hc1, if_neg hc2, if_neg hc5, if_neg hc8, if_neg hc11], by unfold jX12_sheet; rw [if_pos hc1, if_neg hc2, if_neg hc5, if_neg hc8, if_neg hc11]⟩⟩⟩⟩⟩⟩))

def fX12_write_0 (T : Topo) (a1 : Int32) (a2 : Int32) (a3 : Int32) (Q : Int32 → Topo → IM → Prop)  (I : IM) : Prop :=
  ((((wi a1 0 3) → (vp_in a1 4 ∧ (((¬ (I 112 a1.toNatClampNeg) = 0) → (vp_in a1 4 ∧ ((((wi a2 0 ((I 113 a1.toNatClampNeg) - 1)) → (vp_in ((8 * a1) + a2) 32 ∧ (vp_in a1 4 ∧ (((¬ (I 112 a1.toNatClampNeg) = 8) → (vp_in a1 4 ∧ (((¬ (I 112 a1.toNatClampNeg) = 16) → (vp_in ((8 * a1) + a2) 32 ∧ Q (I 114 ((8 * a1) + a2).toNatClampNeg) T (up2 I 114 ((8 * a1) + a2).toNatClampNeg a3))) ∧ (((I 112 a1.toNatClampNeg) = 16) → (vp_in ((8 * a1) + a2) 32 ∧ Q (I 114 ((8 * a1) + a2).toNatClampNeg) T (up2 I 114 ((8 * a1) + a2).toNatClampNeg (a3.toInt16.toInt32))))))) ∧ (((I 112 a1.toNatClampNeg) = 8) → (vp_in ((8 * a1) + a2) 32 ∧ Q (I 114 ((8 * a1) + a2).toNatClampNeg) T (up2 I 114 ((8 * a1) + a2).toNatClampNeg (a3.toInt8.toInt32)))))))) ∧ ((¬ (wi a2 0 ((I 113 a1.toNatClampNeg) - 1))) → (Q (jX12_finds (-1000001)) T (jX12_findsM I))))))) ∧ (((I 112 a1.toNatClampNeg) = 0) → (Q (jX12_finds (-1000007)) T (jX12_findsM I)))))) ∧ ((¬ (wi a1 0 3)) → (Q (jX12_finds (-1000001)) T (jX12_findsM I)))))
set_option maxHeartbeats 4000000 in
set_option maxRecDepth 100000 in
theorem sX12_write_0 (d : Nat) {T : Topo} (hT : Lay T) (a1 : Int32) (a2 : Int32) (a3 : Int32)    {Q : Int32 → Topo → IM → Prop}   (I : IM) (h : fX12_write_0 T a1 a2 a3 Q  I) : J (d + 2) mX12_write (PI Q) 0 0 0 [some (.ref 79), some (.int a1), some (.int a2), some (.int a3), none] [] T I 0 0 := by
  unfold fX12_write_0 at h
  refine J.iload_n dX12_write_0 rfl rfl ?_
  refine J.callSP (as := [.int a1]) (rest := []) dX12_write_1 kX12_isSheet vX12_isSheet lX12_347 rfl rfl rfl (by omega) (Nat.le_refl _) (Nat.le_refl _) (qX12_isSheet (d + 0) hT a1 ) ?_
  refine J.bz_ne (tgt := 14) dX12_write_4 (by decide) (fun hc1 => ?_) (fun hc1 => ?_)
  · have h := h.1 hc1
    refine J.aload_n dX12_write_14 rfl rfl ?_
    refine J.getR (r := 112) dX12_write_15 fX12_111 (hT.k 79 rfl) rfl (hT.r 79 41 rfl rfl) ?_
    refine J.iload_n dX12_write_18 rfl rfl ?_
    obtain ⟨hs2, h⟩ := h
    refine J.iald dX12_write_19 (hT.k 112 rfl) (hT.l 112 rfl) hs2 ?_
    refine J.if_ne (tgt := 31) dX12_write_20 (by decide) (fun hc3 => ?_) (fun hc3 => ?_)
    · have h := h.1 hc3
      refine J.iload_n dX12_write_31 rfl rfl ?_
      refine J.iconst (v := 0) dX12_write_32 (by decide) ?_
      refine J.aload_n dX12_write_33 rfl rfl ?_
      refine J.getR (r := 113) dX12_write_34 fX12_114 (hT.k 79 rfl) rfl (hT.r 79 42 rfl rfl) ?_
      refine J.iload_n dX12_write_37 rfl rfl ?_
      obtain ⟨hs4, h⟩ := h
      refine J.iald dX12_write_38 (hT.k 113 rfl) (hT.l 113 rfl) hs4 ?_
      refine J.iconst (v := 1) dX12_write_39 (by decide) ?_
      refine J.isub dX12_write_40 ?_
      refine J.callSP (as := [.int a2, .int 0, .int ((I 113 a1.toNatClampNeg) - 1)]) (rest := []) dX12_write_41 kX12_in vX12_in lX12_189 rfl rfl rfl (by omega) (Nat.le_refl _) (Nat.le_refl _) (qX12_in (d + 1) hT a2 0 ((I 113 a1.toNatClampNeg) - 1) ) ?_
      refine J.bz_ne (tgt := 54) dX12_write_44 (by decide) (fun hc5 => ?_) (fun hc5 => ?_)
      · have h := h.1 hc5
        refine J.aload_n dX12_write_54 rfl rfl ?_
        refine J.getR (r := 114) dX12_write_55 fX12_117 (hT.k 79 rfl) rfl (hT.r 79 43 rfl rfl) ?_
        refine J.bipush (v := 8) dX12_write_58 (by decide) ?_
        refine J.iload_n dX12_write_60 rfl rfl ?_
        refine J.imul dX12_write_61 ?_
        refine J.iload_n dX12_write_62 rfl rfl ?_
        refine J.iadd dX12_write_63 ?_
        refine J.atpc (pc' := 64) rfl ?_
        obtain ⟨hs6, h⟩ := h
        refine J.iald dX12_write_64 (hT.k 114 rfl) (hT.l 114 rfl) hs6 ?_
        refine J.istore (ls' := [some (.ref 79), some (.int a1), some (.int a2), some (.int a3), some (.int (I 114 ((8 * a1) + a2).toNatClampNeg))]) dX12_write_65 rfl rfl ?_
        refine J.aload_n dX12_write_67 rfl rfl ?_
        refine J.getR (r := 114) dX12_write_68 fX12_117 (hT.k 79 rfl) rfl (hT.r 79 43 rfl rfl) ?_
        refine J.bipush (v := 8) dX12_write_71 (by decide) ?_
        refine J.iload_n dX12_write_73 rfl rfl ?_
        refine J.imul dX12_write_74 ?_
        refine J.iload_n dX12_write_75 rfl rfl ?_
        refine J.atpc (pc' := 76) rfl ?_
        refine J.iadd dX12_write_76 ?_
        refine J.aload_n dX12_write_77 rfl rfl ?_
        refine J.getR (r := 112) dX12_write_78 fX12_111 (hT.k 79 rfl) rfl (hT.r 79 41 rfl rfl) ?_
        refine J.iload_n dX12_write_81 rfl rfl ?_
        obtain ⟨hs7, h⟩ := h
        refine J.iald dX12_write_82 (hT.k 112 rfl) (hT.l 112 rfl) hs7 ?_
        refine J.bipush (v := 8) dX12_write_83 (by decide) ?_
        refine J.icmp_ne (tgt := 93) dX12_write_85 (by decide) (fun hc8 => ?_) (fun hc8 => ?_)
        · have h := h.1 hc8
          refine J.aload_n dX12_write_93 rfl rfl ?_
          refine J.getR (r := 112) dX12_write_94 fX12_111 (hT.k 79 rfl) rfl (hT.r 79 41 rfl rfl) ?_
          refine J.iload_n dX12_write_97 rfl rfl ?_
          obtain ⟨hs9, h⟩ := h
          refine J.iald dX12_write_98 (hT.k 112 rfl) (hT.l 112 rfl) hs9 ?_
          refine J.bipush (v := 16) dX12_write_99 (by decide) ?_
          refine J.icmp_ne (tgt := 109) dX12_write_101 (by decide) (fun hc10 => ?_) (fun hc10 => ?_)
          · have h := h.1 hc10
            refine J.iload_n dX12_write_109 rfl rfl ?_
            obtain ⟨hs11, h⟩ := h
            refine J.iast dX12_write_110 (hT.k 114 rfl) (hT.l 114 rfl) hs11 ?_
            refine J.iload dX12_write_111 rfl ?_
            exact J.iretQ dX12_write_113 rfl (Nat.le_refl _) (Nat.le_refl _) h
          · have h := h.2 hc10
            refine J.iload_n dX12_write_104 rfl rfl ?_
            refine J.i2s dX12_write_105 ?_
            refine J.goto (tgt := 110) dX12_write_106 (by decide) ?_
            obtain ⟨hs12, h⟩ := h
            refine J.iast dX12_write_110 (hT.k 114 rfl) (hT.l 114 rfl) hs12 ?_
            refine J.iload dX12_write_111 rfl ?_
            exact J.iretQ dX12_write_113 rfl (Nat.le_refl _) (Nat.le_refl _) h
        · have h := h.2 hc8
          refine J.iload_n dX12_write_88 rfl rfl ?_
          refine J.i2b dX12_write_89 ?_
          refine J.goto (tgt := 110) dX12_write_90 (by decide) ?_
          obtain ⟨hs13, h⟩ := h
          refine J.iast dX12_write_110 (hT.k 114 rfl) (hT.l 114 rfl) hs13 ?_
          refine J.iload dX12_write_111 rfl ?_
          exact J.iretQ dX12_write_113 rfl (Nat.le_refl _) (Nat.le_refl _) h
      · have h := h.2 hc5
        refine J.aload_n dX12_write_47 rfl rfl ?_
        refine J.ldc (v := (-1000001)) dX12_write_48 kcX12_199 ?_
        refine J.callVE (k := 79) (as := [.int (-1000001)]) (rest := []) dX12_write_50 kX12_finds vX12_finds lX12_200 (hT.k 79 rfl) rfl rfl rfl rfl rfl (by omega) (Nat.le_refl _) (Nat.le_refl _) (qX12_finds (d + 1) hT (-1000001) ) ?_
        exact J.iretQ dX12_write_53 rfl (Nat.le_refl _) (Nat.le_refl _) h
    · have h := h.2 hc3
      refine J.aload_n dX12_write_23 rfl rfl ?_
      refine J.ldcw (v := (-1000007)) dX12_write_24 kcX12_351 ?_
      refine J.callVE (k := 79) (as := [.int (-1000007)]) (rest := []) dX12_write_27 kX12_finds vX12_finds lX12_200 (hT.k 79 rfl) rfl rfl rfl rfl rfl (by omega) (Nat.le_refl _) (Nat.le_refl _) (qX12_finds (d + 1) hT (-1000007) ) ?_
      exact J.iretQ dX12_write_30 rfl (Nat.le_refl _) (Nat.le_refl _) h
  · have h := h.2 hc1
    refine J.aload_n dX12_write_7 rfl rfl ?_
    refine J.ldc (v := (-1000001)) dX12_write_8 kcX12_199 ?_
    refine J.callVE (k := 79) (as := [.int (-1000001)]) (rest := []) dX12_write_10 kX12_finds vX12_finds lX12_200 (hT.k 79 rfl) rfl rfl rfl rfl rfl (by omega) (Nat.le_refl _) (Nat.le_refl _) (qX12_finds (d + 1) hT (-1000001) ) ?_
    exact J.iretQ dX12_write_13 rfl (Nat.le_refl _) (Nat.le_refl _) h
set_option maxHeartbeats 4000000 in
set_option maxRecDepth 100000 in
theorem wX12_write (d : Nat) {T : Topo} (hT : Lay T) (a1 : Int32) (a2 : Int32) (a3 : Int32)   {Q : Int32 → Topo → IM → Prop} {I : IM} (h : fX12_write_0 T a1 a2 a3 Q I) : Ct (d + 2) mX12_write [.ref 79, .int a1, .int a2, .int a3] T I 0 0 (PI Q) :=
  Ct.ofJ (by decide +kernel) rfl (by intro v hv; revert v hv; simp [Value.category]) rfl (sX12_write_0 d hT a1 a2 a3   I h)

def jX12_write (I : IM) (a1 : Int32) (a2 : Int32) : Int32 := (if wi a1 0 3 then (if (I 112 a1.toNatClampNeg) = 0 then (jX12_finds (-1000007)) else (if wi a2 0 ((I 113 a1.toNatClampNeg) - 1) then (I 114 ((8 * a1) + a2).toNatClampNeg) else (jX12_finds (-1000001)))) else (jX12_finds (-1000001)))
def jX12_writeM (I : IM) (a1 : Int32) (a2 : Int32) (a3 : Int32) : IM := (if wi a1 0 3 then (if (I 112 a1.toNatClampNeg) = 0 then (jX12_findsM I) else (if wi a2 0 ((I 113 a1.toNatClampNeg) - 1) then (if (I 112 a1.toNatClampNeg) = 8 then (up2 I 114 ((8 * a1) + a2).toNatClampNeg (a3.toInt8.toInt32)) else (if (I 112 a1.toNatClampNeg) = 16 then (up2 I 114 ((8 * a1) + a2).toNatClampNeg (a3.toInt16.toInt32)) else (up2 I 114 ((8 * a1) + a2).toNatClampNeg a3))) else (jX12_findsM I))) else (jX12_findsM I))
def jX12_writeK (I : IM) (a1 : Int32) (a2 : Int32) : Prop := (((wi a1 0 3) → (vp_in a1 4 ∧ (((¬ (I 112 a1.toNatClampNeg) = 0) → (vp_in a1 4 ∧ (((wi a2 0 ((I 113 a1.toNatClampNeg) - 1)) → (vp_in ((8 * a1) + a2) 32 ∧ (vp_in a1 4 ∧ (((¬ (I 112 a1.toNatClampNeg) = 8) → (vp_in a1 4 ∧ (((¬ (I 112 a1.toNatClampNeg) = 16) → vp_in ((8 * a1) + a2) 32) ∧ (((I 112 a1.toNatClampNeg) = 16) → vp_in ((8 * a1) + a2) 32)))) ∧ (((I 112 a1.toNatClampNeg) = 8) → vp_in ((8 * a1) + a2) 32))))) ∧ ((¬ (wi a2 0 ((I 113 a1.toNatClampNeg) - 1))) → True)))) ∧ (((I 112 a1.toNatClampNeg) = 0) → True)))) ∧ ((¬ (wi a1 0 3)) → True))
set_option maxRecDepth 10000 in
theorem qX12_write (d : Nat) {T : Topo} {I : IM} (hT : Lay T) (a1 : Int32) (a2 : Int32) (a3 : Int32)  (hp : (jX12_writeK I a1 a2)) : CtI (d + 2) mX12_write [.ref 79, .int a1, .int a2, .int a3] T I (fun x_ J_ => x_ = (jX12_write I a1 a2) ∧ J_ = (jX12_writeM I a1 a2 a3)) :=
  wX12_write d hT a1 a2 a3   (by
  unfold fX12_write_0
  exact ⟨fun hc1 => ⟨((hp).1 hc1).1, ⟨fun hc2 => ⟨((((hp).1 hc1).2).1 hc2).1, ⟨fun hc3 => ⟨((((((hp).1 hc1).2).1 hc2).2).1 hc3).1, ⟨(((((((hp).1 hc1).2).1 hc2).2).1 hc3).2).1, ⟨fun hc4 => ⟨(((((((((hp).1 hc1).2).1 hc2).2).1 hc3).2).2).1 hc4).1, ⟨fun hc5 => ⟨((((((((((hp).1 hc1).2).1 hc2).2).1 hc3).2).2).1 hc4).2).1 hc5, ⟨rfl, by unfold jX12_write; rw [if_pos hc1, if_neg hc2, if_pos hc3], by unfold jX12_writeM; rw [if_pos hc1, if_neg hc2, if_pos hc3, if_neg hc4, if_neg hc5]⟩⟩, fun hc5 => ⟨((((((((((hp).1 hc1).2).1 hc2).2).1 hc3).2).2).1 hc4).2).2 hc5, ⟨rfl, by unfold jX12_write; rw [if_pos hc1, if_neg hc2, if_pos hc3], by unfold jX12_writeM; rw [if_pos hc1, if_neg hc2, if_pos hc3, if_neg hc4, if_pos hc5]⟩⟩⟩⟩, fun hc4 => ⟨((((((((hp).1 hc1).2).1 hc2).2).1 hc3).2).2).2 hc4, ⟨rfl, by unfold jX12_write; rw [if_pos hc1, if_neg hc2, if_pos hc3], by unfold jX12_writeM; rw [if_pos hc1, if_neg hc2, if_pos hc3, if_pos hc4]⟩⟩⟩⟩⟩, fun hc3 => ⟨rfl, by unfold jX12_write; rw [if_pos hc1, if_neg hc2, if_neg hc3], by unfold jX12_writeM; rw [if_pos hc1, if_neg hc2, if_neg hc3]⟩⟩⟩, fun hc2 => ⟨rfl, by unfold jX12_write; rw [if_pos hc1, if_pos hc2], by unfold jX12_writeM; rw [if_pos hc1, if_pos hc2]⟩⟩⟩, fun hc1 => ⟨rfl, by unfold jX12_write; rw [if_neg hc1], by unfold jX12_writeM; rw [if_neg hc1]⟩⟩)

def fX12_copy_0 (T : Topo) (a1 : Int32) (a2 : Int32) (a3 : Int32) (a4 : Int32) (a5 : Int32) (Q : Int32 → Topo → IM → Prop) (K128 : Int32 → IM → Prop) (K165 : Int32 → IM → Prop) (I : IM) : Prop :=
  ((((¬ (wi a1 0 3)) → (Q (jX12_finds (-1000001)) T (jX12_findsM I))) ∧ ((wi a1 0 3) → ((((wi a3 0 3) → (vp_in a1 4 ∧ ((((I 112 a1.toNatClampNeg) = 0) → (Q (jX12_finds (-1000007)) T (jX12_findsM I))) ∧ ((¬ (I 112 a1.toNatClampNeg) = 0) → (vp_in a3 4 ∧ (((¬ (I 112 a3.toNatClampNeg) = 0) → (vp_in a1 4 ∧ (vp_in a3 4 ∧ ((((I 112 a1.toNatClampNeg) = (I 112 a3.toNatClampNeg)) → (((a2 < 0) → (Q (jX12_finds (-1000001)) T (jX12_findsM I))) ∧ ((¬ a2 < 0) → (((a4 < 0) → (Q (jX12_finds (-1000001)) T (jX12_findsM I))) ∧ ((¬ a4 < 0) → (((a5 < 0) → (Q (jX12_finds (-1000001)) T (jX12_findsM I))) ∧ ((¬ a5 < 0) → (vp_in a1 4 ∧ (((0 < (lg_cmp (a2.toInt64 + a5.toInt64) ((I 113 a1.toNatClampNeg).toInt64))) → (Q (jX12_finds (-1000001)) T (jX12_findsM I))) ∧ ((¬ 0 < (lg_cmp (a2.toInt64 + a5.toInt64) ((I 113 a1.toNatClampNeg).toInt64))) → (vp_in a3 4 ∧ ((((lg_cmp (a4.toInt64 + a5.toInt64) ((I 113 a3.toNatClampNeg).toInt64)) ≤ 0) → K128 0 I) ∧ ((¬ (lg_cmp (a4.toInt64 + a5.toInt64) ((I 113 a3.toNatClampNeg).toInt64)) ≤ 0) → (Q (jX12_finds (-1000001)) T (jX12_findsM I))))))))))))))) ∧ ((¬ (I 112 a1.toNatClampNeg) = (I 112 a3.toNatClampNeg)) → (Q (jX12_finds (-1000004)) T (jX12_findsM I))))))) ∧ (((I 112 a3.toNatClampNeg) = 0) → (Q (jX12_finds (-1000007)) T (jX12_findsM I))))))))) ∧ ((¬ (wi a3 0 3)) → (Q (jX12_finds (-1000001)) T (jX12_findsM I))))))))
def fX12_copy_128 (T : Topo) (a1 : Int32) (a2 : Int32) (a3 : Int32) (a4 : Int32) (a5 : Int32) (Q : Int32 → Topo → IM → Prop) (K128 : Int32 → IM → Prop) (K165 : Int32 → IM → Prop) (v6 : Int32) (I : IM) : Prop :=
  (((a5 ≤ v6) → K165 0 I) ∧ ((¬ a5 ≤ v6) → (vp_in (((8 * a1) + a2) + v6) 32 ∧ (vp_in v6 8 ∧ K128 (v6 + 1) (up2 I 135 v6.toNatClampNeg (I 114 (((8 * a1) + a2) + v6).toNatClampNeg))))))
def fX12_copy_165 (T : Topo) (a1 : Int32) (a2 : Int32) (a3 : Int32) (a4 : Int32) (a5 : Int32) (Q : Int32 → Topo → IM → Prop) (K128 : Int32 → IM → Prop) (K165 : Int32 → IM → Prop) (v6 : Int32) (I : IM) : Prop :=
  (((a5 ≤ v6) → Q a5 T I) ∧ ((¬ a5 ≤ v6) → (vp_in v6 8 ∧ (vp_in (((8 * a3) + a4) + v6) 32 ∧ K165 (v6 + 1) (up2 I 114 (((8 * a3) + a4) + v6).toNatClampNeg (I 135 v6.toNatClampNeg))))))
set_option maxHeartbeats 4000000 in
set_option maxRecDepth 100000 in
theorem sX12_copy_0 (d : Nat) {T : Topo} (hT : Lay T) (a1 : Int32) (a2 : Int32) (a3 : Int32) (a4 : Int32) (a5 : Int32)    {Q : Int32 → Topo → IM → Prop} {K128 : Int32 → IM → Prop} {K165 : Int32 → IM → Prop} (hK128 : ∀ (v6 : Int32) (I : IM), K128 v6 I → J (d + 2) mX12_copy (PI Q) 0 0 128 [some (.ref 79), some (.int a1), some (.int a2), some (.int a3), some (.int a4), some (.int a5), some (.int v6)] [] T I 0 0) (hK165 : ∀ (v6 : Int32) (I : IM), K165 v6 I → J (d + 2) mX12_copy (PI Q) 0 0 165 [some (.ref 79), none, none, some (.int a3), some (.int a4), some (.int a5), some (.int v6)] [] T I 0 0) (I : IM) (h : fX12_copy_0 T a1 a2 a3 a4 a5 Q K128 K165 I) : J (d + 2) mX12_copy (PI Q) 0 0 0 [some (.ref 79), some (.int a1), some (.int a2), some (.int a3), some (.int a4), some (.int a5), none] [] T I 0 0 := by
  unfold fX12_copy_0 at h
  refine J.iload_n dX12_copy_0 rfl rfl ?_
  refine J.callSP (as := [.int a1]) (rest := []) dX12_copy_1 kX12_isSheet vX12_isSheet lX12_347 rfl rfl rfl (by omega) (Nat.le_refl _) (Nat.le_refl _) (qX12_isSheet (d + 0) hT a1 ) ?_
  refine J.bz_eq (tgt := 14) dX12_copy_4 (by decide) (fun hc1 => ?_) (fun hc1 => ?_)
  · have h := h.1 hc1
    refine J.aload_n dX12_copy_14 rfl rfl ?_
    refine J.ldc (v := (-1000001)) dX12_copy_15 kcX12_199 ?_
    refine J.callVE (k := 79) (as := [.int (-1000001)]) (rest := []) dX12_copy_17 kX12_finds vX12_finds lX12_200 (hT.k 79 rfl) rfl rfl rfl rfl rfl (by omega) (Nat.le_refl _) (Nat.le_refl _) (qX12_finds (d + 1) hT (-1000001) ) ?_
    exact J.iretQ dX12_copy_20 rfl (Nat.le_refl _) (Nat.le_refl _) h
  · have h := h.2 hc1
    refine J.iload_n dX12_copy_7 rfl rfl ?_
    refine J.callSP (as := [.int a3]) (rest := []) dX12_copy_8 kX12_isSheet vX12_isSheet lX12_347 rfl rfl rfl (by omega) (Nat.le_refl _) (Nat.le_refl _) (qX12_isSheet (d + 0) hT a3 ) ?_
    refine J.bz_ne (tgt := 21) dX12_copy_11 (by decide) (fun hc2 => ?_) (fun hc2 => ?_)
    · have h := h.1 hc2
      refine J.aload_n dX12_copy_21 rfl rfl ?_
      refine J.getR (r := 112) dX12_copy_22 fX12_111 (hT.k 79 rfl) rfl (hT.r 79 41 rfl rfl) ?_
      refine J.iload_n dX12_copy_25 rfl rfl ?_
      obtain ⟨hs3, h⟩ := h
      refine J.iald dX12_copy_26 (hT.k 112 rfl) (hT.l 112 rfl) hs3 ?_
      refine J.if_eq (tgt := 39) dX12_copy_27 (by decide) (fun hc4 => ?_) (fun hc4 => ?_)
      · have h := h.1 hc4
        refine J.aload_n dX12_copy_39 rfl rfl ?_
        refine J.ldcw (v := (-1000007)) dX12_copy_40 kcX12_351 ?_
        refine J.callVE (k := 79) (as := [.int (-1000007)]) (rest := []) dX12_copy_43 kX12_finds vX12_finds lX12_200 (hT.k 79 rfl) rfl rfl rfl rfl rfl (by omega) (Nat.le_refl _) (Nat.le_refl _) (qX12_finds (d + 1) hT (-1000007) ) ?_
        exact J.iretQ dX12_copy_46 rfl (Nat.le_refl _) (Nat.le_refl _) h
      · have h := h.2 hc4
        refine J.aload_n dX12_copy_30 rfl rfl ?_
        refine J.getR (r := 112) dX12_copy_31 fX12_111 (hT.k 79 rfl) rfl (hT.r 79 41 rfl rfl) ?_
        refine J.iload_n dX12_copy_34 rfl rfl ?_
        obtain ⟨hs5, h⟩ := h
        refine J.iald dX12_copy_35 (hT.k 112 rfl) (hT.l 112 rfl) hs5 ?_
        refine J.if_ne (tgt := 47) dX12_copy_36 (by decide) (fun hc6 => ?_) (fun hc6 => ?_)
        · have h := h.1 hc6
          refine J.aload_n dX12_copy_47 rfl rfl ?_
          refine J.getR (r := 112) dX12_copy_48 fX12_111 (hT.k 79 rfl) rfl (hT.r 79 41 rfl rfl) ?_
          refine J.iload_n dX12_copy_51 rfl rfl ?_
          obtain ⟨hs7, h⟩ := h
          refine J.iald dX12_copy_52 (hT.k 112 rfl) (hT.l 112 rfl) hs7 ?_
          refine J.aload_n dX12_copy_53 rfl rfl ?_
          refine J.getR (r := 112) dX12_copy_54 fX12_111 (hT.k 79 rfl) rfl (hT.r 79 41 rfl rfl) ?_
          refine J.iload_n dX12_copy_57 rfl rfl ?_
          obtain ⟨hs8, h⟩ := h
          refine J.iald dX12_copy_58 (hT.k 112 rfl) (hT.l 112 rfl) hs8 ?_
          refine J.icmp_eq (tgt := 69) dX12_copy_59 (by decide) (fun hc9 => ?_) (fun hc9 => ?_)
          · have h := h.1 hc9
            refine J.iload_n dX12_copy_69 rfl rfl ?_
            refine J.if_lt (tgt := 118) dX12_copy_70 (by decide) (fun hc10 => ?_) (fun hc10 => ?_)
            · have h := h.1 hc10
              refine J.aload_n dX12_copy_118 rfl rfl ?_
              refine J.ldc (v := (-1000001)) dX12_copy_119 kcX12_199 ?_
              refine J.callVE (k := 79) (as := [.int (-1000001)]) (rest := []) dX12_copy_121 kX12_finds vX12_finds lX12_200 (hT.k 79 rfl) rfl rfl rfl rfl rfl (by omega) (Nat.le_refl _) (Nat.le_refl _) (qX12_finds (d + 1) hT (-1000001) ) ?_
              exact J.iretQ dX12_copy_124 rfl (Nat.le_refl _) (Nat.le_refl _) h
            · have h := h.2 hc10
              refine J.iload dX12_copy_73 rfl ?_
              refine J.if_lt (tgt := 118) dX12_copy_75 (by decide) (fun hc11 => ?_) (fun hc11 => ?_)
              · have h := h.1 hc11
                refine J.aload_n dX12_copy_118 rfl rfl ?_
                refine J.ldc (v := (-1000001)) dX12_copy_119 kcX12_199 ?_
                refine J.callVE (k := 79) (as := [.int (-1000001)]) (rest := []) dX12_copy_121 kX12_finds vX12_finds lX12_200 (hT.k 79 rfl) rfl rfl rfl rfl rfl (by omega) (Nat.le_refl _) (Nat.le_refl _) (qX12_finds (d + 1) hT (-1000001) ) ?_
                exact J.iretQ dX12_copy_124 rfl (Nat.le_refl _) (Nat.le_refl _) h
              · have h := h.2 hc11
                refine J.iload dX12_copy_78 rfl ?_
                refine J.if_lt (tgt := 118) dX12_copy_80 (by decide) (fun hc12 => ?_) (fun hc12 => ?_)
                · have h := h.1 hc12
                  refine J.aload_n dX12_copy_118 rfl rfl ?_
                  refine J.ldc (v := (-1000001)) dX12_copy_119 kcX12_199 ?_
                  refine J.callVE (k := 79) (as := [.int (-1000001)]) (rest := []) dX12_copy_121 kX12_finds vX12_finds lX12_200 (hT.k 79 rfl) rfl rfl rfl rfl rfl (by omega) (Nat.le_refl _) (Nat.le_refl _) (qX12_finds (d + 1) hT (-1000001) ) ?_
                  exact J.iretQ dX12_copy_124 rfl (Nat.le_refl _) (Nat.le_refl _) h
                · have h := h.2 hc12
                  refine J.iload_n dX12_copy_83 rfl rfl ?_
                  refine J.i2l dX12_copy_84 ?_
                  refine J.iload dX12_copy_85 rfl ?_
                  refine J.i2l dX12_copy_87 ?_
                  refine J.ladd dX12_copy_88 ?_
                  refine J.aload_n dX12_copy_89 rfl rfl ?_
                  refine J.getR (r := 113) dX12_copy_90 fX12_114 (hT.k 79 rfl) rfl (hT.r 79 42 rfl rfl) ?_
                  refine J.atpc (pc' := 93) rfl ?_
                  refine J.iload_n dX12_copy_93 rfl rfl ?_
                  obtain ⟨hs13, h⟩ := h
                  refine J.iald dX12_copy_94 (hT.k 113 rfl) (hT.l 113 rfl) hs13 ?_
                  refine J.i2l dX12_copy_95 ?_
                  refine J.lcmp dX12_copy_96 ?_
                  refine J.if_gt (tgt := 118) dX12_copy_97 (by decide) (fun hc14 => ?_) (fun hc14 => ?_)
                  · have h := h.1 hc14
                    refine J.aload_n dX12_copy_118 rfl rfl ?_
                    refine J.ldc (v := (-1000001)) dX12_copy_119 kcX12_199 ?_
                    refine J.callVE (k := 79) (as := [.int (-1000001)]) (rest := []) dX12_copy_121 kX12_finds vX12_finds lX12_200 (hT.k 79 rfl) rfl rfl rfl rfl rfl (by omega) (Nat.le_refl _) (Nat.le_refl _) (qX12_finds (d + 1) hT (-1000001) ) ?_
                    exact J.iretQ dX12_copy_124 rfl (Nat.le_refl _) (Nat.le_refl _) h
                  · have h := h.2 hc14
                    refine J.iload dX12_copy_100 rfl ?_
                    refine J.i2l dX12_copy_102 ?_
                    refine J.iload dX12_copy_103 rfl ?_
                    refine J.i2l dX12_copy_105 ?_
                    refine J.ladd dX12_copy_106 ?_
                    refine J.aload_n dX12_copy_107 rfl rfl ?_
                    refine J.getR (r := 113) dX12_copy_108 fX12_114 (hT.k 79 rfl) rfl (hT.r 79 42 rfl rfl) ?_
                    refine J.atpc (pc' := 111) rfl ?_
                    refine J.iload_n dX12_copy_111 rfl rfl ?_
                    obtain ⟨hs15, h⟩ := h
                    refine J.iald dX12_copy_112 (hT.k 113 rfl) (hT.l 113 rfl) hs15 ?_
                    refine J.i2l dX12_copy_113 ?_
                    refine J.lcmp dX12_copy_114 ?_
                    refine J.if_le (tgt := 125) dX12_copy_115 (by decide) (fun hc16 => ?_) (fun hc16 => ?_)
                    · have h := h.1 hc16
                      refine J.iconst (v := 0) dX12_copy_125 (by decide) ?_
                      refine J.istore (ls' := [some (.ref 79), some (.int a1), some (.int a2), some (.int a3), some (.int a4), some (.int a5), some (.int 0)]) dX12_copy_126 rfl rfl ?_
                      exact J.weaken (ls' := [some (.ref 79), some (.int a1), some (.int a2), some (.int a3), some (.int a4), some (.int a5), some (.int 0)]) (And.intro rfl (And.intro rfl (And.intro rfl (And.intro rfl (And.intro rfl (And.intro rfl (And.intro rfl trivial))))))) (hK128 0 I h)
                    · have h := h.2 hc16
                      refine J.aload_n dX12_copy_118 rfl rfl ?_
                      refine J.ldc (v := (-1000001)) dX12_copy_119 kcX12_199 ?_
                      refine J.callVE (k := 79) (as := [.int (-1000001)]) (rest := []) dX12_copy_121 kX12_finds vX12_finds lX12_200 (hT.k 79 rfl) rfl rfl rfl rfl rfl (by omega) (Nat.le_refl _) (Nat.le_refl _) (qX12_finds (d + 1) hT (-1000001) ) ?_
                      exact J.iretQ dX12_copy_124 rfl (Nat.le_refl _) (Nat.le_refl _) h
          · have h := h.2 hc9
            refine J.aload_n dX12_copy_62 rfl rfl ?_
            refine J.ldc (v := (-1000004)) dX12_copy_63 kcX12_242 ?_
            refine J.callVE (k := 79) (as := [.int (-1000004)]) (rest := []) dX12_copy_65 kX12_finds vX12_finds lX12_200 (hT.k 79 rfl) rfl rfl rfl rfl rfl (by omega) (Nat.le_refl _) (Nat.le_refl _) (qX12_finds (d + 1) hT (-1000004) ) ?_
            exact J.iretQ dX12_copy_68 rfl (Nat.le_refl _) (Nat.le_refl _) h
        · have h := h.2 hc6
          refine J.aload_n dX12_copy_39 rfl rfl ?_
          refine J.ldcw (v := (-1000007)) dX12_copy_40 kcX12_351 ?_
          refine J.callVE (k := 79) (as := [.int (-1000007)]) (rest := []) dX12_copy_43 kX12_finds vX12_finds lX12_200 (hT.k 79 rfl) rfl rfl rfl rfl rfl (by omega) (Nat.le_refl _) (Nat.le_refl _) (qX12_finds (d + 1) hT (-1000007) ) ?_
          exact J.iretQ dX12_copy_46 rfl (Nat.le_refl _) (Nat.le_refl _) h
    · have h := h.2 hc2
      refine J.aload_n dX12_copy_14 rfl rfl ?_
      refine J.ldc (v := (-1000001)) dX12_copy_15 kcX12_199 ?_
      refine J.callVE (k := 79) (as := [.int (-1000001)]) (rest := []) dX12_copy_17 kX12_finds vX12_finds lX12_200 (hT.k 79 rfl) rfl rfl rfl rfl rfl (by omega) (Nat.le_refl _) (Nat.le_refl _) (qX12_finds (d + 1) hT (-1000001) ) ?_
      exact J.iretQ dX12_copy_20 rfl (Nat.le_refl _) (Nat.le_refl _) h
set_option maxHeartbeats 4000000 in
set_option maxRecDepth 100000 in
theorem sX12_copy_128 (d : Nat) {T : Topo} (hT : Lay T) (a1 : Int32) (a2 : Int32) (a3 : Int32) (a4 : Int32) (a5 : Int32)    {Q : Int32 → Topo → IM → Prop} {K128 : Int32 → IM → Prop} {K165 : Int32 → IM → Prop} (hK128 : ∀ (v6 : Int32) (I : IM), K128 v6 I → J (d + 2) mX12_copy (PI Q) 0 0 128 [some (.ref 79), some (.int a1), some (.int a2), some (.int a3), some (.int a4), some (.int a5), some (.int v6)] [] T I 0 0) (hK165 : ∀ (v6 : Int32) (I : IM), K165 v6 I → J (d + 2) mX12_copy (PI Q) 0 0 165 [some (.ref 79), none, none, some (.int a3), some (.int a4), some (.int a5), some (.int v6)] [] T I 0 0) (v6 : Int32) (I : IM) (h : fX12_copy_128 T a1 a2 a3 a4 a5 Q K128 K165 v6 I) : J (d + 2) mX12_copy (PI Q) 0 0 128 [some (.ref 79), some (.int a1), some (.int a2), some (.int a3), some (.int a4), some (.int a5), some (.int v6)] [] T I 0 0 := by
  unfold fX12_copy_128 at h
  refine J.iload dX12_copy_128 rfl ?_
  refine J.iload dX12_copy_130 rfl ?_
  refine J.icmp_ge (tgt := 162) dX12_copy_132 (by decide) (fun hc1 => ?_) (fun hc1 => ?_)
  · have h := h.1 hc1
    refine J.iconst (v := 0) dX12_copy_162 (by decide) ?_
    refine J.istore (ls' := [some (.ref 79), some (.int a1), some (.int a2), some (.int a3), some (.int a4), some (.int a5), some (.int 0)]) dX12_copy_163 rfl rfl ?_
    exact J.weaken (ls' := [some (.ref 79), none, none, some (.int a3), some (.int a4), some (.int a5), some (.int 0)]) (And.intro rfl (And.intro rfl (And.intro rfl (And.intro rfl (And.intro rfl trivial))))) (hK165 0 I h)
  · have h := h.2 hc1
    refine J.aload_n dX12_copy_135 rfl rfl ?_
    refine J.getR (r := 135) dX12_copy_136 fX12_180 (hT.k 79 rfl) rfl (hT.r 79 66 rfl rfl) ?_
    refine J.iload dX12_copy_139 rfl ?_
    refine J.aload_n dX12_copy_141 rfl rfl ?_
    refine J.getR (r := 114) dX12_copy_142 fX12_117 (hT.k 79 rfl) rfl (hT.r 79 43 rfl rfl) ?_
    refine J.bipush (v := 8) dX12_copy_145 (by decide) ?_
    refine J.iload_n dX12_copy_147 rfl rfl ?_
    refine J.atpc (pc' := 148) rfl ?_
    refine J.imul dX12_copy_148 ?_
    refine J.iload_n dX12_copy_149 rfl rfl ?_
    refine J.iadd dX12_copy_150 ?_
    refine J.iload dX12_copy_151 rfl ?_
    refine J.iadd dX12_copy_153 ?_
    obtain ⟨hs2, h⟩ := h
    refine J.iald dX12_copy_154 (hT.k 114 rfl) (hT.l 114 rfl) hs2 ?_
    obtain ⟨hs3, h⟩ := h
    refine J.iast dX12_copy_155 (hT.k 135 rfl) (hT.l 135 rfl) hs3 ?_
    refine J.iinc (v := (v6 + 1)) (ls' := [some (.ref 79), some (.int a1), some (.int a2), some (.int a3), some (.int a4), some (.int a5), some (.int (v6 + 1))]) dX12_copy_156 rfl (by rfl) rfl ?_
    refine J.goto (tgt := 128) dX12_copy_159 (by decide) ?_
    exact J.weaken (ls' := [some (.ref 79), some (.int a1), some (.int a2), some (.int a3), some (.int a4), some (.int a5), some (.int (v6 + 1))]) (And.intro rfl (And.intro rfl (And.intro rfl (And.intro rfl (And.intro rfl (And.intro rfl (And.intro rfl trivial))))))) (hK128 (v6 + 1) (up2 I 135 v6.toNatClampNeg (I 114 (((8 * a1) + a2) + v6).toNatClampNeg)) h)
set_option maxHeartbeats 4000000 in
set_option maxRecDepth 100000 in
theorem sX12_copy_165 (d : Nat) {T : Topo} (hT : Lay T) (a1 : Int32) (a2 : Int32) (a3 : Int32) (a4 : Int32) (a5 : Int32)    {Q : Int32 → Topo → IM → Prop} {K128 : Int32 → IM → Prop} {K165 : Int32 → IM → Prop} (hK128 : ∀ (v6 : Int32) (I : IM), K128 v6 I → J (d + 2) mX12_copy (PI Q) 0 0 128 [some (.ref 79), some (.int a1), some (.int a2), some (.int a3), some (.int a4), some (.int a5), some (.int v6)] [] T I 0 0) (hK165 : ∀ (v6 : Int32) (I : IM), K165 v6 I → J (d + 2) mX12_copy (PI Q) 0 0 165 [some (.ref 79), none, none, some (.int a3), some (.int a4), some (.int a5), some (.int v6)] [] T I 0 0) (v6 : Int32) (I : IM) (h : fX12_copy_165 T a1 a2 a3 a4 a5 Q K128 K165 v6 I) : J (d + 2) mX12_copy (PI Q) 0 0 165 [some (.ref 79), none, none, some (.int a3), some (.int a4), some (.int a5), some (.int v6)] [] T I 0 0 := by
  unfold fX12_copy_165 at h
  refine J.iload dX12_copy_165 rfl ?_
  refine J.iload dX12_copy_167 rfl ?_
  refine J.icmp_ge (tgt := 200) dX12_copy_169 (by decide) (fun hc1 => ?_) (fun hc1 => ?_)
  · have h := h.1 hc1
    refine J.iload dX12_copy_200 rfl ?_
    exact J.iretQ dX12_copy_202 rfl (Nat.le_refl _) (Nat.le_refl _) h
  · have h := h.2 hc1
    refine J.aload_n dX12_copy_172 rfl rfl ?_
    refine J.getR (r := 114) dX12_copy_173 fX12_117 (hT.k 79 rfl) rfl (hT.r 79 43 rfl rfl) ?_
    refine J.bipush (v := 8) dX12_copy_176 (by decide) ?_
    refine J.iload_n dX12_copy_178 rfl rfl ?_
    refine J.imul dX12_copy_179 ?_
    refine J.iload dX12_copy_180 rfl ?_
    refine J.iadd dX12_copy_182 ?_
    refine J.atpc (pc' := 183) rfl ?_
    refine J.iload dX12_copy_183 rfl ?_
    refine J.iadd dX12_copy_185 ?_
    refine J.aload_n dX12_copy_186 rfl rfl ?_
    refine J.getR (r := 135) dX12_copy_187 fX12_180 (hT.k 79 rfl) rfl (hT.r 79 66 rfl rfl) ?_
    refine J.iload dX12_copy_190 rfl ?_
    obtain ⟨hs2, h⟩ := h
    refine J.iald dX12_copy_192 (hT.k 135 rfl) (hT.l 135 rfl) hs2 ?_
    obtain ⟨hs3, h⟩ := h
    refine J.iast dX12_copy_193 (hT.k 114 rfl) (hT.l 114 rfl) hs3 ?_
    refine J.iinc (v := (v6 + 1)) (ls' := [some (.ref 79), none, none, some (.int a3), some (.int a4), some (.int a5), some (.int (v6 + 1))]) dX12_copy_194 rfl (by rfl) rfl ?_
    refine J.goto (tgt := 165) dX12_copy_197 (by decide) ?_
    exact J.weaken (ls' := [some (.ref 79), none, none, some (.int a3), some (.int a4), some (.int a5), some (.int (v6 + 1))]) (And.intro rfl (And.intro rfl (And.intro rfl (And.intro rfl (And.intro rfl trivial))))) (hK165 (v6 + 1) (up2 I 114 (((8 * a3) + a4) + v6).toNatClampNeg (I 135 v6.toNatClampNeg)) h)
set_option maxHeartbeats 4000000 in
set_option maxRecDepth 100000 in
theorem wX12_copy (d : Nat) {T : Topo} (hT : Lay T) (a1 : Int32) (a2 : Int32) (a3 : Int32) (a4 : Int32) (a5 : Int32)   {Q : Int32 → Topo → IM → Prop} (V128 : Int32 → IM → Prop) (μ128 : Int32 → IM → Nat) (V165 : Int32 → IM → Prop) (μ165 : Int32 → IM → Nat) (vc128 : ∀ (v6 : Int32) (I : IM), V128 v6 I → fX12_copy_128 T a1 a2 a3 a4 a5 Q (fun w6 I_ => V128 w6 I_ ∧ μ128 w6 I_ < μ128 v6 I) (fun w6 I_ => V165 w6 I_ ∧ μ165 w6 I_ < μ128 v6 I) v6 I) (vc165 : ∀ (v6 : Int32) (I : IM), V165 v6 I → fX12_copy_165 T a1 a2 a3 a4 a5 Q (fun w6 I_ => V128 w6 I_ ∧ μ128 w6 I_ < μ165 v6 I) (fun w6 I_ => V165 w6 I_ ∧ μ165 w6 I_ < μ165 v6 I) v6 I) {I : IM} (h : fX12_copy_0 T a1 a2 a3 a4 a5 Q V128 V165 I) : Ct (d + 2) mX12_copy [.ref 79, .int a1, .int a2, .int a3, .int a4, .int a5] T I 0 0 (PI Q) := by
  have all : ∀ n : Nat, (∀ (v6 : Int32) (I : IM), V128 v6 I → μ128 v6 I < n → J (d + 2) mX12_copy (PI Q) 0 0 128 [some (.ref 79), some (.int a1), some (.int a2), some (.int a3), some (.int a4), some (.int a5), some (.int v6)] [] T I 0 0) ∧ (∀ (v6 : Int32) (I : IM), V165 v6 I → μ165 v6 I < n → J (d + 2) mX12_copy (PI Q) 0 0 165 [some (.ref 79), none, none, some (.int a3), some (.int a4), some (.int a5), some (.int v6)] [] T I 0 0) := by
    intro n
    induction n with
    | zero => exact ⟨fun _ _ _ hn => absurd hn (Nat.not_lt_zero _), fun _ _ _ hn => absurd hn (Nat.not_lt_zero _)⟩
    | succ n ih =>
      exact ⟨fun v6 I hv hn => sX12_copy_128 d hT a1 a2 a3 a4 a5   (fun w6 I_ hw => ih.1 w6 I_ hw.1 (by have := hw.2; omega)) (fun w6 I_ hw => ih.2 w6 I_ hw.1 (by have := hw.2; omega)) v6 I (vc128 v6 I hv), fun v6 I hv hn => sX12_copy_165 d hT a1 a2 a3 a4 a5   (fun w6 I_ hw => ih.1 w6 I_ hw.1 (by have := hw.2; omega)) (fun w6 I_ hw => ih.2 w6 I_ hw.1 (by have := hw.2; omega)) v6 I (vc165 v6 I hv)⟩
  exact Ct.ofJ (by decide +kernel) rfl (by intro v hv; revert v hv; simp [Value.category]) rfl (sX12_copy_0 d hT a1 a2 a3 a4 a5   (fun w6 I_ hw => (all (μ128 w6 I_ + 1)).1 w6 I_ hw (Nat.lt_succ_self _)) (fun w6 I_ hw => (all (μ165 w6 I_ + 1)).2 w6 I_ hw (Nat.lt_succ_self _)) I h)

def jX12_copyB128 (a1 : Int32) (a2 : Int32) (a3 : Int32) (a4 : Int32) (a5 : Int32) (F : (Nat → Int32 → IM → Int32 × IM)) (v6 : Int32) (I : IM) : Int32 × IM := (if a5 ≤ v6 then (F 1 0 I) else (F 0 (v6 + 1) (up2 I 135 v6.toNatClampNeg (I 114 (((8 * a1) + a2) + v6).toNatClampNeg))))
def jX12_copyC128 (a1 : Int32) (a2 : Int32) (a3 : Int32) (a4 : Int32) (a5 : Int32) (F : (Nat → Int32 → IM → Prop)) (v6 : Int32) (I : IM) : Prop := (((a5 ≤ v6) → (F 1 0 I)) ∧ ((¬ a5 ≤ v6) → (vp_in (((8 * a1) + a2) + v6) 32 ∧ (vp_in v6 8 ∧ (F 0 (v6 + 1) (up2 I 135 v6.toNatClampNeg (I 114 (((8 * a1) + a2) + v6).toNatClampNeg)))))))
def jX12_copyB165 (a1 : Int32) (a2 : Int32) (a3 : Int32) (a4 : Int32) (a5 : Int32) (F : (Nat → Int32 → IM → Int32 × IM)) (v6 : Int32) (I : IM) : Int32 × IM := (if a5 ≤ v6 then (a5, I) else (F 1 (v6 + 1) (up2 I 114 (((8 * a3) + a4) + v6).toNatClampNeg (I 135 v6.toNatClampNeg))))
def jX12_copyC165 (a1 : Int32) (a2 : Int32) (a3 : Int32) (a4 : Int32) (a5 : Int32) (F : (Nat → Int32 → IM → Prop)) (v6 : Int32) (I : IM) : Prop := (((a5 ≤ v6) → True) ∧ ((¬ a5 ≤ v6) → (vp_in v6 8 ∧ (vp_in (((8 * a3) + a4) + v6) 32 ∧ (F 1 (v6 + 1) (up2 I 114 (((8 * a3) + a4) + v6).toNatClampNeg (I 135 v6.toNatClampNeg)))))))
def jX12_copyI (a1 : Int32) (a2 : Int32) (a3 : Int32) (a4 : Int32) (a5 : Int32) : Nat → Nat → Int32 → IM → Int32 × IM
  | 0 => fun _ _ I => (0, I)
  | n + 1 => fun tg v6 I => (if tg = 0 then jX12_copyB128 a1 a2 a3 a4 a5 (jX12_copyI a1 a2 a3 a4 a5 n) v6 I else (if tg = 1 then jX12_copyB165 a1 a2 a3 a4 a5 (jX12_copyI a1 a2 a3 a4 a5 n) v6 I else (0, I)))
def jX12_copyO (a1 : Int32) (a2 : Int32) (a3 : Int32) (a4 : Int32) (a5 : Int32) : Nat → Nat → Int32 → IM → Prop
  | 0 => fun _ _ _ => False
  | n + 1 => fun tg v6 I => (if tg = 0 then jX12_copyC128 a1 a2 a3 a4 a5 (jX12_copyO a1 a2 a3 a4 a5 n) v6 I else (if tg = 1 then jX12_copyC165 a1 a2 a3 a4 a5 (jX12_copyO a1 a2 a3 a4 a5 n) v6 I else True))
theorem jX12_copyI_128 (a1 : Int32) (a2 : Int32) (a3 : Int32) (a4 : Int32) (a5 : Int32) (n : Nat) (v6 : Int32) (I : IM) : jX12_copyI a1 a2 a3 a4 a5 (n + 1) 0 v6 I = (if a5 ≤ v6 then (jX12_copyI a1 a2 a3 a4 a5 n 1 0 I) else (jX12_copyI a1 a2 a3 a4 a5 n 0 (v6 + 1) (up2 I 135 v6.toNatClampNeg (I 114 (((8 * a1) + a2) + v6).toNatClampNeg)))) := by
  show (if (0 : Nat) = 0 then jX12_copyB128 a1 a2 a3 a4 a5 (jX12_copyI a1 a2 a3 a4 a5 n) v6 I else (if (0 : Nat) = 1 then jX12_copyB165 a1 a2 a3 a4 a5 (jX12_copyI a1 a2 a3 a4 a5 n) v6 I else (0, I))) = _
  rw [if_pos rfl]; rfl
theorem jX12_copyO_128 (a1 : Int32) (a2 : Int32) (a3 : Int32) (a4 : Int32) (a5 : Int32) (n : Nat) (v6 : Int32) (I : IM) : jX12_copyO a1 a2 a3 a4 a5 (n + 1) 0 v6 I = (((a5 ≤ v6) → (jX12_copyO a1 a2 a3 a4 a5 n 1 0 I)) ∧ ((¬ a5 ≤ v6) → (vp_in (((8 * a1) + a2) + v6) 32 ∧ (vp_in v6 8 ∧ (jX12_copyO a1 a2 a3 a4 a5 n 0 (v6 + 1) (up2 I 135 v6.toNatClampNeg (I 114 (((8 * a1) + a2) + v6).toNatClampNeg))))))) := by
  show (if (0 : Nat) = 0 then jX12_copyC128 a1 a2 a3 a4 a5 (jX12_copyO a1 a2 a3 a4 a5 n) v6 I else (if (0 : Nat) = 1 then jX12_copyC165 a1 a2 a3 a4 a5 (jX12_copyO a1 a2 a3 a4 a5 n) v6 I else True)) = _
  rw [if_pos rfl]; rfl
theorem jX12_copyI_165 (a1 : Int32) (a2 : Int32) (a3 : Int32) (a4 : Int32) (a5 : Int32) (n : Nat) (v6 : Int32) (I : IM) : jX12_copyI a1 a2 a3 a4 a5 (n + 1) 1 v6 I = (if a5 ≤ v6 then (a5, I) else (jX12_copyI a1 a2 a3 a4 a5 n 1 (v6 + 1) (up2 I 114 (((8 * a3) + a4) + v6).toNatClampNeg (I 135 v6.toNatClampNeg)))) := by
  show (if (1 : Nat) = 0 then jX12_copyB128 a1 a2 a3 a4 a5 (jX12_copyI a1 a2 a3 a4 a5 n) v6 I else (if (1 : Nat) = 1 then jX12_copyB165 a1 a2 a3 a4 a5 (jX12_copyI a1 a2 a3 a4 a5 n) v6 I else (0, I))) = _
  rw [if_neg (by decide), if_pos rfl]; rfl
theorem jX12_copyO_165 (a1 : Int32) (a2 : Int32) (a3 : Int32) (a4 : Int32) (a5 : Int32) (n : Nat) (v6 : Int32) (I : IM) : jX12_copyO a1 a2 a3 a4 a5 (n + 1) 1 v6 I = (((a5 ≤ v6) → True) ∧ ((¬ a5 ≤ v6) → (vp_in v6 8 ∧ (vp_in (((8 * a3) + a4) + v6) 32 ∧ (jX12_copyO a1 a2 a3 a4 a5 n 1 (v6 + 1) (up2 I 114 (((8 * a3) + a4) + v6).toNatClampNeg (I 135 v6.toNatClampNeg))))))) := by
  show (if (1 : Nat) = 0 then jX12_copyC128 a1 a2 a3 a4 a5 (jX12_copyO a1 a2 a3 a4 a5 n) v6 I else (if (1 : Nat) = 1 then jX12_copyC165 a1 a2 a3 a4 a5 (jX12_copyO a1 a2 a3 a4 a5 n) v6 I else True)) = _
  rw [if_neg (by decide), if_pos rfl]; rfl
def jX12_copy (I : IM) (a1 : Int32) (a2 : Int32) (a3 : Int32) (a4 : Int32) (a5 : Int32) : Int32 × IM := (if wi a1 0 3 then (if wi a3 0 3 then (if (I 112 a1.toNatClampNeg) = 0 then ((jX12_finds (-1000007)), (jX12_findsM I)) else (if (I 112 a3.toNatClampNeg) = 0 then ((jX12_finds (-1000007)), (jX12_findsM I)) else (if (I 112 a1.toNatClampNeg) = (I 112 a3.toNatClampNeg) then (if a2 < 0 then ((jX12_finds (-1000001)), (jX12_findsM I)) else (if a4 < 0 then ((jX12_finds (-1000001)), (jX12_findsM I)) else (if a5 < 0 then ((jX12_finds (-1000001)), (jX12_findsM I)) else (if 0 < (lg_cmp (a2.toInt64 + a5.toInt64) ((I 113 a1.toNatClampNeg).toInt64)) then ((jX12_finds (-1000001)), (jX12_findsM I)) else (if (lg_cmp (a4.toInt64 + a5.toInt64) ((I 113 a3.toNatClampNeg).toInt64)) ≤ 0 then (jX12_copyI a1 a2 a3 a4 a5 FU 0 0 I) else ((jX12_finds (-1000001)), (jX12_findsM I))))))) else ((jX12_finds (-1000004)), (jX12_findsM I))))) else ((jX12_finds (-1000001)), (jX12_findsM I))) else ((jX12_finds (-1000001)), (jX12_findsM I)))
def jX12_copyK (I : IM) (a1 : Int32) (a2 : Int32) (a3 : Int32) (a4 : Int32) (a5 : Int32) : Prop := (((¬ (wi a1 0 3)) → True) ∧ ((wi a1 0 3) → (((wi a3 0 3) → (vp_in a1 4 ∧ ((((I 112 a1.toNatClampNeg) = 0) → True) ∧ ((¬ (I 112 a1.toNatClampNeg) = 0) → (vp_in a3 4 ∧ (((¬ (I 112 a3.toNatClampNeg) = 0) → (vp_in a1 4 ∧ (vp_in a3 4 ∧ ((((I 112 a1.toNatClampNeg) = (I 112 a3.toNatClampNeg)) → (((a2 < 0) → True) ∧ ((¬ a2 < 0) → (((a4 < 0) → True) ∧ ((¬ a4 < 0) → (((a5 < 0) → True) ∧ ((¬ a5 < 0) → (vp_in a1 4 ∧ (((0 < (lg_cmp (a2.toInt64 + a5.toInt64) ((I 113 a1.toNatClampNeg).toInt64))) → True) ∧ ((¬ 0 < (lg_cmp (a2.toInt64 + a5.toInt64) ((I 113 a1.toNatClampNeg).toInt64))) → (vp_in a3 4 ∧ ((((lg_cmp (a4.toInt64 + a5.toInt64) ((I 113 a3.toNatClampNeg).toInt64)) ≤ 0) → (jX12_copyO a1 a2 a3 a4 a5 FU 0 0 I)) ∧ ((¬ (lg_cmp (a4.toInt64 + a5.toInt64) ((I 113 a3.toNatClampNeg).toInt64)) ≤ 0) → True))))))))))))) ∧ ((¬ (I 112 a1.toNatClampNeg) = (I 112 a3.toNatClampNeg)) → True))))) ∧ (((I 112 a3.toNatClampNeg) = 0) → True))))))) ∧ ((¬ (wi a3 0 3)) → True))))
set_option maxRecDepth 10000 in
set_option maxHeartbeats 1000000 in
theorem uX12_copy (d : Nat) {T : Topo} (hT : Lay T) (a1 : Int32) (a2 : Int32) (a3 : Int32) (a4 : Int32) (a5 : Int32)   {R : Int32 × IM} : ∀ n : Nat, (∀ (v6 : Int32) (I : IM), jX12_copyO a1 a2 a3 a4 a5 n 0 v6 I → jX12_copyI a1 a2 a3 a4 a5 n 0 v6 I = R → J (d + 2) mX12_copy (PI (fun x T' I' => T' = T ∧ x = R.1 ∧ I' = R.2)) 0 0 128 [some (.ref 79), some (.int a1), some (.int a2), some (.int a3), some (.int a4), some (.int a5), some (.int v6)] [] T I 0 0) ∧ (∀ (v6 : Int32) (I : IM), jX12_copyO a1 a2 a3 a4 a5 n 1 v6 I → jX12_copyI a1 a2 a3 a4 a5 n 1 v6 I = R → J (d + 2) mX12_copy (PI (fun x T' I' => T' = T ∧ x = R.1 ∧ I' = R.2)) 0 0 165 [some (.ref 79), none, none, some (.int a3), some (.int a4), some (.int a5), some (.int v6)] [] T I 0 0) := by
  intro n
  induction n with
  | zero => exact ⟨fun _ _ hz => hz.elim, fun _ _ hz => hz.elim⟩
  | succ n ih =>
    refine ⟨?_, ?_⟩
    · exact fun v6 I hok hit => by
        rw [jX12_copyO_128] at hok
        exact sX12_copy_128 d hT a1 a2 a3 a4 a5   (K128 := fun w6 I_ => (jX12_copyO a1 a2 a3 a4 a5 n 0 w6 I_ ∧ jX12_copyI a1 a2 a3 a4 a5 n 0 w6 I_ = R)) (K165 := fun w6 I_ => (jX12_copyO a1 a2 a3 a4 a5 n 1 w6 I_ ∧ jX12_copyI a1 a2 a3 a4 a5 n 1 w6 I_ = R)) (fun w6 I_ hw => ih.1 w6 I_ hw.1 hw.2) (fun w6 I_ hw => ih.2 w6 I_ hw.1 hw.2) v6 I (by
          unfold fX12_copy_128
          exact ⟨fun hc1 => ⟨(hok).1 hc1, by rw [jX12_copyI_128, if_pos hc1] at hit; exact hit⟩, fun hc1 => ⟨((hok).2 hc1).1, ⟨(((hok).2 hc1).2).1, ⟨(((hok).2 hc1).2).2, by rw [jX12_copyI_128, if_neg hc1] at hit; exact hit⟩⟩⟩⟩)
    · exact fun v6 I hok hit => by
        rw [jX12_copyO_165] at hok
        exact sX12_copy_165 d hT a1 a2 a3 a4 a5   (K128 := fun w6 I_ => (jX12_copyO a1 a2 a3 a4 a5 n 0 w6 I_ ∧ jX12_copyI a1 a2 a3 a4 a5 n 0 w6 I_ = R)) (K165 := fun w6 I_ => (jX12_copyO a1 a2 a3 a4 a5 n 1 w6 I_ ∧ jX12_copyI a1 a2 a3 a4 a5 n 1 w6 I_ = R)) (fun w6 I_ hw => ih.1 w6 I_ hw.1 hw.2) (fun w6 I_ hw => ih.2 w6 I_ hw.1 hw.2) v6 I (by
          unfold fX12_copy_165
          exact ⟨fun hc1 => (by rw [jX12_copyI_165, if_pos hc1] at hit; exact ⟨rfl, by rw [← hit], by rw [← hit]⟩), fun hc1 => ⟨((hok).2 hc1).1, ⟨(((hok).2 hc1).2).1, ⟨(((hok).2 hc1).2).2, by rw [jX12_copyI_165, if_neg hc1] at hit; exact hit⟩⟩⟩⟩)
set_option maxRecDepth 10000 in
set_option maxHeartbeats 1000000 in
theorem qX12_copy (d : Nat) {T : Topo} {I : IM} (hT : Lay T) (a1 : Int32) (a2 : Int32) (a3 : Int32) (a4 : Int32) (a5 : Int32)  (hp : (jX12_copyK I a1 a2 a3 a4 a5)) : CtI (d + 2) mX12_copy [.ref 79, .int a1, .int a2, .int a3, .int a4, .int a5] T I (fun x_ J_ => x_ = (jX12_copy I a1 a2 a3 a4 a5).1 ∧ J_ = (jX12_copy I a1 a2 a3 a4 a5).2) := by
  unfold jX12_copyK at hp
  exact Ct.ofJ (by decide +kernel) rfl (by intro v hv; revert v hv; simp [Value.category]) rfl (sX12_copy_0 d hT a1 a2 a3 a4 a5   (K128 := fun w6 I_ => (jX12_copyO a1 a2 a3 a4 a5 FU 0 w6 I_ ∧ jX12_copyI a1 a2 a3 a4 a5 FU 0 w6 I_ = (jX12_copy I a1 a2 a3 a4 a5))) (K165 := fun w6 I_ => (jX12_copyO a1 a2 a3 a4 a5 FU 1 w6 I_ ∧ jX12_copyI a1 a2 a3 a4 a5 FU 1 w6 I_ = (jX12_copy I a1 a2 a3 a4 a5))) (fun w6 I_ hw => (uX12_copy d hT a1 a2 a3 a4 a5   FU).1 w6 I_ hw.1 hw.2) (fun w6 I_ hw => (uX12_copy d hT a1 a2 a3 a4 a5   FU).2 w6 I_ hw.1 hw.2) I (by
    unfold fX12_copy_0
    exact ⟨fun hc1 => ⟨rfl, by unfold jX12_copy; rw [if_neg hc1], by unfold jX12_copy; rw [if_neg hc1]⟩, fun hc1 => ⟨fun hc2 => ⟨(((hp).2 hc1).1 hc2).1, ⟨fun hc3 => ⟨rfl, by unfold jX12_copy; rw [if_pos hc1, if_pos hc2, if_pos hc3], by unfold jX12_copy; rw [if_pos hc1, if_pos hc2, if_pos hc3]⟩, fun hc3 => ⟨(((((hp).2 hc1).1 hc2).2).2 hc3).1, ⟨fun hc4 => ⟨(((((((hp).2 hc1).1 hc2).2).2 hc3).2).1 hc4).1, ⟨((((((((hp).2 hc1).1 hc2).2).2 hc3).2).1 hc4).2).1, ⟨fun hc5 => ⟨fun hc6 => ⟨rfl, by unfold jX12_copy; rw [if_pos hc1, if_pos hc2, if_neg hc3, if_neg hc4, if_pos hc5, if_pos hc6], by unfold jX12_copy; rw [if_pos hc1, if_pos hc2, if_neg hc3, if_neg hc4, if_pos hc5, if_pos hc6]⟩, fun hc6 => ⟨fun hc7 => ⟨rfl, by unfold jX12_copy; rw [if_pos hc1, if_pos hc2, if_neg hc3, if_neg hc4, if_pos hc5, if_neg hc6, if_pos hc7], by unfold jX12_copy; rw [if_pos hc1, if_pos hc2, if_neg hc3, if_neg hc4, if_pos hc5, if_neg hc6, if_pos hc7]⟩, fun hc7 => ⟨fun hc8 => ⟨rfl, by unfold jX12_copy; rw [if_pos hc1, if_pos hc2, if_neg hc3, if_neg hc4, if_pos hc5, if_neg hc6, if_neg hc7, if_pos hc8], by unfold jX12_copy; rw [if_pos hc1, if_pos hc2, if_neg hc3, if_neg hc4, if_pos hc5, if_neg hc6, if_neg hc7, if_pos hc8]⟩, fun hc8 => ⟨(((((((((((((hp).2 hc1).1 hc2).2).2 hc3).2).1 hc4).2).2).1 hc5).2 hc6).2 hc7).2 hc8).1, ⟨fun hc9 => ⟨rfl, by unfold jX12_copy; rw [if_pos hc1, if_pos hc2, if_neg hc3, if_neg hc4, if_pos hc5, if_neg hc6, if_neg hc7, if_neg hc8, if_pos hc9], by unfold jX12_copy; rw [if_pos hc1, if_pos hc2, if_neg hc3, if_neg hc4, if_pos hc5, if_neg hc6, if_neg hc7, if_neg hc8, if_pos hc9]⟩, fun hc9 => ⟨(((((((((((((((hp).2 hc1).1 hc2).2).2 hc3).2).1 hc4).2).2).1 hc5).2 hc6).2 hc7).2 hc8).2).2 hc9).1, ⟨fun hc10 => ⟨((((((((((((((((hp).2 hc1).1 hc2).2).2 hc3).2).1 hc4).2).2).1 hc5).2 hc6).2 hc7).2 hc8).2).2 hc9).2).1 hc10, by unfold jX12_copy; rw [if_pos hc1, if_pos hc2, if_neg hc3, if_neg hc4, if_pos hc5, if_neg hc6, if_neg hc7, if_neg hc8, if_neg hc9, if_pos hc10]⟩, fun hc10 => ⟨rfl, by unfold jX12_copy; rw [if_pos hc1, if_pos hc2, if_neg hc3, if_neg hc4, if_pos hc5, if_neg hc6, if_neg hc7, if_neg hc8, if_neg hc9, if_neg hc10], by unfold jX12_copy; rw [if_pos hc1, if_pos hc2, if_neg hc3, if_neg hc4, if_pos hc5, if_neg hc6, if_neg hc7, if_neg hc8, if_neg hc9, if_neg hc10]⟩⟩⟩⟩⟩⟩⟩⟩, fun hc5 => ⟨rfl, by unfold jX12_copy; rw [if_pos hc1, if_pos hc2, if_neg hc3, if_neg hc4, if_neg hc5], by unfold jX12_copy; rw [if_pos hc1, if_pos hc2, if_neg hc3, if_neg hc4, if_neg hc5]⟩⟩⟩⟩, fun hc4 => ⟨rfl, by unfold jX12_copy; rw [if_pos hc1, if_pos hc2, if_neg hc3, if_pos hc4], by unfold jX12_copy; rw [if_pos hc1, if_pos hc2, if_neg hc3, if_pos hc4]⟩⟩⟩⟩⟩, fun hc2 => ⟨rfl, by unfold jX12_copy; rw [if_pos hc1, if_neg hc2], by unfold jX12_copy; rw [if_pos hc1, if_neg hc2]⟩⟩⟩))

end
