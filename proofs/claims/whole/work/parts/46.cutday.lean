noncomputable section
def fX1_roomOutOf_0 (T : Topo) (a2 : Int32) (Q : Int32 → Topo → IM → Prop) (K5 : Int32 → Int32 → IM → Prop) (I : IM) : Prop :=
  K5 0 0 I
def fX1_roomOutOf_5 (T : Topo) (a2 : Int32) (Q : Int32 → Topo → IM → Prop) (K5 : Int32 → Int32 → IM → Prop) (v3 v4 : Int32) (I : IM) : Prop :=
  ((((I 1 4) ≤ v4) → Q v3 T I) ∧ ((¬ (I 1 4) ≤ v4) → ((vp_in v4 9) ∧ (((vp_in v4 9) ∧ (((((bI (hs a2 (I (6 + (v4).toNatClampNeg) 0))) = (bI (hs a2 (I (6 + (v4).toNatClampNeg) 1)))) → K5 v3 (v4 + 1) I) ∧ ((¬ (bI (hs a2 (I (6 + (v4).toNatClampNeg) 0))) = (bI (hs a2 (I (6 + (v4).toNatClampNeg) 1)))) → (vp_in v4 9 ∧ K5 (v3 + (I 55 v4.toNatClampNeg)) (v4 + 1) I)))))))))
set_option maxHeartbeats 4000000 in
set_option maxRecDepth 100000 in
theorem sX1_roomOutOf_0 (d : Nat) {T : Topo} (hT : Lay T) (a2 : Int32)    {Q : Int32 → Topo → IM → Prop} {K5 : Int32 → Int32 → IM → Prop} (hK5 : ∀ (v3 v4 : Int32) (I : IM), K5 v3 v4 I → J (d + 1) mX1_roomOutOf (PI Q) 0 0 5 [some (.ref 54), some (.ref 1), some (.int a2), some (.int v3), some (.int v4)] [] T I 0 0) (I : IM) (h : fX1_roomOutOf_0 T a2 Q K5 I) : J (d + 1) mX1_roomOutOf (PI Q) 0 0 0 [some (.ref 54), some (.ref 1), some (.int a2), none, none] [] T I 0 0 := by
  unfold fX1_roomOutOf_0 at h
  refine J.iconst (v := 0) dX1_roomOutOf_0 (by decide) ?_
  refine J.istore_n (ls' := [some (.ref 54), some (.ref 1), some (.int a2), some (.int 0), none]) dX1_roomOutOf_1 rfl rfl rfl ?_
  refine J.iconst (v := 0) dX1_roomOutOf_2 (by decide) ?_
  refine J.istore (ls' := [some (.ref 54), some (.ref 1), some (.int a2), some (.int 0), some (.int 0)]) dX1_roomOutOf_3 rfl rfl ?_
  exact J.weaken (ls' := [some (.ref 54), some (.ref 1), some (.int a2), some (.int 0), some (.int 0)]) (And.intro rfl (And.intro rfl (And.intro rfl (And.intro rfl (And.intro rfl trivial))))) (hK5 0 0 I h)
set_option maxHeartbeats 4000000 in
set_option maxRecDepth 100000 in
theorem sX1_roomOutOf_5 (d : Nat) {T : Topo} (hT : Lay T) (a2 : Int32)    {Q : Int32 → Topo → IM → Prop} {K5 : Int32 → Int32 → IM → Prop} (hK5 : ∀ (v3 v4 : Int32) (I : IM), K5 v3 v4 I → J (d + 1) mX1_roomOutOf (PI Q) 0 0 5 [some (.ref 54), some (.ref 1), some (.int a2), some (.int v3), some (.int v4)] [] T I 0 0) (v3 v4 : Int32) (I : IM) (h : fX1_roomOutOf_5 T a2 Q K5 v3 v4 I) : J (d + 1) mX1_roomOutOf (PI Q) 0 0 5 [some (.ref 54), some (.ref 1), some (.int a2), some (.int v3), some (.int v4)] [] T I 0 0 := by
  unfold fX1_roomOutOf_5 at h
  refine J.iload dX1_roomOutOf_5 rfl ?_
  refine J.aload_n dX1_roomOutOf_7 rfl rfl ?_
  refine J.getI dX1_roomOutOf_8 fX1_15 (hT.k 1 rfl) rfl ?_
  refine J.icmp_ge (tgt := 59) dX1_roomOutOf_11 (by decide) (fun hc1 => ?_) (fun hc1 => ?_)
  · have h := h.1 hc1
    refine J.iload_n dX1_roomOutOf_59 rfl rfl ?_
    exact J.iretQ dX1_roomOutOf_60 rfl (Nat.le_refl _) (Nat.le_refl _) h
  · have h := h.2 hc1
    refine J.iload_n dX1_roomOutOf_14 rfl rfl ?_
    refine J.aload_n dX1_roomOutOf_15 rfl rfl ?_
    refine J.iload dX1_roomOutOf_16 rfl ?_
    obtain ⟨hp2, h⟩ := h
    refine J.callVF (r := (6 + (v4).toNatClampNeg)) (k := 1) (as := [.int v4]) (rest := [.int a2]) dX1_roomOutOf_18 kX5_lineAt vX5_lineAt lX1_49 (hT.k 1 rfl) rfl rfl rfl rfl rfl (by omega) (Nat.le_refl _) (Nat.le_refl _) (qX5_lineAt (d + 0) hT v4 hp2) ?_
    refine J.getI dX1_roomOutOf_21 fX1_53 (hT.lineK (vp_lt hp2)) rfl ?_
    refine J.callSP (as := [.int a2, .int (I (6 + (v4).toNatClampNeg) 0)]) (rest := []) dX1_roomOutOf_24 kX11_has vX11_has lX1_37 rfl rfl rfl (by omega) (Nat.le_refl _) (Nat.le_refl _) (qX11_has (d + 0) hT a2 (I (6 + (v4).toNatClampNeg) 0) ) ?_
    refine J.iload_n dX1_roomOutOf_27 rfl rfl ?_
    refine J.aload_n dX1_roomOutOf_28 rfl rfl ?_
    refine J.iload dX1_roomOutOf_29 rfl ?_
    obtain ⟨hp3, h⟩ := h
    refine J.callVF (r := (6 + (v4).toNatClampNeg)) (k := 1) (as := [.int v4]) (rest := [.int a2, .int (bI (hs a2 (I (6 + (v4).toNatClampNeg) 0)))]) dX1_roomOutOf_31 kX5_lineAt vX5_lineAt lX1_49 (hT.k 1 rfl) rfl rfl rfl rfl rfl (by omega) (Nat.le_refl _) (Nat.le_refl _) (qX5_lineAt (d + 0) hT v4 hp3) ?_
    refine J.getI dX1_roomOutOf_34 fX1_58 (hT.lineK (vp_lt hp3)) rfl ?_
    refine J.callSP (as := [.int a2, .int (I (6 + (v4).toNatClampNeg) 1)]) (rest := [.int (bI (hs a2 (I (6 + (v4).toNatClampNeg) 0)))]) dX1_roomOutOf_37 kX11_has vX11_has lX1_37 rfl rfl rfl (by omega) (Nat.le_refl _) (Nat.le_refl _) (qX11_has (d + 0) hT a2 (I (6 + (v4).toNatClampNeg) 1) ) ?_
    refine J.icmp_eq (tgt := 53) dX1_roomOutOf_40 (by decide) (fun hc4 => ?_) (fun hc4 => ?_)
    · have h := h.1 hc4
      refine J.iinc (v := (v4 + 1)) (ls' := [some (.ref 54), some (.ref 1), some (.int a2), some (.int v3), some (.int (v4 + 1))]) dX1_roomOutOf_53 rfl (by rfl) rfl ?_
      refine J.goto (tgt := 5) dX1_roomOutOf_56 (by decide) ?_
      exact J.weaken (ls' := [some (.ref 54), some (.ref 1), some (.int a2), some (.int v3), some (.int (v4 + 1))]) (And.intro rfl (And.intro rfl (And.intro rfl (And.intro rfl (And.intro rfl trivial))))) (hK5 v3 (v4 + 1) I h)
    · have h := h.2 hc4
      refine J.iload_n dX1_roomOutOf_43 rfl rfl ?_
      refine J.aload_n dX1_roomOutOf_44 rfl rfl ?_
      refine J.getR (r := 55) dX1_roomOutOf_45 fX1_9 (hT.k 54 rfl) rfl (hT.r 54 0 rfl rfl) ?_
      refine J.iload dX1_roomOutOf_48 rfl ?_
      obtain ⟨hs5, h⟩ := h
      refine J.iald dX1_roomOutOf_50 (hT.k 55 rfl) (hT.l 55 rfl) hs5 ?_
      refine J.iadd dX1_roomOutOf_51 ?_
      refine J.istore_n (ls' := [some (.ref 54), some (.ref 1), some (.int a2), some (.int (v3 + (I 55 v4.toNatClampNeg))), some (.int v4)]) dX1_roomOutOf_52 rfl rfl rfl ?_
      refine J.iinc (v := (v4 + 1)) (ls' := [some (.ref 54), some (.ref 1), some (.int a2), some (.int (v3 + (I 55 v4.toNatClampNeg))), some (.int (v4 + 1))]) dX1_roomOutOf_53 rfl (by rfl) rfl ?_
      refine J.goto (tgt := 5) dX1_roomOutOf_56 (by decide) ?_
      exact J.weaken (ls' := [some (.ref 54), some (.ref 1), some (.int a2), some (.int (v3 + (I 55 v4.toNatClampNeg))), some (.int (v4 + 1))]) (And.intro rfl (And.intro rfl (And.intro rfl (And.intro rfl (And.intro rfl trivial))))) (hK5 (v3 + (I 55 v4.toNatClampNeg)) (v4 + 1) I h)
set_option maxHeartbeats 4000000 in
set_option maxRecDepth 100000 in
theorem wX1_roomOutOf (d : Nat) {T : Topo} (hT : Lay T) (a2 : Int32)   {Q : Int32 → Topo → IM → Prop} (V5 : Int32 → Int32 → IM → Prop) (μ5 : Int32 → Int32 → IM → Nat) (vc5 : ∀ (v3 v4 : Int32) (I : IM), V5 v3 v4 I → fX1_roomOutOf_5 T a2 Q (fun w3 w4 I_ => V5 w3 w4 I_ ∧ μ5 w3 w4 I_ < μ5 v3 v4 I) v3 v4 I) {I : IM} (h : fX1_roomOutOf_0 T a2 Q V5 I) : Ct (d + 1) mX1_roomOutOf [.ref 54, .ref 1, .int a2] T I 0 0 (PI Q) := by
  have all : ∀ n : Nat, (∀ (v3 v4 : Int32) (I : IM), V5 v3 v4 I → μ5 v3 v4 I < n → J (d + 1) mX1_roomOutOf (PI Q) 0 0 5 [some (.ref 54), some (.ref 1), some (.int a2), some (.int v3), some (.int v4)] [] T I 0 0) := by
    intro n
    induction n with
    | zero => exact fun _ _ _ _ hn => absurd hn (Nat.not_lt_zero _)
    | succ n ih =>
      exact fun v3 v4 I hv hn => sX1_roomOutOf_5 d hT a2   (fun w3 w4 I_ hw => ih w3 w4 I_ hw.1 (by have := hw.2; omega)) v3 v4 I (vc5 v3 v4 I hv)
  exact Ct.ofJ (by decide +kernel) rfl (by intro v hv; revert v hv; simp [Value.category]) rfl (sX1_roomOutOf_0 d hT a2   (fun w3 w4 I_ hw => (all (μ5 w3 w4 I_ + 1)) w3 w4 I_ hw (Nat.lt_succ_self _)) I h)

def jX1_roomOutOfI (a2 : Int32) : Nat → Int32 → Int32 → IM → Int32
  | 0 => fun _ _ I => 0
  | n + 1 => fun v3 v4 I => (if (I 1 4) ≤ v4 then v3 else (if (bI (hs a2 (I (6 + (v4).toNatClampNeg) 0))) = (bI (hs a2 (I (6 + (v4).toNatClampNeg) 1))) then (jX1_roomOutOfI a2 n v3 (v4 + 1) I) else (jX1_roomOutOfI a2 n (v3 + (I 55 v4.toNatClampNeg)) (v4 + 1) I)))
def jX1_roomOutOfO (a2 : Int32) : Nat → Int32 → Int32 → IM → Prop
  | 0 => fun _ _ _ => False
  | n + 1 => fun v3 v4 I => ((((I 1 4) ≤ v4) → True) ∧ ((¬ (I 1 4) ≤ v4) → ((vp_in v4 9) ∧ ((vp_in v4 9) ∧ ((((bI (hs a2 (I (6 + (v4).toNatClampNeg) 0))) = (bI (hs a2 (I (6 + (v4).toNatClampNeg) 1)))) → (jX1_roomOutOfO a2 n v3 (v4 + 1) I)) ∧ ((¬ (bI (hs a2 (I (6 + (v4).toNatClampNeg) 0))) = (bI (hs a2 (I (6 + (v4).toNatClampNeg) 1)))) → (vp_in v4 9 ∧ (jX1_roomOutOfO a2 n (v3 + (I 55 v4.toNatClampNeg)) (v4 + 1) I))))))))
theorem jX1_roomOutOfI_5 (a2 : Int32) (n : Nat) (v3 v4 : Int32) (I : IM) : jX1_roomOutOfI a2 (n + 1) v3 v4 I = (if (I 1 4) ≤ v4 then v3 else (if (bI (hs a2 (I (6 + (v4).toNatClampNeg) 0))) = (bI (hs a2 (I (6 + (v4).toNatClampNeg) 1))) then (jX1_roomOutOfI a2 n v3 (v4 + 1) I) else (jX1_roomOutOfI a2 n (v3 + (I 55 v4.toNatClampNeg)) (v4 + 1) I))) := rfl
theorem jX1_roomOutOfO_5 (a2 : Int32) (n : Nat) (v3 v4 : Int32) (I : IM) : jX1_roomOutOfO a2 (n + 1) v3 v4 I = ((((I 1 4) ≤ v4) → True) ∧ ((¬ (I 1 4) ≤ v4) → ((vp_in v4 9) ∧ ((vp_in v4 9) ∧ ((((bI (hs a2 (I (6 + (v4).toNatClampNeg) 0))) = (bI (hs a2 (I (6 + (v4).toNatClampNeg) 1)))) → (jX1_roomOutOfO a2 n v3 (v4 + 1) I)) ∧ ((¬ (bI (hs a2 (I (6 + (v4).toNatClampNeg) 0))) = (bI (hs a2 (I (6 + (v4).toNatClampNeg) 1)))) → (vp_in v4 9 ∧ (jX1_roomOutOfO a2 n (v3 + (I 55 v4.toNatClampNeg)) (v4 + 1) I)))))))) := rfl
def jX1_roomOutOf (I : IM) (a2 : Int32) : Int32 := (jX1_roomOutOfI a2 FU 0 0 I)
def jX1_roomOutOfK (I : IM) (a2 : Int32) : Prop := (jX1_roomOutOfO a2 FU 0 0 I)
set_option maxRecDepth 10000 in
set_option maxHeartbeats 1000000 in
theorem uX1_roomOutOf (d : Nat) {T : Topo} (hT : Lay T) (a2 : Int32)   {R : Int32} {I00 : IM} : ∀ n : Nat, (∀ (v3 v4 : Int32) (I : IM), I = I00 → jX1_roomOutOfO a2 n v3 v4 I → jX1_roomOutOfI a2 n v3 v4 I = R → J (d + 1) mX1_roomOutOf (PI (fun x T' I' => x = R ∧ T' = T ∧ I' = I00)) 0 0 5 [some (.ref 54), some (.ref 1), some (.int a2), some (.int v3), some (.int v4)] [] T I 0 0) := by
  intro n
  induction n with
  | zero => exact fun _ _ _ _ hz => hz.elim
  | succ n ih =>
    exact fun v3 v4 I hI hok hit => by
        rw [jX1_roomOutOfO_5] at hok
        exact sX1_roomOutOf_5 d hT a2   (K5 := fun w3 w4 I_ => (jX1_roomOutOfO a2 n w3 w4 I_ ∧ jX1_roomOutOfI a2 n w3 w4 I_ = R) ∧ I_ = I00) (fun w3 w4 I_ hw => ih w3 w4 I_ hw.2 hw.1.1 hw.1.2) v3 v4 I (by
          unfold fX1_roomOutOf_5
          exact ⟨fun hc1 => ⟨by rw [jX1_roomOutOfI_5, if_pos hc1] at hit; exact hit, rfl, hI⟩, fun hc1 => ⟨((hok).2 hc1).1, ⟨(((hok).2 hc1).2).1, ⟨fun hc2 => ⟨⟨((((hok).2 hc1).2).2).1 hc2, by rw [jX1_roomOutOfI_5, if_neg hc1, if_pos hc2] at hit; exact hit⟩, hI⟩, fun hc2 => ⟨(((((hok).2 hc1).2).2).2 hc2).1, ⟨⟨(((((hok).2 hc1).2).2).2 hc2).2, by rw [jX1_roomOutOfI_5, if_neg hc1, if_neg hc2] at hit; exact hit⟩, hI⟩⟩⟩⟩⟩⟩)
set_option maxRecDepth 10000 in
set_option maxHeartbeats 1000000 in
theorem qX1_roomOutOf (d : Nat) {T : Topo} {I : IM} (hT : Lay T) (a2 : Int32)  (hp : (jX1_roomOutOfK I a2)) : CtP (d + 1) mX1_roomOutOf [.ref 54, .ref 1, .int a2] T I (jX1_roomOutOf I a2) := by
  unfold jX1_roomOutOfK at hp
  exact Ct.ofJ (by decide +kernel) rfl (by intro v hv; revert v hv; simp [Value.category]) rfl (sX1_roomOutOf_0 d hT a2   (K5 := fun w3 w4 I_ => (jX1_roomOutOfO a2 FU w3 w4 I_ ∧ jX1_roomOutOfI a2 FU w3 w4 I_ = (jX1_roomOutOf I a2)) ∧ I_ = I) (fun w3 w4 I_ hw => uX1_roomOutOf d hT a2   FU w3 w4 I_ hw.2 hw.1.1 hw.1.2) I (by
    unfold fX1_roomOutOf_0
    exact ⟨⟨hp, rfl⟩, rfl⟩))

def fX1_weigh_0 (T : Topo) (a1 : Int32) (a2 : Int32) (Q : Topo → IM → Prop)  (I : IM) : Prop :=
  ((((I 54 2) = 0) → Q T (up2 (up2 I 54 2 a1) 54 1 a2)) ∧ ((¬ (I 54 2) = 0) → (((a2 < (I 54 1)) → Q T (up2 (up2 I 54 2 a1) 54 1 a2)) ∧ ((¬ a2 < (I 54 1)) → (((¬ a2 = (I 54 1)) → Q T I) ∧ ((a2 = (I 54 1)) → ((((((jBits (I 54 2)) ≤ (jBits a1)) → Q T I) ∧ ((¬ (jBits (I 54 2)) ≤ (jBits a1)) → Q T (up2 (up2 I 54 2 a1) 54 1 a2)))))))))))
set_option maxHeartbeats 4000000 in
set_option maxRecDepth 100000 in
theorem sX1_weigh_0 (d : Nat) {T : Topo} (hT : Lay T) (a1 : Int32) (a2 : Int32)    {Q : Topo → IM → Prop}   (I : IM) (h : fX1_weigh_0 T a1 a2 Q  I) : J (d + 1) mX1_weigh (PV Q) 0 0 0 [some (.ref 54), some (.int a1), some (.int a2), none] [] T I 0 0 := by
  unfold fX1_weigh_0 at h
  refine J.aload_n dX1_weigh_0 rfl rfl ?_
  refine J.getI dX1_weigh_1 fX1_31 (hT.k 54 rfl) rfl ?_
  refine J.if_eq (tgt := 37) dX1_weigh_4 (by decide) (fun hc1 => ?_) (fun hc1 => ?_)
  · have h := h.1 hc1
    refine J.iconst (v := 1) dX1_weigh_37 (by decide) ?_
    refine J.goto (tgt := 42) dX1_weigh_38 (by decide) ?_
    refine J.istore_n (ls' := [some (.ref 54), some (.int a1), some (.int a2), some (.int 1)]) dX1_weigh_42 rfl rfl rfl ?_
    refine J.iload_n dX1_weigh_43 rfl rfl ?_
    refine J.if_eq (tgt := 57) dX1_weigh_44 (by decide) (fun hc => absurd hc (by decide)) (fun hc => ?_)
    refine J.aload_n dX1_weigh_47 rfl rfl ?_
    refine J.iload_n dX1_weigh_48 rfl rfl ?_
    refine J.atpc (pc' := 49) rfl ?_
    refine J.putI dX1_weigh_49 fX1_31 (hT.k 54 rfl) rfl ?_
    refine J.aload_n dX1_weigh_52 rfl rfl ?_
    refine J.iload_n dX1_weigh_53 rfl rfl ?_
    refine J.putI dX1_weigh_54 fX1_61 (hT.k 54 rfl) rfl ?_
    exact J.vretQ dX1_weigh_57 rfl (Nat.le_refl _) (Nat.le_refl _) h
  · have h := h.2 hc1
    refine J.iload_n dX1_weigh_7 rfl rfl ?_
    refine J.aload_n dX1_weigh_8 rfl rfl ?_
    refine J.getI dX1_weigh_9 fX1_61 (hT.k 54 rfl) rfl ?_
    refine J.icmp_lt (tgt := 37) dX1_weigh_12 (by decide) (fun hc2 => ?_) (fun hc2 => ?_)
    · have h := h.1 hc2
      refine J.iconst (v := 1) dX1_weigh_37 (by decide) ?_
      refine J.goto (tgt := 42) dX1_weigh_38 (by decide) ?_
      refine J.istore_n (ls' := [some (.ref 54), some (.int a1), some (.int a2), some (.int 1)]) dX1_weigh_42 rfl rfl rfl ?_
      refine J.iload_n dX1_weigh_43 rfl rfl ?_
      refine J.if_eq (tgt := 57) dX1_weigh_44 (by decide) (fun hc => absurd hc (by decide)) (fun hc => ?_)
      refine J.aload_n dX1_weigh_47 rfl rfl ?_
      refine J.iload_n dX1_weigh_48 rfl rfl ?_
      refine J.atpc (pc' := 49) rfl ?_
      refine J.putI dX1_weigh_49 fX1_31 (hT.k 54 rfl) rfl ?_
      refine J.aload_n dX1_weigh_52 rfl rfl ?_
      refine J.iload_n dX1_weigh_53 rfl rfl ?_
      refine J.putI dX1_weigh_54 fX1_61 (hT.k 54 rfl) rfl ?_
      exact J.vretQ dX1_weigh_57 rfl (Nat.le_refl _) (Nat.le_refl _) h
    · have h := h.2 hc2
      refine J.iload_n dX1_weigh_15 rfl rfl ?_
      refine J.aload_n dX1_weigh_16 rfl rfl ?_
      refine J.getI dX1_weigh_17 fX1_61 (hT.k 54 rfl) rfl ?_
      refine J.icmp_ne (tgt := 41) dX1_weigh_20 (by decide) (fun hc3 => ?_) (fun hc3 => ?_)
      · have h := h.1 hc3
        refine J.iconst (v := 0) dX1_weigh_41 (by decide) ?_
        refine J.istore_n (ls' := [some (.ref 54), some (.int a1), some (.int a2), some (.int 0)]) dX1_weigh_42 rfl rfl rfl ?_
        refine J.iload_n dX1_weigh_43 rfl rfl ?_
        refine J.if_eq (tgt := 57) dX1_weigh_44 (by decide) (fun hc => ?_) (fun hc => absurd (by decide) hc)
        exact J.vretQ dX1_weigh_57 rfl (Nat.le_refl _) (Nat.le_refl _) h
      · have h := h.2 hc3
        refine J.iload_n dX1_weigh_23 rfl rfl ?_
        refine J.callSP (as := [.int a1]) (rest := []) dX1_weigh_24 kJ6_bitCount_0f7a4 vJ6_bitCount_0f7a4 lX1_64 rfl rfl rfl (by omega) (Nat.le_refl _) (Nat.le_refl _) (qJ6_bitCount_0f7a4 (d + 0) hT a1 ) ?_
        refine J.aload_n dX1_weigh_27 rfl rfl ?_
        refine J.getI dX1_weigh_28 fX1_31 (hT.k 54 rfl) rfl ?_
        refine J.callSP (as := [.int (I 54 2)]) (rest := [.int (jBits a1)]) dX1_weigh_31 kJ6_bitCount_0f7a4 vJ6_bitCount_0f7a4 lX1_64 rfl rfl rfl (by omega) (Nat.le_refl _) (Nat.le_refl _) (qJ6_bitCount_0f7a4 (d + 0) hT (I 54 2) ) ?_
        refine J.icmp_ge (tgt := 41) dX1_weigh_34 (by decide) (fun hc4 => ?_) (fun hc4 => ?_)
        · have h := h.1 hc4
          refine J.iconst (v := 0) dX1_weigh_41 (by decide) ?_
          refine J.istore_n (ls' := [some (.ref 54), some (.int a1), some (.int a2), some (.int 0)]) dX1_weigh_42 rfl rfl rfl ?_
          refine J.iload_n dX1_weigh_43 rfl rfl ?_
          refine J.if_eq (tgt := 57) dX1_weigh_44 (by decide) (fun hc => ?_) (fun hc => absurd (by decide) hc)
          exact J.vretQ dX1_weigh_57 rfl (Nat.le_refl _) (Nat.le_refl _) h
        · have h := h.2 hc4
          refine J.iconst (v := 1) dX1_weigh_37 (by decide) ?_
          refine J.goto (tgt := 42) dX1_weigh_38 (by decide) ?_
          refine J.istore_n (ls' := [some (.ref 54), some (.int a1), some (.int a2), some (.int 1)]) dX1_weigh_42 rfl rfl rfl ?_
          refine J.iload_n dX1_weigh_43 rfl rfl ?_
          refine J.if_eq (tgt := 57) dX1_weigh_44 (by decide) (fun hc => absurd hc (by decide)) (fun hc => ?_)
          refine J.aload_n dX1_weigh_47 rfl rfl ?_
          refine J.iload_n dX1_weigh_48 rfl rfl ?_
          refine J.atpc (pc' := 49) rfl ?_
          refine J.putI dX1_weigh_49 fX1_31 (hT.k 54 rfl) rfl ?_
          refine J.aload_n dX1_weigh_52 rfl rfl ?_
          refine J.iload_n dX1_weigh_53 rfl rfl ?_
          refine J.putI dX1_weigh_54 fX1_61 (hT.k 54 rfl) rfl ?_
          exact J.vretQ dX1_weigh_57 rfl (Nat.le_refl _) (Nat.le_refl _) h
set_option maxHeartbeats 4000000 in
set_option maxRecDepth 100000 in
theorem wX1_weigh (d : Nat) {T : Topo} (hT : Lay T) (a1 : Int32) (a2 : Int32)   {Q : Topo → IM → Prop} {I : IM} (h : fX1_weigh_0 T a1 a2 Q I) : Ct (d + 1) mX1_weigh [.ref 54, .int a1, .int a2] T I 0 0 (PV Q) :=
  Ct.ofJ (by decide +kernel) rfl (by intro v hv; revert v hv; simp [Value.category]) rfl (sX1_weigh_0 d hT a1 a2   I h)

def jX1_weighM (I : IM) (a1 : Int32) (a2 : Int32) : IM := (if (I 54 2) = 0 then (up2 (up2 I 54 2 a1) 54 1 a2) else (if a2 < (I 54 1) then (up2 (up2 I 54 2 a1) 54 1 a2) else (if a2 = (I 54 1) then (if (jBits (I 54 2)) ≤ (jBits a1) then I else (up2 (up2 I 54 2 a1) 54 1 a2)) else I)))
set_option maxRecDepth 10000 in
theorem qX1_weigh (d : Nat) {T : Topo} {I : IM} (hT : Lay T) (a1 : Int32) (a2 : Int32)   : CtV (d + 1) mX1_weigh [.ref 54, .int a1, .int a2] T I (fun J_ => J_ = (jX1_weighM I a1 a2)) :=
  wX1_weigh d hT a1 a2   (by
  unfold fX1_weigh_0
  exact ⟨fun hc1 => ⟨rfl, by unfold jX1_weighM; rw [if_pos hc1]⟩, fun hc1 => ⟨fun hc2 => ⟨rfl, by unfold jX1_weighM; rw [if_neg hc1, if_pos hc2]⟩, fun hc2 => ⟨fun hc3 => ⟨rfl, by unfold jX1_weighM; rw [if_neg hc1, if_neg hc2, if_neg hc3]⟩, fun hc3 => ⟨fun hc4 => ⟨rfl, by unfold jX1_weighM; rw [if_neg hc1, if_neg hc2, if_pos hc3, if_pos hc4]⟩, fun hc4 => ⟨rfl, by unfold jX1_weighM; rw [if_neg hc1, if_neg hc2, if_pos hc3, if_neg hc4]⟩⟩⟩⟩⟩)

def fX2_forgetLatest_0 (T : Topo)  (Q : Topo → IM → Prop) (K2 : Int32 → IM → Prop) (K33 : Int32 → IM → Prop) (I : IM) : Prop :=
  K2 0 I
def fX2_forgetLatest_2 (T : Topo)  (Q : Topo → IM → Prop) (K2 : Int32 → IM → Prop) (K33 : Int32 → IM → Prop) (v1 : Int32) (I : IM) : Prop :=
  ((((I 1 4) ≤ v1) → K33 0 I) ∧ ((¬ (I 1 4) ≤ v1) → ((vp_in v1 9) ∧ K2 (v1 + 1) (up2 I (6 + (v1).toNatClampNeg) 6 0))))
def fX2_forgetLatest_33 (T : Topo)  (Q : Topo → IM → Prop) (K2 : Int32 → IM → Prop) (K33 : Int32 → IM → Prop) (v1 : Int32) (I : IM) : Prop :=
  ((((I 15 1) ≤ v1) → Q T I) ∧ ((¬ (I 15 1) ≤ v1) → ((vp_in v1 8) ∧ K33 (v1 + 1) (up2 I (17 + 4 * (v1).toNatClampNeg) 17 0))))
set_option maxHeartbeats 4000000 in
set_option maxRecDepth 100000 in
theorem sX2_forgetLatest_0 (d : Nat) {T : Topo} (hT : Lay T)     {Q : Topo → IM → Prop} {K2 : Int32 → IM → Prop} {K33 : Int32 → IM → Prop} (hK2 : ∀ (v1 : Int32) (I : IM), K2 v1 I → J (d + 1) mX2_forgetLatest (PV Q) 0 0 2 [some (.ref 69), some (.int v1)] [] T I 0 0) (hK33 : ∀ (v1 : Int32) (I : IM), K33 v1 I → J (d + 1) mX2_forgetLatest (PV Q) 0 0 33 [some (.ref 69), some (.int v1)] [] T I 0 0) (I : IM) (h : fX2_forgetLatest_0 T  Q K2 K33 I) : J (d + 1) mX2_forgetLatest (PV Q) 0 0 0 [some (.ref 69), none] [] T I 0 0 := by
  unfold fX2_forgetLatest_0 at h
  refine J.iconst (v := 0) dX2_forgetLatest_0 (by decide) ?_
  refine J.istore_n (ls' := [some (.ref 69), some (.int 0)]) dX2_forgetLatest_1 rfl rfl rfl ?_
  exact J.weaken (ls' := [some (.ref 69), some (.int 0)]) (And.intro rfl (And.intro rfl trivial)) (hK2 0 I h)
set_option maxHeartbeats 4000000 in
set_option maxRecDepth 100000 in
theorem sX2_forgetLatest_2 (d : Nat) {T : Topo} (hT : Lay T)     {Q : Topo → IM → Prop} {K2 : Int32 → IM → Prop} {K33 : Int32 → IM → Prop} (hK2 : ∀ (v1 : Int32) (I : IM), K2 v1 I → J (d + 1) mX2_forgetLatest (PV Q) 0 0 2 [some (.ref 69), some (.int v1)] [] T I 0 0) (hK33 : ∀ (v1 : Int32) (I : IM), K33 v1 I → J (d + 1) mX2_forgetLatest (PV Q) 0 0 33 [some (.ref 69), some (.int v1)] [] T I 0 0) (v1 : Int32) (I : IM) (h : fX2_forgetLatest_2 T  Q K2 K33 v1 I) : J (d + 1) mX2_forgetLatest (PV Q) 0 0 2 [some (.ref 69), some (.int v1)] [] T I 0 0 := by
  unfold fX2_forgetLatest_2 at h
  refine J.iload_n dX2_forgetLatest_2 rfl rfl ?_
  refine J.aload_n dX2_forgetLatest_3 rfl rfl ?_
  refine J.getR (r := 1) dX2_forgetLatest_4 fX2_15 (hT.k 69 rfl) rfl (hT.r 69 0 rfl rfl) ?_
  refine J.getI dX2_forgetLatest_7 fX2_35 (hT.k 1 rfl) rfl ?_
  refine J.icmp_ge (tgt := 31) dX2_forgetLatest_10 (by decide) (fun hc1 => ?_) (fun hc1 => ?_)
  · have h := h.1 hc1
    refine J.iconst (v := 0) dX2_forgetLatest_31 (by decide) ?_
    refine J.istore_n (ls' := [some (.ref 69), some (.int 0)]) dX2_forgetLatest_32 rfl rfl rfl ?_
    exact J.weaken (ls' := [some (.ref 69), some (.int 0)]) (And.intro rfl (And.intro rfl trivial)) (hK33 0 I h)
  · have h := h.2 hc1
    refine J.aload_n dX2_forgetLatest_13 rfl rfl ?_
    refine J.getR (r := 1) dX2_forgetLatest_14 fX2_15 (hT.k 69 rfl) rfl (hT.r 69 0 rfl rfl) ?_
    refine J.iload_n dX2_forgetLatest_17 rfl rfl ?_
    obtain ⟨hp2, h⟩ := h
    refine J.callVF (r := (6 + (v1).toNatClampNeg)) (k := 1) (as := [.int v1]) (rest := []) dX2_forgetLatest_18 kX5_lineAt vX5_lineAt lX2_40 (hT.k 1 rfl) rfl rfl rfl rfl rfl (by omega) (Nat.le_refl _) (Nat.le_refl _) (qX5_lineAt (d + 0) hT v1 hp2) ?_
    refine J.iconst (v := 0) dX2_forgetLatest_21 (by decide) ?_
    refine J.putI dX2_forgetLatest_22 fX2_44 (hT.lineK (vp_lt hp2)) rfl ?_
    refine J.iinc (v := (v1 + 1)) (ls' := [some (.ref 69), some (.int (v1 + 1))]) dX2_forgetLatest_25 rfl (by rfl) rfl ?_
    refine J.goto (tgt := 2) dX2_forgetLatest_28 (by decide) ?_
    exact J.weaken (ls' := [some (.ref 69), some (.int (v1 + 1))]) (And.intro rfl (And.intro rfl trivial)) (hK2 (v1 + 1) (up2 I (6 + (v1).toNatClampNeg) 6 0) h)
set_option maxHeartbeats 4000000 in
set_option maxRecDepth 100000 in
theorem sX2_forgetLatest_33 (d : Nat) {T : Topo} (hT : Lay T)     {Q : Topo → IM → Prop} {K2 : Int32 → IM → Prop} {K33 : Int32 → IM → Prop} (hK2 : ∀ (v1 : Int32) (I : IM), K2 v1 I → J (d + 1) mX2_forgetLatest (PV Q) 0 0 2 [some (.ref 69), some (.int v1)] [] T I 0 0) (hK33 : ∀ (v1 : Int32) (I : IM), K33 v1 I → J (d + 1) mX2_forgetLatest (PV Q) 0 0 33 [some (.ref 69), some (.int v1)] [] T I 0 0) (v1 : Int32) (I : IM) (h : fX2_forgetLatest_33 T  Q K2 K33 v1 I) : J (d + 1) mX2_forgetLatest (PV Q) 0 0 33 [some (.ref 69), some (.int v1)] [] T I 0 0 := by
  unfold fX2_forgetLatest_33 at h
  refine J.iload_n dX2_forgetLatest_33 rfl rfl ?_
  refine J.aload_n dX2_forgetLatest_34 rfl rfl ?_
  refine J.getR (r := 15) dX2_forgetLatest_35 fX2_19 (hT.k 69 rfl) rfl (hT.r 69 1 rfl rfl) ?_
  refine J.getI dX2_forgetLatest_38 fX2_49 (hT.k 15 rfl) rfl ?_
  refine J.icmp_ge (tgt := 62) dX2_forgetLatest_41 (by decide) (fun hc1 => ?_) (fun hc1 => ?_)
  · have h := h.1 hc1
    exact J.vretQ dX2_forgetLatest_62 rfl (Nat.le_refl _) (Nat.le_refl _) h
  · have h := h.2 hc1
    refine J.aload_n dX2_forgetLatest_44 rfl rfl ?_
    refine J.getR (r := 15) dX2_forgetLatest_45 fX2_19 (hT.k 69 rfl) rfl (hT.r 69 1 rfl rfl) ?_
    refine J.iload_n dX2_forgetLatest_48 rfl rfl ?_
    obtain ⟨hp2, h⟩ := h
    refine J.callVF (r := (17 + 4 * (v1).toNatClampNeg)) (k := 15) (as := [.int v1]) (rest := []) dX2_forgetLatest_49 kX9_at vX9_at lX2_54 (hT.k 15 rfl) rfl rfl rfl rfl rfl (by omega) (Nat.le_refl _) (Nat.le_refl _) (qX9_at (d + 0) hT v1 hp2) ?_
    refine J.iconst (v := 0) dX2_forgetLatest_52 (by decide) ?_
    refine J.putI dX2_forgetLatest_53 fX2_58 (hT.sliceK (vp_lt hp2)) rfl ?_
    refine J.iinc (v := (v1 + 1)) (ls' := [some (.ref 69), some (.int (v1 + 1))]) dX2_forgetLatest_56 rfl (by rfl) rfl ?_
    refine J.goto (tgt := 33) dX2_forgetLatest_59 (by decide) ?_
    exact J.weaken (ls' := [some (.ref 69), some (.int (v1 + 1))]) (And.intro rfl (And.intro rfl trivial)) (hK33 (v1 + 1) (up2 I (17 + 4 * (v1).toNatClampNeg) 17 0) h)
set_option maxHeartbeats 4000000 in
set_option maxRecDepth 100000 in
theorem wX2_forgetLatest (d : Nat) {T : Topo} (hT : Lay T)    {Q : Topo → IM → Prop} (V2 : Int32 → IM → Prop) (μ2 : Int32 → IM → Nat) (V33 : Int32 → IM → Prop) (μ33 : Int32 → IM → Nat) (vc2 : ∀ (v1 : Int32) (I : IM), V2 v1 I → fX2_forgetLatest_2 T  Q (fun w1 I_ => V2 w1 I_ ∧ μ2 w1 I_ < μ2 v1 I) (fun w1 I_ => V33 w1 I_ ∧ μ33 w1 I_ < μ2 v1 I) v1 I) (vc33 : ∀ (v1 : Int32) (I : IM), V33 v1 I → fX2_forgetLatest_33 T  Q (fun w1 I_ => V2 w1 I_ ∧ μ2 w1 I_ < μ33 v1 I) (fun w1 I_ => V33 w1 I_ ∧ μ33 w1 I_ < μ33 v1 I) v1 I) {I : IM} (h : fX2_forgetLatest_0 T  Q V2 V33 I) : Ct (d + 1) mX2_forgetLatest [.ref 69] T I 0 0 (PV Q) := by
  have all : ∀ n : Nat, (∀ (v1 : Int32) (I : IM), V2 v1 I → μ2 v1 I < n → J (d + 1) mX2_forgetLatest (PV Q) 0 0 2 [some (.ref 69), some (.int v1)] [] T I 0 0) ∧ (∀ (v1 : Int32) (I : IM), V33 v1 I → μ33 v1 I < n → J (d + 1) mX2_forgetLatest (PV Q) 0 0 33 [some (.ref 69), some (.int v1)] [] T I 0 0) := by
    intro n
    induction n with
    | zero => exact ⟨fun _ _ _ hn => absurd hn (Nat.not_lt_zero _), fun _ _ _ hn => absurd hn (Nat.not_lt_zero _)⟩
    | succ n ih =>
      exact ⟨fun v1 I hv hn => sX2_forgetLatest_2 d hT    (fun w1 I_ hw => ih.1 w1 I_ hw.1 (by have := hw.2; omega)) (fun w1 I_ hw => ih.2 w1 I_ hw.1 (by have := hw.2; omega)) v1 I (vc2 v1 I hv), fun v1 I hv hn => sX2_forgetLatest_33 d hT    (fun w1 I_ hw => ih.1 w1 I_ hw.1 (by have := hw.2; omega)) (fun w1 I_ hw => ih.2 w1 I_ hw.1 (by have := hw.2; omega)) v1 I (vc33 v1 I hv)⟩
  exact Ct.ofJ (by decide +kernel) rfl (by intro v hv; revert v hv; simp [Value.category]) rfl (sX2_forgetLatest_0 d hT    (fun w1 I_ hw => (all (μ2 w1 I_ + 1)).1 w1 I_ hw (Nat.lt_succ_self _)) (fun w1 I_ hw => (all (μ33 w1 I_ + 1)).2 w1 I_ hw (Nat.lt_succ_self _)) I h)

def jX2_forgetLatestB2  (F : (Nat → Int32 → IM → IM)) (v1 : Int32) (I : IM) : IM := (if (I 1 4) ≤ v1 then (F 1 0 I) else (F 0 (v1 + 1) (up2 I (6 + (v1).toNatClampNeg) 6 0)))
def jX2_forgetLatestC2  (F : (Nat → Int32 → IM → Prop)) (v1 : Int32) (I : IM) : Prop := ((((I 1 4) ≤ v1) → (F 1 0 I)) ∧ ((¬ (I 1 4) ≤ v1) → ((vp_in v1 9) ∧ (F 0 (v1 + 1) (up2 I (6 + (v1).toNatClampNeg) 6 0)))))
def jX2_forgetLatestB33  (F : (Nat → Int32 → IM → IM)) (v1 : Int32) (I : IM) : IM := (if (I 15 1) ≤ v1 then I else (F 1 (v1 + 1) (up2 I (17 + 4 * (v1).toNatClampNeg) 17 0)))
def jX2_forgetLatestC33  (F : (Nat → Int32 → IM → Prop)) (v1 : Int32) (I : IM) : Prop := ((((I 15 1) ≤ v1) → True) ∧ ((¬ (I 15 1) ≤ v1) → ((vp_in v1 8) ∧ (F 1 (v1 + 1) (up2 I (17 + 4 * (v1).toNatClampNeg) 17 0)))))
def jX2_forgetLatestI  : Nat → Nat → Int32 → IM → IM
  | 0 => fun _ _ I => I
  | n + 1 => fun tg v1 I => (if tg = 0 then jX2_forgetLatestB2  (jX2_forgetLatestI  n) v1 I else (if tg = 1 then jX2_forgetLatestB33  (jX2_forgetLatestI  n) v1 I else I))
def jX2_forgetLatestO  : Nat → Nat → Int32 → IM → Prop
  | 0 => fun _ _ _ => False
  | n + 1 => fun tg v1 I => (if tg = 0 then jX2_forgetLatestC2  (jX2_forgetLatestO  n) v1 I else (if tg = 1 then jX2_forgetLatestC33  (jX2_forgetLatestO  n) v1 I else True))
theorem jX2_forgetLatestI_2  (n : Nat) (v1 : Int32) (I : IM) : jX2_forgetLatestI  (n + 1) 0 v1 I = (if (I 1 4) ≤ v1 then (jX2_forgetLatestI  n 1 0 I) else (jX2_forgetLatestI  n 0 (v1 + 1) (up2 I (6 + (v1).toNatClampNeg) 6 0))) := by
  show (if (0 : Nat) = 0 then jX2_forgetLatestB2  (jX2_forgetLatestI  n) v1 I else (if (0 : Nat) = 1 then jX2_forgetLatestB33  (jX2_forgetLatestI  n) v1 I else I)) = _
  rw [if_pos rfl]; rfl
theorem jX2_forgetLatestO_2  (n : Nat) (v1 : Int32) (I : IM) : jX2_forgetLatestO  (n + 1) 0 v1 I = ((((I 1 4) ≤ v1) → (jX2_forgetLatestO  n 1 0 I)) ∧ ((¬ (I 1 4) ≤ v1) → ((vp_in v1 9) ∧ (jX2_forgetLatestO  n 0 (v1 + 1) (up2 I (6 + (v1).toNatClampNeg) 6 0))))) := by
  show (if (0 : Nat) = 0 then jX2_forgetLatestC2  (jX2_forgetLatestO  n) v1 I else (if (0 : Nat) = 1 then jX2_forgetLatestC33  (jX2_forgetLatestO  n) v1 I else True)) = _
  rw [if_pos rfl]; rfl
theorem jX2_forgetLatestI_33  (n : Nat) (v1 : Int32) (I : IM) : jX2_forgetLatestI  (n + 1) 1 v1 I = (if (I 15 1) ≤ v1 then I else (jX2_forgetLatestI  n 1 (v1 + 1) (up2 I (17 + 4 * (v1).toNatClampNeg) 17 0))) := by
  show (if (1 : Nat) = 0 then jX2_forgetLatestB2  (jX2_forgetLatestI  n) v1 I else (if (1 : Nat) = 1 then jX2_forgetLatestB33  (jX2_forgetLatestI  n) v1 I else I)) = _
  rw [if_neg (by decide), if_pos rfl]; rfl
theorem jX2_forgetLatestO_33  (n : Nat) (v1 : Int32) (I : IM) : jX2_forgetLatestO  (n + 1) 1 v1 I = ((((I 15 1) ≤ v1) → True) ∧ ((¬ (I 15 1) ≤ v1) → ((vp_in v1 8) ∧ (jX2_forgetLatestO  n 1 (v1 + 1) (up2 I (17 + 4 * (v1).toNatClampNeg) 17 0))))) := by
  show (if (1 : Nat) = 0 then jX2_forgetLatestC2  (jX2_forgetLatestO  n) v1 I else (if (1 : Nat) = 1 then jX2_forgetLatestC33  (jX2_forgetLatestO  n) v1 I else True)) = _
  rw [if_neg (by decide), if_pos rfl]; rfl
def jX2_forgetLatest (I : IM)  : IM := (jX2_forgetLatestI  FU 0 0 I)
def jX2_forgetLatestK (I : IM)  : Prop := (jX2_forgetLatestO  FU 0 0 I)
set_option maxRecDepth 10000 in
set_option maxHeartbeats 1000000 in
theorem uX2_forgetLatest (d : Nat) {T : Topo} (hT : Lay T)    {R : IM} : ∀ n : Nat, (∀ (v1 : Int32) (I : IM), jX2_forgetLatestO  n 0 v1 I → jX2_forgetLatestI  n 0 v1 I = R → J (d + 1) mX2_forgetLatest (PV (fun T' I' => T' = T ∧ I' = R)) 0 0 2 [some (.ref 69), some (.int v1)] [] T I 0 0) ∧ (∀ (v1 : Int32) (I : IM), jX2_forgetLatestO  n 1 v1 I → jX2_forgetLatestI  n 1 v1 I = R → J (d + 1) mX2_forgetLatest (PV (fun T' I' => T' = T ∧ I' = R)) 0 0 33 [some (.ref 69), some (.int v1)] [] T I 0 0) := by
  intro n
  induction n with
  | zero => exact ⟨fun _ _ hz => hz.elim, fun _ _ hz => hz.elim⟩
  | succ n ih =>
    refine ⟨?_, ?_⟩
    · exact fun v1 I hok hit => by
        rw [jX2_forgetLatestO_2] at hok
        exact sX2_forgetLatest_2 d hT    (K2 := fun w1 I_ => (jX2_forgetLatestO  n 0 w1 I_ ∧ jX2_forgetLatestI  n 0 w1 I_ = R)) (K33 := fun w1 I_ => (jX2_forgetLatestO  n 1 w1 I_ ∧ jX2_forgetLatestI  n 1 w1 I_ = R)) (fun w1 I_ hw => ih.1 w1 I_ hw.1 hw.2) (fun w1 I_ hw => ih.2 w1 I_ hw.1 hw.2) v1 I (by
          unfold fX2_forgetLatest_2
          exact ⟨fun hc1 => ⟨(hok).1 hc1, by rw [jX2_forgetLatestI_2, if_pos hc1] at hit; exact hit⟩, fun hc1 => ⟨((hok).2 hc1).1, ⟨((hok).2 hc1).2, by rw [jX2_forgetLatestI_2, if_neg hc1] at hit; exact hit⟩⟩⟩)
    · exact fun v1 I hok hit => by
        rw [jX2_forgetLatestO_33] at hok
        exact sX2_forgetLatest_33 d hT    (K2 := fun w1 I_ => (jX2_forgetLatestO  n 0 w1 I_ ∧ jX2_forgetLatestI  n 0 w1 I_ = R)) (K33 := fun w1 I_ => (jX2_forgetLatestO  n 1 w1 I_ ∧ jX2_forgetLatestI  n 1 w1 I_ = R)) (fun w1 I_ hw => ih.1 w1 I_ hw.1 hw.2) (fun w1 I_ hw => ih.2 w1 I_ hw.1 hw.2) v1 I (by
          unfold fX2_forgetLatest_33
          exact ⟨fun hc1 => ⟨rfl, by rw [jX2_forgetLatestI_33, if_pos hc1] at hit; exact hit⟩, fun hc1 => ⟨((hok).2 hc1).1, ⟨((hok).2 hc1).2, by rw [jX2_forgetLatestI_33, if_neg hc1] at hit; exact hit⟩⟩⟩)
set_option maxRecDepth 10000 in
set_option maxHeartbeats 1000000 in
theorem qX2_forgetLatest (d : Nat) {T : Topo} {I : IM} (hT : Lay T)   (hp : (jX2_forgetLatestK I)) : CtV (d + 1) mX2_forgetLatest [.ref 69] T I (fun J_ => J_ = (jX2_forgetLatest I)) := by
  unfold jX2_forgetLatestK at hp
  exact Ct.ofJ (by decide +kernel) rfl (by intro v hv; revert v hv; simp [Value.category]) rfl (sX2_forgetLatest_0 d hT    (K2 := fun w1 I_ => (jX2_forgetLatestO  FU 0 w1 I_ ∧ jX2_forgetLatestI  FU 0 w1 I_ = (jX2_forgetLatest I ))) (K33 := fun w1 I_ => (jX2_forgetLatestO  FU 1 w1 I_ ∧ jX2_forgetLatestI  FU 1 w1 I_ = (jX2_forgetLatest I ))) (fun w1 I_ hw => (uX2_forgetLatest d hT    FU).1 w1 I_ hw.1 hw.2) (fun w1 I_ hw => (uX2_forgetLatest d hT    FU).2 w1 I_ hw.1 hw.2) I (by
    unfold fX2_forgetLatest_0
    exact ⟨hp, rfl⟩))

def fX2_wayNow_0 (T : Topo) (i1 : Nat) (Q : Int32 → Topo → IM → Prop)  (I : IM) : Prop :=
  ((((¬ (inS I i1)) → Q 0 T I) ∧ ((inS I i1) → ((((¬ (hs (I (17 + 4 * i1) 11) (I 69 3))) → Q 0 T I) ∧ ((hs (I (17 + 4 * i1) 11) (I 69 3)) → (Q (jX8_takenWay I i1 (I 1 5)) T I)))))))
set_option maxHeartbeats 4000000 in
set_option maxRecDepth 100000 in
theorem sX2_wayNow_0 (d : Nat) {T : Topo} (hT : Lay T) (i1 : Nat) (hi1 : i1 < 8)   {Q : Int32 → Topo → IM → Prop}   (I : IM) (h : fX2_wayNow_0 T i1 Q  I) : J (d + 2) mX2_wayNow (PI Q) 0 0 0 [some (.ref 69), some (.ref (17 + 4 * i1))] [] T I 0 0 := by
  unfold fX2_wayNow_0 at h
  refine J.aload_n dX2_wayNow_0 rfl rfl ?_
  refine J.callVP (k := (17 + 4 * i1)) (as := []) (rest := []) dX2_wayNow_1 kX8_isIn vX8_isIn lX2_100 (hT.sliceK hi1) rfl rfl rfl rfl rfl (by omega) (Nat.le_refl _) (Nat.le_refl _) (qX8_isIn (d + 1) hT i1 hi1 ) ?_
  refine J.bz_eq (tgt := 35) dX2_wayNow_4 (by decide) (fun hc1 => ?_) (fun hc1 => ?_)
  · have h := h.1 hc1
    refine J.iconst (v := 0) dX2_wayNow_35 (by decide) ?_
    exact J.iretQ dX2_wayNow_36 rfl (Nat.le_refl _) (Nat.le_refl _) h
  · have h := h.2 hc1
    refine J.aload_n dX2_wayNow_7 rfl rfl ?_
    refine J.getI dX2_wayNow_8 fX2_104 (hT.sliceK hi1) rfl ?_
    refine J.aload_n dX2_wayNow_11 rfl rfl ?_
    refine J.getI dX2_wayNow_12 fX2_32 (hT.k 69 rfl) rfl ?_
    refine J.callSP (as := [.int (I (17 + 4 * i1) 11), .int (I 69 3)]) (rest := []) dX2_wayNow_15 kX11_has vX11_has lX2_107 rfl rfl rfl (by omega) (Nat.le_refl _) (Nat.le_refl _) (qX11_has (d + 1) hT (I (17 + 4 * i1) 11) (I 69 3) ) ?_
    refine J.bz_eq (tgt := 35) dX2_wayNow_18 (by decide) (fun hc2 => ?_) (fun hc2 => ?_)
    · have h := h.1 hc2
      refine J.iconst (v := 0) dX2_wayNow_35 (by decide) ?_
      exact J.iretQ dX2_wayNow_36 rfl (Nat.le_refl _) (Nat.le_refl _) h
    · have h := h.2 hc2
      refine J.aload_n dX2_wayNow_21 rfl rfl ?_
      refine J.aload_n dX2_wayNow_22 rfl rfl ?_
      refine J.getR (r := 1) dX2_wayNow_23 fX2_15 (hT.k 69 rfl) rfl (hT.r 69 0 rfl rfl) ?_
      refine J.getI dX2_wayNow_26 fX2_111 (hT.k 1 rfl) rfl ?_
      refine J.callVP (k := (17 + 4 * i1)) (as := [.int (I 1 5)]) (rest := []) dX2_wayNow_29 kX8_takenWay vX8_takenWay lX2_114 (hT.sliceK hi1) rfl rfl rfl rfl rfl (by omega) (Nat.le_refl _) (Nat.le_refl _) (qX8_takenWay (d + 0) hT i1 hi1 (I 1 5) ) ?_
      refine J.goto (tgt := 36) dX2_wayNow_32 (by decide) ?_
      exact J.iretQ dX2_wayNow_36 rfl (Nat.le_refl _) (Nat.le_refl _) h
set_option maxHeartbeats 4000000 in
set_option maxRecDepth 100000 in
theorem wX2_wayNow (d : Nat) {T : Topo} (hT : Lay T) (i1 : Nat) (hi1 : i1 < 8)  {Q : Int32 → Topo → IM → Prop} {I : IM} (h : fX2_wayNow_0 T i1 Q I) : Ct (d + 2) mX2_wayNow [.ref 69, .ref (17 + 4 * i1)] T I 0 0 (PI Q) :=
  Ct.ofJ (by decide +kernel) rfl (by intro v hv; revert v hv; simp [Value.category]) rfl (sX2_wayNow_0 d hT i1 hi1  I h)

def jX2_wayNow (I : IM) (i1 : Nat) : Int32 := (if inS I i1 then (if hs (I (17 + 4 * i1) 11) (I 69 3) then (jX8_takenWay I i1 (I 1 5)) else 0) else 0)
set_option maxRecDepth 10000 in
theorem qX2_wayNow (d : Nat) {T : Topo} {I : IM} (hT : Lay T) (i1 : Nat) (hi1 : i1 < 8)   : CtP (d + 2) mX2_wayNow [.ref 69, .ref (17 + 4 * i1)] T I ((jX2_wayNow I i1)) :=
  wX2_wayNow d hT i1 hi1  (by
  unfold fX2_wayNow_0
  exact ⟨fun hc1 => ⟨by unfold jX2_wayNow; rw [if_neg hc1], rfl, rfl⟩, fun hc1 => ⟨fun hc2 => ⟨by unfold jX2_wayNow; rw [if_pos hc1, if_neg hc2], rfl, rfl⟩, fun hc2 => ⟨by unfold jX2_wayNow; rw [if_pos hc1, if_pos hc2], rfl, rfl⟩⟩⟩)

def fX2_leftOn_0 (T : Topo) (a1 : Int32) (Q : Int32 → Topo → IM → Prop) (K6 : Int32 → Int32 → IM → Prop) (I : IM) : Prop :=
  K6 1000 0 I
def fX2_leftOn_6 (T : Topo) (a1 : Int32) (Q : Int32 → Topo → IM → Prop) (K6 : Int32 → Int32 → IM → Prop) (v2 v3 : Int32) (I : IM) : Prop :=
  ((((I 1 4) ≤ v3) → Q v2 T I) ∧ ((¬ (I 1 4) ≤ v3) → ((((¬ (hs a1 v3)) → K6 v2 (v3 + 1) I) ∧ ((hs a1 v3) → ((vp_in v3 9) ∧ ((K6 (jMin v2 (jLeft I (v3).toNatClampNeg)) (v3 + 1) I))))))))
set_option maxHeartbeats 4000000 in
set_option maxRecDepth 100000 in
theorem sX2_leftOn_0 (d : Nat) {T : Topo} (hT : Lay T) (a1 : Int32)    {Q : Int32 → Topo → IM → Prop} {K6 : Int32 → Int32 → IM → Prop} (hK6 : ∀ (v2 v3 : Int32) (I : IM), K6 v2 v3 I → J (d + 1) mX2_leftOn (PI Q) 0 0 6 [some (.ref 69), some (.int a1), some (.int v2), some (.int v3)] [] T I 0 0) (I : IM) (h : fX2_leftOn_0 T a1 Q K6 I) : J (d + 1) mX2_leftOn (PI Q) 0 0 0 [some (.ref 69), some (.int a1), none, none] [] T I 0 0 := by
  unfold fX2_leftOn_0 at h
  refine J.sipush (v := 1000) dX2_leftOn_0 (by decide) ?_
  refine J.istore_n (ls' := [some (.ref 69), some (.int a1), some (.int 1000), none]) dX2_leftOn_3 rfl rfl rfl ?_
  refine J.iconst (v := 0) dX2_leftOn_4 (by decide) ?_
  refine J.istore_n (ls' := [some (.ref 69), some (.int a1), some (.int 1000), some (.int 0)]) dX2_leftOn_5 rfl rfl rfl ?_
  exact J.weaken (ls' := [some (.ref 69), some (.int a1), some (.int 1000), some (.int 0)]) (And.intro rfl (And.intro rfl (And.intro rfl (And.intro rfl trivial)))) (hK6 1000 0 I h)
set_option maxHeartbeats 4000000 in
set_option maxRecDepth 100000 in
theorem sX2_leftOn_6 (d : Nat) {T : Topo} (hT : Lay T) (a1 : Int32)    {Q : Int32 → Topo → IM → Prop} {K6 : Int32 → Int32 → IM → Prop} (hK6 : ∀ (v2 v3 : Int32) (I : IM), K6 v2 v3 I → J (d + 1) mX2_leftOn (PI Q) 0 0 6 [some (.ref 69), some (.int a1), some (.int v2), some (.int v3)] [] T I 0 0) (v2 v3 : Int32) (I : IM) (h : fX2_leftOn_6 T a1 Q K6 v2 v3 I) : J (d + 1) mX2_leftOn (PI Q) 0 0 6 [some (.ref 69), some (.int a1), some (.int v2), some (.int v3)] [] T I 0 0 := by
  unfold fX2_leftOn_6 at h
  refine J.iload_n dX2_leftOn_6 rfl rfl ?_
  refine J.aload_n dX2_leftOn_7 rfl rfl ?_
  refine J.getR (r := 1) dX2_leftOn_8 fX2_15 (hT.k 69 rfl) rfl (hT.r 69 0 rfl rfl) ?_
  refine J.getI dX2_leftOn_11 fX2_35 (hT.k 1 rfl) rfl ?_
  refine J.icmp_ge (tgt := 47) dX2_leftOn_14 (by decide) (fun hc1 => ?_) (fun hc1 => ?_)
  · have h := h.1 hc1
    refine J.iload_n dX2_leftOn_47 rfl rfl ?_
    exact J.iretQ dX2_leftOn_48 rfl (Nat.le_refl _) (Nat.le_refl _) h
  · have h := h.2 hc1
    refine J.iload_n dX2_leftOn_17 rfl rfl ?_
    refine J.iload_n dX2_leftOn_18 rfl rfl ?_
    refine J.callSP (as := [.int a1, .int v3]) (rest := []) dX2_leftOn_19 kX11_has vX11_has lX2_107 rfl rfl rfl (by omega) (Nat.le_refl _) (Nat.le_refl _) (qX11_has (d + 0) hT a1 v3 ) ?_
    refine J.bz_eq (tgt := 41) dX2_leftOn_22 (by decide) (fun hc2 => ?_) (fun hc2 => ?_)
    · have h := h.1 hc2
      refine J.iinc (v := (v3 + 1)) (ls' := [some (.ref 69), some (.int a1), some (.int v2), some (.int (v3 + 1))]) dX2_leftOn_41 rfl (by rfl) rfl ?_
      refine J.goto (tgt := 6) dX2_leftOn_44 (by decide) ?_
      exact J.weaken (ls' := [some (.ref 69), some (.int a1), some (.int v2), some (.int (v3 + 1))]) (And.intro rfl (And.intro rfl (And.intro rfl (And.intro rfl trivial)))) (hK6 v2 (v3 + 1) I h)
    · have h := h.2 hc2
      refine J.iload_n dX2_leftOn_25 rfl rfl ?_
      refine J.aload_n dX2_leftOn_26 rfl rfl ?_
      refine J.getR (r := 1) dX2_leftOn_27 fX2_15 (hT.k 69 rfl) rfl (hT.r 69 0 rfl rfl) ?_
      refine J.iload_n dX2_leftOn_30 rfl rfl ?_
      obtain ⟨hp3, h⟩ := h
      refine J.callVF (r := (6 + (v3).toNatClampNeg)) (k := 1) (as := [.int v3]) (rest := [.int v2]) dX2_leftOn_31 kX5_lineAt vX5_lineAt lX2_40 (hT.k 1 rfl) rfl rfl rfl rfl rfl (by omega) (Nat.le_refl _) (Nat.le_refl _) (qX5_lineAt (d + 0) hT v3 hp3) ?_
      refine J.callVP (k := (6 + (v3).toNatClampNeg)) (as := []) (rest := [.int v2]) dX2_leftOn_34 kX4_leftNow vX4_leftNow lX2_117 (hT.lineK (vp_lt hp3)) rfl rfl rfl rfl rfl (by omega) (Nat.le_refl _) (Nat.le_refl _) (qX4_leftNow (d + 0) hT (v3).toNatClampNeg (vp_lt hp3) ) ?_
      refine J.callSP (as := [.int v2, .int (jLeft I (v3).toNatClampNeg)]) (rest := []) dX2_leftOn_37 kJ9_min_7cf53 vJ9_min_7cf53 lX2_72 rfl rfl rfl (by omega) (Nat.le_refl _) (Nat.le_refl _) (qJ9_min_7cf53 (d + 0) hT v2 (jLeft I (v3).toNatClampNeg) ) ?_
      refine J.istore_n (ls' := [some (.ref 69), some (.int a1), some (.int (jMin v2 (jLeft I (v3).toNatClampNeg))), some (.int v3)]) dX2_leftOn_40 rfl rfl rfl ?_
      refine J.iinc (v := (v3 + 1)) (ls' := [some (.ref 69), some (.int a1), some (.int (jMin v2 (jLeft I (v3).toNatClampNeg))), some (.int (v3 + 1))]) dX2_leftOn_41 rfl (by rfl) rfl ?_
      refine J.goto (tgt := 6) dX2_leftOn_44 (by decide) ?_
      exact J.weaken (ls' := [some (.ref 69), some (.int a1), some (.int (jMin v2 (jLeft I (v3).toNatClampNeg))), some (.int (v3 + 1))]) (And.intro rfl (And.intro rfl (And.intro rfl (And.intro rfl trivial)))) (hK6 (jMin v2 (jLeft I (v3).toNatClampNeg)) (v3 + 1) I h)
set_option maxHeartbeats 4000000 in
set_option maxRecDepth 100000 in
theorem wX2_leftOn (d : Nat) {T : Topo} (hT : Lay T) (a1 : Int32)   {Q : Int32 → Topo → IM → Prop} (V6 : Int32 → Int32 → IM → Prop) (μ6 : Int32 → Int32 → IM → Nat) (vc6 : ∀ (v2 v3 : Int32) (I : IM), V6 v2 v3 I → fX2_leftOn_6 T a1 Q (fun w2 w3 I_ => V6 w2 w3 I_ ∧ μ6 w2 w3 I_ < μ6 v2 v3 I) v2 v3 I) {I : IM} (h : fX2_leftOn_0 T a1 Q V6 I) : Ct (d + 1) mX2_leftOn [.ref 69, .int a1] T I 0 0 (PI Q) := by
  have all : ∀ n : Nat, (∀ (v2 v3 : Int32) (I : IM), V6 v2 v3 I → μ6 v2 v3 I < n → J (d + 1) mX2_leftOn (PI Q) 0 0 6 [some (.ref 69), some (.int a1), some (.int v2), some (.int v3)] [] T I 0 0) := by
    intro n
    induction n with
    | zero => exact fun _ _ _ _ hn => absurd hn (Nat.not_lt_zero _)
    | succ n ih =>
      exact fun v2 v3 I hv hn => sX2_leftOn_6 d hT a1   (fun w2 w3 I_ hw => ih w2 w3 I_ hw.1 (by have := hw.2; omega)) v2 v3 I (vc6 v2 v3 I hv)
  exact Ct.ofJ (by decide +kernel) rfl (by intro v hv; revert v hv; simp [Value.category]) rfl (sX2_leftOn_0 d hT a1   (fun w2 w3 I_ hw => (all (μ6 w2 w3 I_ + 1)) w2 w3 I_ hw (Nat.lt_succ_self _)) I h)

def jX2_leftOnI (a1 : Int32) : Nat → Int32 → Int32 → IM → Int32
  | 0 => fun _ _ I => 0
  | n + 1 => fun v2 v3 I => (if (I 1 4) ≤ v3 then v2 else (if hs a1 v3 then (jX2_leftOnI a1 n (jMin v2 (jLeft I (v3).toNatClampNeg)) (v3 + 1) I) else (jX2_leftOnI a1 n v2 (v3 + 1) I)))
def jX2_leftOnO (a1 : Int32) : Nat → Int32 → Int32 → IM → Prop
  | 0 => fun _ _ _ => False
  | n + 1 => fun v2 v3 I => ((((I 1 4) ≤ v3) → True) ∧ ((¬ (I 1 4) ≤ v3) → (((¬ (hs a1 v3)) → (jX2_leftOnO a1 n v2 (v3 + 1) I)) ∧ ((hs a1 v3) → ((vp_in v3 9) ∧ (jX2_leftOnO a1 n (jMin v2 (jLeft I (v3).toNatClampNeg)) (v3 + 1) I))))))
theorem jX2_leftOnI_6 (a1 : Int32) (n : Nat) (v2 v3 : Int32) (I : IM) : jX2_leftOnI a1 (n + 1) v2 v3 I = (if (I 1 4) ≤ v3 then v2 else (if hs a1 v3 then (jX2_leftOnI a1 n (jMin v2 (jLeft I (v3).toNatClampNeg)) (v3 + 1) I) else (jX2_leftOnI a1 n v2 (v3 + 1) I))) := rfl
theorem jX2_leftOnO_6 (a1 : Int32) (n : Nat) (v2 v3 : Int32) (I : IM) : jX2_leftOnO a1 (n + 1) v2 v3 I = ((((I 1 4) ≤ v3) → True) ∧ ((¬ (I 1 4) ≤ v3) → (((¬ (hs a1 v3)) → (jX2_leftOnO a1 n v2 (v3 + 1) I)) ∧ ((hs a1 v3) → ((vp_in v3 9) ∧ (jX2_leftOnO a1 n (jMin v2 (jLeft I (v3).toNatClampNeg)) (v3 + 1) I)))))) := rfl
def jX2_leftOn (I : IM) (a1 : Int32) : Int32 := (jX2_leftOnI a1 FU 1000 0 I)
def jX2_leftOnK (I : IM) (a1 : Int32) : Prop := (jX2_leftOnO a1 FU 1000 0 I)
set_option maxRecDepth 10000 in
set_option maxHeartbeats 1000000 in
theorem uX2_leftOn (d : Nat) {T : Topo} (hT : Lay T) (a1 : Int32)   {R : Int32} {I00 : IM} : ∀ n : Nat, (∀ (v2 v3 : Int32) (I : IM), I = I00 → jX2_leftOnO a1 n v2 v3 I → jX2_leftOnI a1 n v2 v3 I = R → J (d + 1) mX2_leftOn (PI (fun x T' I' => x = R ∧ T' = T ∧ I' = I00)) 0 0 6 [some (.ref 69), some (.int a1), some (.int v2), some (.int v3)] [] T I 0 0) := by
  intro n
  induction n with
  | zero => exact fun _ _ _ _ hz => hz.elim
  | succ n ih =>
    exact fun v2 v3 I hI hok hit => by
        rw [jX2_leftOnO_6] at hok
        exact sX2_leftOn_6 d hT a1   (K6 := fun w2 w3 I_ => (jX2_leftOnO a1 n w2 w3 I_ ∧ jX2_leftOnI a1 n w2 w3 I_ = R) ∧ I_ = I00) (fun w2 w3 I_ hw => ih w2 w3 I_ hw.2 hw.1.1 hw.1.2) v2 v3 I (by
          unfold fX2_leftOn_6
          exact ⟨fun hc1 => ⟨by rw [jX2_leftOnI_6, if_pos hc1] at hit; exact hit, rfl, hI⟩, fun hc1 => ⟨fun hc2 => ⟨⟨((hok).2 hc1).1 hc2, by rw [jX2_leftOnI_6, if_neg hc1, if_neg hc2] at hit; exact hit⟩, hI⟩, fun hc2 => ⟨(((hok).2 hc1).2 hc2).1, ⟨⟨(((hok).2 hc1).2 hc2).2, by rw [jX2_leftOnI_6, if_neg hc1, if_pos hc2] at hit; exact hit⟩, hI⟩⟩⟩⟩)
set_option maxRecDepth 10000 in
set_option maxHeartbeats 1000000 in
theorem qX2_leftOn (d : Nat) {T : Topo} {I : IM} (hT : Lay T) (a1 : Int32)  (hp : (jX2_leftOnK I a1)) : CtP (d + 1) mX2_leftOn [.ref 69, .int a1] T I (jX2_leftOn I a1) := by
  unfold jX2_leftOnK at hp
  exact Ct.ofJ (by decide +kernel) rfl (by intro v hv; revert v hv; simp [Value.category]) rfl (sX2_leftOn_0 d hT a1   (K6 := fun w2 w3 I_ => (jX2_leftOnO a1 FU w2 w3 I_ ∧ jX2_leftOnI a1 FU w2 w3 I_ = (jX2_leftOn I a1)) ∧ I_ = I) (fun w2 w3 I_ hw => uX2_leftOn d hT a1   FU w2 w3 I_ hw.2 hw.1.1 hw.1.2) I (by
    unfold fX2_leftOn_0
    exact ⟨⟨hp, rfl⟩, rfl⟩))

def fX2_pass_0 (T : Topo) (i1 : Nat) (a2 : Int32) (a3 : Int32) (Q : Topo → IM → Prop) (K6 : Int32 → Int32 → IM → Prop) (I : IM) : Prop :=
  K6 0 0 I
def fX2_pass_6 (T : Topo) (i1 : Nat) (a2 : Int32) (a3 : Int32) (Q : Topo → IM → Prop) (K6 : Int32 → Int32 → IM → Prop) (v4 v5 : Int32) (I : IM) : Prop :=
  ((((I 1 4) ≤ v5) → Q T (up2 (up2 (up2 (up2 (up2 (up2 I (17 + 4 * i1) 13 ((I (17 + 4 * i1) 13) - a3)) (17 + 4 * i1) 14 ((I (17 + 4 * i1) 14) + a3)) (17 + 4 * i1) 17 ((I (17 + 4 * i1) 17) + a3)) (17 + 4 * i1) 16 ((I (17 + 4 * i1) 16) + (a3 * v4))) 69 4 ((I 69 4) + a3)) 69 5 ((I 69 5) + (a3 * v4)))) ∧ ((¬ (I 1 4) ≤ v5) → ((((¬ (hs a2 v5)) → K6 v4 (v5 + 1) I) ∧ ((hs a2 v5) → ((vp_in v5 9) ∧ (((vp_in v5 9) ∧ K6 (v4 + ((jPassM I (v5).toNatClampNeg a3) (6 + (v5).toNatClampNeg) 4)) (v5 + 1) (jPassM I (v5).toNatClampNeg a3)))))))))
set_option maxHeartbeats 4000000 in
set_option maxRecDepth 100000 in
theorem sX2_pass_0 (d : Nat) {T : Topo} (hT : Lay T) (i1 : Nat) (a2 : Int32) (a3 : Int32) (hi1 : i1 < 8)   {Q : Topo → IM → Prop} {K6 : Int32 → Int32 → IM → Prop} (hK6 : ∀ (v4 v5 : Int32) (I : IM), K6 v4 v5 I → J (d + 1) mX2_pass (PV Q) 0 0 6 [some (.ref 69), some (.ref (17 + 4 * i1)), some (.int a2), some (.int a3), some (.int v4), some (.int v5)] [] T I 0 0) (I : IM) (h : fX2_pass_0 T i1 a2 a3 Q K6 I) : J (d + 1) mX2_pass (PV Q) 0 0 0 [some (.ref 69), some (.ref (17 + 4 * i1)), some (.int a2), some (.int a3), none, none] [] T I 0 0 := by
  unfold fX2_pass_0 at h
  refine J.iconst (v := 0) dX2_pass_0 (by decide) ?_
  refine J.istore (ls' := [some (.ref 69), some (.ref (17 + 4 * i1)), some (.int a2), some (.int a3), some (.int 0), none]) dX2_pass_1 rfl rfl ?_
  refine J.iconst (v := 0) dX2_pass_3 (by decide) ?_
  refine J.istore (ls' := [some (.ref 69), some (.ref (17 + 4 * i1)), some (.int a2), some (.int a3), some (.int 0), some (.int 0)]) dX2_pass_4 rfl rfl ?_
  exact J.weaken (ls' := [some (.ref 69), some (.ref (17 + 4 * i1)), some (.int a2), some (.int a3), some (.int 0), some (.int 0)]) (And.intro rfl (And.intro rfl (And.intro rfl (And.intro rfl (And.intro rfl (And.intro rfl trivial)))))) (hK6 0 0 I h)
set_option maxHeartbeats 4000000 in
set_option maxRecDepth 100000 in
theorem sX2_pass_6 (d : Nat) {T : Topo} (hT : Lay T) (i1 : Nat) (a2 : Int32) (a3 : Int32) (hi1 : i1 < 8)   {Q : Topo → IM → Prop} {K6 : Int32 → Int32 → IM → Prop} (hK6 : ∀ (v4 v5 : Int32) (I : IM), K6 v4 v5 I → J (d + 1) mX2_pass (PV Q) 0 0 6 [some (.ref 69), some (.ref (17 + 4 * i1)), some (.int a2), some (.int a3), some (.int v4), some (.int v5)] [] T I 0 0) (v4 v5 : Int32) (I : IM) (h : fX2_pass_6 T i1 a2 a3 Q K6 v4 v5 I) : J (d + 1) mX2_pass (PV Q) 0 0 6 [some (.ref 69), some (.ref (17 + 4 * i1)), some (.int a2), some (.int a3), some (.int v4), some (.int v5)] [] T I 0 0 := by
  unfold fX2_pass_6 at h
  refine J.iload dX2_pass_6 rfl ?_
  refine J.aload_n dX2_pass_8 rfl rfl ?_
  refine J.getR (r := 1) dX2_pass_9 fX2_15 (hT.k 69 rfl) rfl (hT.r 69 0 rfl rfl) ?_
  refine J.getI dX2_pass_12 fX2_35 (hT.k 1 rfl) rfl ?_
  refine J.icmp_ge (tgt := 63) dX2_pass_15 (by decide) (fun hc1 => ?_) (fun hc1 => ?_)
  · have h := h.1 hc1
    refine J.aload_n dX2_pass_63 rfl rfl ?_
    refine J.dup dX2_pass_64 rfl ?_
    refine J.getI dX2_pass_65 fX2_65 (hT.sliceK hi1) rfl ?_
    refine J.iload_n dX2_pass_68 rfl rfl ?_
    refine J.isub dX2_pass_69 ?_
    refine J.putI dX2_pass_70 fX2_65 (hT.sliceK hi1) rfl ?_
    refine J.aload_n dX2_pass_73 rfl rfl ?_
    refine J.atpc (pc' := 74) rfl ?_
    refine J.dup dX2_pass_74 rfl ?_
    refine J.getI dX2_pass_75 fX2_126 (hT.sliceK hi1) rfl ?_
    refine J.topEq (y := (I (17 + 4 * i1) 14)) (up2_sj _ _ _ (by decide)) ?_
    refine J.iload_n dX2_pass_78 rfl rfl ?_
    refine J.iadd dX2_pass_79 ?_
    refine J.putI dX2_pass_80 fX2_126 (hT.sliceK hi1) rfl ?_
    refine J.aload_n dX2_pass_83 rfl rfl ?_
    refine J.dup dX2_pass_84 rfl ?_
    refine J.getI dX2_pass_85 fX2_58 (hT.sliceK hi1) rfl ?_
    refine J.topEq (y := (I (17 + 4 * i1) 17)) (Eq.trans (up2_sj _ _ _ (by decide)) (up2_sj _ _ _ (by decide))) ?_
    refine J.atpc (pc' := 88) rfl ?_
    refine J.iload_n dX2_pass_88 rfl rfl ?_
    refine J.iadd dX2_pass_89 ?_
    refine J.putI dX2_pass_90 fX2_58 (hT.sliceK hi1) rfl ?_
    refine J.aload_n dX2_pass_93 rfl rfl ?_
    refine J.dup dX2_pass_94 rfl ?_
    refine J.getI dX2_pass_95 fX2_129 (hT.sliceK hi1) rfl ?_
    refine J.topEq (y := (I (17 + 4 * i1) 16)) (Eq.trans (up2_sj _ _ _ (by decide)) (Eq.trans (up2_sj _ _ _ (by decide)) (up2_sj _ _ _ (by decide)))) ?_
    refine J.iload_n dX2_pass_98 rfl rfl ?_
    refine J.iload dX2_pass_99 rfl ?_
    refine J.atpc (pc' := 101) rfl ?_
    refine J.imul dX2_pass_101 ?_
    refine J.iadd dX2_pass_102 ?_
    refine J.putI dX2_pass_103 fX2_129 (hT.sliceK hi1) rfl ?_
    refine J.aload_n dX2_pass_106 rfl rfl ?_
    refine J.dup dX2_pass_107 rfl ?_
    refine J.getI dX2_pass_108 fX2_132 (hT.k 69 rfl) rfl ?_
    refine J.topEq (y := (I 69 4)) (Eq.trans (up2_o _ _ _ _ (by (have := hi1; omega))) (Eq.trans (up2_o _ _ _ _ (by (have := hi1; omega))) (Eq.trans (up2_o _ _ _ _ (by (have := hi1; omega))) (up2_o _ _ _ _ (by (have := hi1; omega)))))) ?_
    refine J.iload_n dX2_pass_111 rfl rfl ?_
    refine J.iadd dX2_pass_112 ?_
    refine J.atpc (pc' := 113) rfl ?_
    refine J.putI dX2_pass_113 fX2_132 (hT.k 69 rfl) rfl ?_
    refine J.aload_n dX2_pass_116 rfl rfl ?_
    refine J.dup dX2_pass_117 rfl ?_
    refine J.getI dX2_pass_118 fX2_133 (hT.k 69 rfl) rfl ?_
    refine J.topEq (y := (I 69 5)) (Eq.trans (up2_sj _ _ _ (by decide)) (Eq.trans (up2_o _ _ _ _ (by (have := hi1; omega))) (Eq.trans (up2_o _ _ _ _ (by (have := hi1; omega))) (Eq.trans (up2_o _ _ _ _ (by (have := hi1; omega))) (up2_o _ _ _ _ (by (have := hi1; omega))))))) ?_
    refine J.iload_n dX2_pass_121 rfl rfl ?_
    refine J.iload dX2_pass_122 rfl ?_
    refine J.imul dX2_pass_124 ?_
    refine J.iadd dX2_pass_125 ?_
    refine J.atpc (pc' := 126) rfl ?_
    refine J.putI dX2_pass_126 fX2_133 (hT.k 69 rfl) rfl ?_
    exact J.vretQ dX2_pass_129 rfl (Nat.le_refl _) (Nat.le_refl _) h
  · have h := h.2 hc1
    refine J.iload_n dX2_pass_18 rfl rfl ?_
    refine J.iload dX2_pass_19 rfl ?_
    refine J.callSP (as := [.int a2, .int v5]) (rest := []) dX2_pass_21 kX11_has vX11_has lX2_107 rfl rfl rfl (by omega) (Nat.le_refl _) (Nat.le_refl _) (qX11_has (d + 0) hT a2 v5 ) ?_
    refine J.bz_eq (tgt := 57) dX2_pass_24 (by decide) (fun hc2 => ?_) (fun hc2 => ?_)
    · have h := h.1 hc2
      refine J.iinc (v := (v5 + 1)) (ls' := [some (.ref 69), some (.ref (17 + 4 * i1)), some (.int a2), some (.int a3), some (.int v4), some (.int (v5 + 1))]) dX2_pass_57 rfl (by rfl) rfl ?_
      refine J.goto (tgt := 6) dX2_pass_60 (by decide) ?_
      exact J.weaken (ls' := [some (.ref 69), some (.ref (17 + 4 * i1)), some (.int a2), some (.int a3), some (.int v4), some (.int (v5 + 1))]) (And.intro rfl (And.intro rfl (And.intro rfl (And.intro rfl (And.intro rfl (And.intro rfl trivial)))))) (hK6 v4 (v5 + 1) I h)
    · have h := h.2 hc2
      refine J.aload_n dX2_pass_27 rfl rfl ?_
      refine J.getR (r := 1) dX2_pass_28 fX2_15 (hT.k 69 rfl) rfl (hT.r 69 0 rfl rfl) ?_
      refine J.iload dX2_pass_31 rfl ?_
      obtain ⟨hp3, h⟩ := h
      refine J.callVF (r := (6 + (v5).toNatClampNeg)) (k := 1) (as := [.int v5]) (rest := []) dX2_pass_33 kX5_lineAt vX5_lineAt lX2_40 (hT.k 1 rfl) rfl rfl rfl rfl rfl (by omega) (Nat.le_refl _) (Nat.le_refl _) (qX5_lineAt (d + 0) hT v5 hp3) ?_
      refine J.iload_n dX2_pass_36 rfl rfl ?_
      refine J.callVD (k := (6 + (v5).toNatClampNeg)) (as := [.int a3]) (rest := []) dX2_pass_37 kX4_pass vX4_pass lX2_120 (hT.lineK (vp_lt hp3)) rfl rfl rfl rfl rfl (by omega) (Nat.le_refl _) (Nat.le_refl _) (qX4_pass (d + 0) hT (v5).toNatClampNeg (vp_lt hp3) a3 ) ?_
      refine J.iload dX2_pass_40 rfl ?_
      refine J.aload_n dX2_pass_42 rfl rfl ?_
      refine J.getR (r := 1) dX2_pass_43 fX2_15 (hT.k 69 rfl) rfl (hT.r 69 0 rfl rfl) ?_
      refine J.iload dX2_pass_46 rfl ?_
      obtain ⟨hp4, h⟩ := h
      refine J.callVF (r := (6 + (v5).toNatClampNeg)) (k := 1) (as := [.int v5]) (rest := [.int v4]) dX2_pass_48 kX5_lineAt vX5_lineAt lX2_40 (hT.k 1 rfl) rfl rfl rfl rfl rfl (by omega) (Nat.le_refl _) (Nat.le_refl _) (qX5_lineAt (d + 0) hT v5 hp4) ?_
      refine J.getI dX2_pass_51 fX2_123 (hT.lineK (vp_lt hp4)) rfl ?_
      refine J.iadd dX2_pass_54 ?_
      refine J.istore (ls' := [some (.ref 69), some (.ref (17 + 4 * i1)), some (.int a2), some (.int a3), some (.int (v4 + ((jPassM I (v5).toNatClampNeg a3) (6 + (v5).toNatClampNeg) 4))), some (.int v5)]) dX2_pass_55 rfl rfl ?_
      refine J.iinc (v := (v5 + 1)) (ls' := [some (.ref 69), some (.ref (17 + 4 * i1)), some (.int a2), some (.int a3), some (.int (v4 + ((jPassM I (v5).toNatClampNeg a3) (6 + (v5).toNatClampNeg) 4))), some (.int (v5 + 1))]) dX2_pass_57 rfl (by rfl) rfl ?_
      refine J.goto (tgt := 6) dX2_pass_60 (by decide) ?_
      exact J.weaken (ls' := [some (.ref 69), some (.ref (17 + 4 * i1)), some (.int a2), some (.int a3), some (.int (v4 + ((jPassM I (v5).toNatClampNeg a3) (6 + (v5).toNatClampNeg) 4))), some (.int (v5 + 1))]) (And.intro rfl (And.intro rfl (And.intro rfl (And.intro rfl (And.intro rfl (And.intro rfl trivial)))))) (hK6 (v4 + ((jPassM I (v5).toNatClampNeg a3) (6 + (v5).toNatClampNeg) 4)) (v5 + 1) (jPassM I (v5).toNatClampNeg a3) h)
set_option maxHeartbeats 4000000 in
set_option maxRecDepth 100000 in
theorem wX2_pass (d : Nat) {T : Topo} (hT : Lay T) (i1 : Nat) (a2 : Int32) (a3 : Int32) (hi1 : i1 < 8)  {Q : Topo → IM → Prop} (V6 : Int32 → Int32 → IM → Prop) (μ6 : Int32 → Int32 → IM → Nat) (vc6 : ∀ (v4 v5 : Int32) (I : IM), V6 v4 v5 I → fX2_pass_6 T i1 a2 a3 Q (fun w4 w5 I_ => V6 w4 w5 I_ ∧ μ6 w4 w5 I_ < μ6 v4 v5 I) v4 v5 I) {I : IM} (h : fX2_pass_0 T i1 a2 a3 Q V6 I) : Ct (d + 1) mX2_pass [.ref 69, .ref (17 + 4 * i1), .int a2, .int a3] T I 0 0 (PV Q) := by
  have all : ∀ n : Nat, (∀ (v4 v5 : Int32) (I : IM), V6 v4 v5 I → μ6 v4 v5 I < n → J (d + 1) mX2_pass (PV Q) 0 0 6 [some (.ref 69), some (.ref (17 + 4 * i1)), some (.int a2), some (.int a3), some (.int v4), some (.int v5)] [] T I 0 0) := by
    intro n
    induction n with
    | zero => exact fun _ _ _ _ hn => absurd hn (Nat.not_lt_zero _)
    | succ n ih =>
      exact fun v4 v5 I hv hn => sX2_pass_6 d hT i1 a2 a3 hi1  (fun w4 w5 I_ hw => ih w4 w5 I_ hw.1 (by have := hw.2; omega)) v4 v5 I (vc6 v4 v5 I hv)
  exact Ct.ofJ (by decide +kernel) rfl (by intro v hv; revert v hv; simp [Value.category]) rfl (sX2_pass_0 d hT i1 a2 a3 hi1  (fun w4 w5 I_ hw => (all (μ6 w4 w5 I_ + 1)) w4 w5 I_ hw (Nat.lt_succ_self _)) I h)

def jX2_passI (i1 : Nat) (a2 : Int32) (a3 : Int32) : Nat → Int32 → Int32 → IM → IM
  | 0 => fun _ _ I => I
  | n + 1 => fun v4 v5 I => (if (I 1 4) ≤ v5 then (up2 (up2 (up2 (up2 (up2 (up2 I (17 + 4 * i1) 13 ((I (17 + 4 * i1) 13) - a3)) (17 + 4 * i1) 14 ((I (17 + 4 * i1) 14) + a3)) (17 + 4 * i1) 17 ((I (17 + 4 * i1) 17) + a3)) (17 + 4 * i1) 16 ((I (17 + 4 * i1) 16) + (a3 * v4))) 69 4 ((I 69 4) + a3)) 69 5 ((I 69 5) + (a3 * v4))) else (if hs a2 v5 then (jX2_passI i1 a2 a3 n (v4 + ((jPassM I (v5).toNatClampNeg a3) (6 + (v5).toNatClampNeg) 4)) (v5 + 1) (jPassM I (v5).toNatClampNeg a3)) else (jX2_passI i1 a2 a3 n v4 (v5 + 1) I)))
def jX2_passO (i1 : Nat) (a2 : Int32) (a3 : Int32) : Nat → Int32 → Int32 → IM → Prop
  | 0 => fun _ _ _ => False
  | n + 1 => fun v4 v5 I => ((((I 1 4) ≤ v5) → True) ∧ ((¬ (I 1 4) ≤ v5) → (((¬ (hs a2 v5)) → (jX2_passO i1 a2 a3 n v4 (v5 + 1) I)) ∧ ((hs a2 v5) → ((vp_in v5 9) ∧ ((vp_in v5 9) ∧ (jX2_passO i1 a2 a3 n (v4 + ((jPassM I (v5).toNatClampNeg a3) (6 + (v5).toNatClampNeg) 4)) (v5 + 1) (jPassM I (v5).toNatClampNeg a3))))))))
theorem jX2_passI_6 (i1 : Nat) (a2 : Int32) (a3 : Int32) (n : Nat) (v4 v5 : Int32) (I : IM) : jX2_passI i1 a2 a3 (n + 1) v4 v5 I = (if (I 1 4) ≤ v5 then (up2 (up2 (up2 (up2 (up2 (up2 I (17 + 4 * i1) 13 ((I (17 + 4 * i1) 13) - a3)) (17 + 4 * i1) 14 ((I (17 + 4 * i1) 14) + a3)) (17 + 4 * i1) 17 ((I (17 + 4 * i1) 17) + a3)) (17 + 4 * i1) 16 ((I (17 + 4 * i1) 16) + (a3 * v4))) 69 4 ((I 69 4) + a3)) 69 5 ((I 69 5) + (a3 * v4))) else (if hs a2 v5 then (jX2_passI i1 a2 a3 n (v4 + ((jPassM I (v5).toNatClampNeg a3) (6 + (v5).toNatClampNeg) 4)) (v5 + 1) (jPassM I (v5).toNatClampNeg a3)) else (jX2_passI i1 a2 a3 n v4 (v5 + 1) I))) := rfl
theorem jX2_passO_6 (i1 : Nat) (a2 : Int32) (a3 : Int32) (n : Nat) (v4 v5 : Int32) (I : IM) : jX2_passO i1 a2 a3 (n + 1) v4 v5 I = ((((I 1 4) ≤ v5) → True) ∧ ((¬ (I 1 4) ≤ v5) → (((¬ (hs a2 v5)) → (jX2_passO i1 a2 a3 n v4 (v5 + 1) I)) ∧ ((hs a2 v5) → ((vp_in v5 9) ∧ ((vp_in v5 9) ∧ (jX2_passO i1 a2 a3 n (v4 + ((jPassM I (v5).toNatClampNeg a3) (6 + (v5).toNatClampNeg) 4)) (v5 + 1) (jPassM I (v5).toNatClampNeg a3)))))))) := rfl
def jX2_pass (I : IM) (i1 : Nat) (a2 : Int32) (a3 : Int32) : IM := (jX2_passI i1 a2 a3 FU 0 0 I)
def jX2_passK (I : IM) (i1 : Nat) (a2 : Int32) (a3 : Int32) : Prop := (jX2_passO i1 a2 a3 FU 0 0 I)
set_option maxRecDepth 10000 in
set_option maxHeartbeats 1000000 in
theorem uX2_pass (d : Nat) {T : Topo} (hT : Lay T) (i1 : Nat) (a2 : Int32) (a3 : Int32) (hi1 : i1 < 8)  {R : IM} : ∀ n : Nat, (∀ (v4 v5 : Int32) (I : IM), jX2_passO i1 a2 a3 n v4 v5 I → jX2_passI i1 a2 a3 n v4 v5 I = R → J (d + 1) mX2_pass (PV (fun T' I' => T' = T ∧ I' = R)) 0 0 6 [some (.ref 69), some (.ref (17 + 4 * i1)), some (.int a2), some (.int a3), some (.int v4), some (.int v5)] [] T I 0 0) := by
  intro n
  induction n with
  | zero => exact fun _ _ _ hz => hz.elim
  | succ n ih =>
    exact fun v4 v5 I hok hit => by
        rw [jX2_passO_6] at hok
        exact sX2_pass_6 d hT i1 a2 a3 hi1  (K6 := fun w4 w5 I_ => (jX2_passO i1 a2 a3 n w4 w5 I_ ∧ jX2_passI i1 a2 a3 n w4 w5 I_ = R)) (fun w4 w5 I_ hw => ih w4 w5 I_ hw.1 hw.2) v4 v5 I (by
          unfold fX2_pass_6
          exact ⟨fun hc1 => ⟨rfl, by rw [jX2_passI_6, if_pos hc1] at hit; exact hit⟩, fun hc1 => ⟨fun hc2 => ⟨((hok).2 hc1).1 hc2, by rw [jX2_passI_6, if_neg hc1, if_neg hc2] at hit; exact hit⟩, fun hc2 => ⟨(((hok).2 hc1).2 hc2).1, ⟨((((hok).2 hc1).2 hc2).2).1, ⟨((((hok).2 hc1).2 hc2).2).2, by rw [jX2_passI_6, if_neg hc1, if_pos hc2] at hit; exact hit⟩⟩⟩⟩⟩)
set_option maxRecDepth 10000 in
set_option maxHeartbeats 1000000 in
theorem qX2_pass (d : Nat) {T : Topo} {I : IM} (hT : Lay T) (i1 : Nat) (hi1 : i1 < 8) (a2 : Int32) (a3 : Int32)  (hp : (jX2_passK I i1 a2 a3)) : CtV (d + 1) mX2_pass [.ref 69, .ref (17 + 4 * i1), .int a2, .int a3] T I (fun J_ => J_ = (jX2_pass I i1 a2 a3)) := by
  unfold jX2_passK at hp
  exact Ct.ofJ (by decide +kernel) rfl (by intro v hv; revert v hv; simp [Value.category]) rfl (sX2_pass_0 d hT i1 a2 a3 hi1  (K6 := fun w4 w5 I_ => (jX2_passO i1 a2 a3 FU w4 w5 I_ ∧ jX2_passI i1 a2 a3 FU w4 w5 I_ = (jX2_pass I i1 a2 a3))) (fun w4 w5 I_ hw => uX2_pass d hT i1 a2 a3 hi1  FU w4 w5 I_ hw.1 hw.2) I (by
    unfold fX2_pass_0
    exact ⟨hp, rfl⟩))

def fX2_canBorrow_0 (T : Topo) (i1 : Nat) (Q : Int32 → Topo → IM → Prop)  (I : IM) : Prop :=
  (((jX8_isOfK I i1 2)) ∧ ((((jX8_isOf I i1 2) = 0) → Q 0 T I) ∧ ((¬ (jX8_isOf I i1 2) = 0) → ((((I (17 + 4 * i1) 13) ≤ 0) → Q 0 T I) ∧ ((¬ (I (17 + 4 * i1) 13) ≤ 0) → ((((I (17 + 4 * i1) 17) < (I (17 + 4 * i1) 3)) → (((((jX2_wayNow I i1) = 0) → Q 0 T I) ∧ ((¬ (jX2_wayNow I i1) = 0) → (((jX2_leftOnK I (jX2_wayNow I i1))) ∧ ((((jX2_leftOn I (jX2_wayNow I i1)) ≤ 0) → Q 0 T I) ∧ ((¬ (jX2_leftOn I (jX2_wayNow I i1)) ≤ 0) → Q 1 T I))))))) ∧ ((¬ (I (17 + 4 * i1) 17) < (I (17 + 4 * i1) 3)) → Q 0 T I)))))))
set_option maxHeartbeats 4000000 in
set_option maxRecDepth 100000 in
theorem sX2_canBorrow_0 (d : Nat) {T : Topo} (hT : Lay T) (i1 : Nat) (hi1 : i1 < 8)   {Q : Int32 → Topo → IM → Prop}   (I : IM) (h : fX2_canBorrow_0 T i1 Q  I) : J (d + 3) mX2_canBorrow (PI Q) 0 0 0 [some (.ref 69), some (.ref (17 + 4 * i1)), none] [] T I 0 0 := by
  unfold fX2_canBorrow_0 at h
  refine J.aload_n dX2_canBorrow_0 rfl rfl ?_
  refine J.iconst (v := 2) dX2_canBorrow_1 (by decide) ?_
  obtain ⟨hp1, h⟩ := h
  refine J.callVP (k := (17 + 4 * i1)) (as := [.int 2]) (rest := []) dX2_canBorrow_2 kX8_isOf vX8_isOf lX2_93 (hT.sliceK hi1) rfl rfl rfl rfl rfl (by omega) (Nat.le_refl _) (Nat.le_refl _) (qX8_isOf (d + 2) hT i1 hi1 2 hp1) ?_
  refine J.if_eq (tgt := 26) dX2_canBorrow_5 (by decide) (fun hc2 => ?_) (fun hc2 => ?_)
  · have h := h.1 hc2
    refine J.iconst (v := 0) dX2_canBorrow_26 (by decide) ?_
    exact J.zretQ dX2_canBorrow_27 rfl (Or.inl rfl) (Nat.le_refl _) (Nat.le_refl _) h
  · have h := h.2 hc2
    refine J.aload_n dX2_canBorrow_8 rfl rfl ?_
    refine J.getI dX2_canBorrow_9 fX2_65 (hT.sliceK hi1) rfl ?_
    refine J.if_le (tgt := 26) dX2_canBorrow_12 (by decide) (fun hc3 => ?_) (fun hc3 => ?_)
    · have h := h.1 hc3
      refine J.iconst (v := 0) dX2_canBorrow_26 (by decide) ?_
      exact J.zretQ dX2_canBorrow_27 rfl (Or.inl rfl) (Nat.le_refl _) (Nat.le_refl _) h
    · have h := h.2 hc3
      refine J.aload_n dX2_canBorrow_15 rfl rfl ?_
      refine J.getI dX2_canBorrow_16 fX2_58 (hT.sliceK hi1) rfl ?_
      refine J.aload_n dX2_canBorrow_19 rfl rfl ?_
      refine J.getI dX2_canBorrow_20 fX2_97 (hT.sliceK hi1) rfl ?_
      refine J.icmp_lt (tgt := 28) dX2_canBorrow_23 (by decide) (fun hc4 => ?_) (fun hc4 => ?_)
      · have h := h.1 hc4
        refine J.aload_n dX2_canBorrow_28 rfl rfl ?_
        refine J.aload_n dX2_canBorrow_29 rfl rfl ?_
        refine J.callVP (k := 69) (as := [.ref (17 + 4 * i1)]) (rest := []) dX2_canBorrow_30 kX2_wayNow vX2_wayNow lX2_61 (hT.k 69 rfl) rfl rfl rfl rfl rfl (by omega) (Nat.le_refl _) (Nat.le_refl _) (qX2_wayNow (d + 0) hT i1 hi1 ) ?_
        refine J.istore_n (ls' := [some (.ref 69), some (.ref (17 + 4 * i1)), some (.int (jX2_wayNow I i1))]) dX2_canBorrow_33 rfl rfl rfl ?_
        refine J.iload_n dX2_canBorrow_34 rfl rfl ?_
        refine J.if_eq (tgt := 50) dX2_canBorrow_35 (by decide) (fun hc5 => ?_) (fun hc5 => ?_)
        · have h := h.1 hc5
          refine J.iconst (v := 0) dX2_canBorrow_50 (by decide) ?_
          exact J.zretQ dX2_canBorrow_51 rfl (Or.inl rfl) (Nat.le_refl _) (Nat.le_refl _) h
        · have h := h.2 hc5
          refine J.aload_n dX2_canBorrow_38 rfl rfl ?_
          refine J.iload_n dX2_canBorrow_39 rfl rfl ?_
          obtain ⟨hp6, h⟩ := h
          refine J.callVP (k := 69) (as := [.int (jX2_wayNow I i1)]) (rest := []) dX2_canBorrow_40 kX2_leftOn vX2_leftOn lX2_78 (hT.k 69 rfl) rfl rfl rfl rfl rfl (by omega) (Nat.le_refl _) (Nat.le_refl _) (qX2_leftOn (d + 1) hT (jX2_wayNow I i1) hp6) ?_
          refine J.if_le (tgt := 50) dX2_canBorrow_43 (by decide) (fun hc7 => ?_) (fun hc7 => ?_)
          · have h := h.1 hc7
            refine J.iconst (v := 0) dX2_canBorrow_50 (by decide) ?_
            exact J.zretQ dX2_canBorrow_51 rfl (Or.inl rfl) (Nat.le_refl _) (Nat.le_refl _) h
          · have h := h.2 hc7
            refine J.iconst (v := 1) dX2_canBorrow_46 (by decide) ?_
            refine J.goto (tgt := 51) dX2_canBorrow_47 (by decide) ?_
            exact J.zretQ dX2_canBorrow_51 rfl (Or.inr rfl) (Nat.le_refl _) (Nat.le_refl _) h
      · have h := h.2 hc4
        refine J.iconst (v := 0) dX2_canBorrow_26 (by decide) ?_
        exact J.zretQ dX2_canBorrow_27 rfl (Or.inl rfl) (Nat.le_refl _) (Nat.le_refl _) h
set_option maxHeartbeats 4000000 in
set_option maxRecDepth 100000 in
theorem wX2_canBorrow (d : Nat) {T : Topo} (hT : Lay T) (i1 : Nat) (hi1 : i1 < 8)  {Q : Int32 → Topo → IM → Prop} {I : IM} (h : fX2_canBorrow_0 T i1 Q I) : Ct (d + 3) mX2_canBorrow [.ref 69, .ref (17 + 4 * i1)] T I 0 0 (PI Q) :=
  Ct.ofJ (by decide +kernel) rfl (by intro v hv; revert v hv; simp [Value.category]) rfl (sX2_canBorrow_0 d hT i1 hi1  I h)

def jX2_canBorrow (I : IM) (i1 : Nat) : Int32 := (if (jX8_isOf I i1 2) = 0 then 0 else (if (I (17 + 4 * i1) 13) ≤ 0 then 0 else (if (I (17 + 4 * i1) 17) < (I (17 + 4 * i1) 3) then (if (jX2_wayNow I i1) = 0 then 0 else (if (jX2_leftOn I (jX2_wayNow I i1)) ≤ 0 then 0 else 1)) else 0)))
def jX2_canBorrowK (I : IM) (i1 : Nat) : Prop := (((jX8_isOfK I i1 2)) ∧ ((((jX8_isOf I i1 2) = 0) → True) ∧ ((¬ (jX8_isOf I i1 2) = 0) → ((((I (17 + 4 * i1) 13) ≤ 0) → True) ∧ ((¬ (I (17 + 4 * i1) 13) ≤ 0) → ((((I (17 + 4 * i1) 17) < (I (17 + 4 * i1) 3)) → ((((jX2_wayNow I i1) = 0) → True) ∧ ((¬ (jX2_wayNow I i1) = 0) → ((jX2_leftOnK I (jX2_wayNow I i1)))))) ∧ ((¬ (I (17 + 4 * i1) 17) < (I (17 + 4 * i1) 3)) → True)))))))
set_option maxRecDepth 10000 in
theorem qX2_canBorrow (d : Nat) {T : Topo} {I : IM} (hT : Lay T) (i1 : Nat) (hi1 : i1 < 8)  (hp : (jX2_canBorrowK I i1)) : CtP (d + 3) mX2_canBorrow [.ref 69, .ref (17 + 4 * i1)] T I ((jX2_canBorrow I i1)) :=
  wX2_canBorrow d hT i1 hi1  (by
  unfold fX2_canBorrow_0
  exact ⟨(hp).1, ⟨fun hc1 => ⟨by unfold jX2_canBorrow; rw [if_pos hc1], rfl, rfl⟩, fun hc1 => ⟨fun hc2 => ⟨by unfold jX2_canBorrow; rw [if_neg hc1, if_pos hc2], rfl, rfl⟩, fun hc2 => ⟨fun hc3 => ⟨fun hc4 => ⟨by unfold jX2_canBorrow; rw [if_neg hc1, if_neg hc2, if_pos hc3, if_pos hc4], rfl, rfl⟩, fun hc4 => ⟨(((((hp).2).2 hc1).2 hc2).1 hc3).2 hc4, ⟨fun hc5 => ⟨by unfold jX2_canBorrow; rw [if_neg hc1, if_neg hc2, if_pos hc3, if_neg hc4, if_pos hc5], rfl, rfl⟩, fun hc5 => ⟨by unfold jX2_canBorrow; rw [if_neg hc1, if_neg hc2, if_pos hc3, if_neg hc4, if_neg hc5], rfl, rfl⟩⟩⟩⟩, fun hc3 => ⟨by unfold jX2_canBorrow; rw [if_neg hc1, if_neg hc2, if_neg hc3], rfl, rfl⟩⟩⟩⟩⟩)

def fX1_find_0 (T : Topo) (b2 : Nat) (a3 : Int32) (a4 : Int32) (a5 : Int32) (Q : Topo → IM → Prop) (K3 : Int32 → IM → Prop) (K57 : Int32 → IM → Prop) (I : IM) : Prop :=
  K3 0 I
def fX1_find_3 (T : Topo) (b2 : Nat) (a3 : Int32) (a4 : Int32) (a5 : Int32) (Q : Topo → IM → Prop) (K3 : Int32 → IM → Prop) (K57 : Int32 → IM → Prop) (v6 : Int32) (I : IM) : Prop :=
  ((((I 1 4) ≤ v6) → K57 0 (up2 I 54 2 0)) ∧ ((¬ (I 1 4) ≤ v6) → ((((¬ ((((1 : Int32) <<< (v6 &&& 31)) &&& I 1 5) = 0)) → (vp_in v6 9 ∧ K3 (v6 + 1) (up2 I 55 v6.toNatClampNeg 0))) ∧ (((((1 : Int32) <<< (v6 &&& 31)) &&& I 1 5) = 0) → (((jX0_freeAtK v6 a5)) ∧ (vp_in v6 9 ∧ K3 (v6 + 1) (up2 I 55 v6.toNatClampNeg (jX0_freeAt I b2 v6 a5)))))))))
def fX1_find_57 (T : Topo) (b2 : Nat) (a3 : Int32) (a4 : Int32) (a5 : Int32) (Q : Topo → IM → Prop) (K3 : Int32 → IM → Prop) (K57 : Int32 → IM → Prop) (v6 : Int32) (I : IM) : Prop :=
  (((((1 : Int32) <<< ((I 1 3) &&& 31)) ≤ v6) → Q T I) ∧ ((¬ ((1 : Int32) <<< ((I 1 3) &&& 31)) ≤ v6) → ((((¬ (hs v6 a3)) → K57 (v6 + 1) I) ∧ ((hs v6 a3) → ((((hs v6 a4) → K57 (v6 + 1) I) ∧ ((¬ (hs v6 a4)) → (((jX1_roomOutOfK I v6)) ∧ (K57 (v6 + 1) (jX1_weighM I v6 (jX1_roomOutOf I v6))))))))))))
set_option maxHeartbeats 4000000 in
set_option maxRecDepth 100000 in
theorem sX1_find_0 (d : Nat) {T : Topo} (hT : Lay T) (b2 : Nat) (a3 : Int32) (a4 : Int32) (a5 : Int32) (hb2 : isBk b2)   {Q : Topo → IM → Prop} {K3 : Int32 → IM → Prop} {K57 : Int32 → IM → Prop} (hK3 : ∀ (v6 : Int32) (I : IM), K3 v6 I → J (d + 2) mX1_find (PV Q) 0 0 3 [some (.ref 54), some (.ref 1), some (.ref b2), some (.int a3), some (.int a4), some (.int a5), some (.int v6)] [] T I 0 0) (hK57 : ∀ (v6 : Int32) (I : IM), K57 v6 I → J (d + 2) mX1_find (PV Q) 0 0 57 [some (.ref 54), some (.ref 1), none, some (.int a3), some (.int a4), none, some (.int v6)] [] T I 0 0) (I : IM) (h : fX1_find_0 T b2 a3 a4 a5 Q K3 K57 I) : J (d + 2) mX1_find (PV Q) 0 0 0 [some (.ref 54), some (.ref 1), some (.ref b2), some (.int a3), some (.int a4), some (.int a5), none] [] T I 0 0 := by
  unfold fX1_find_0 at h
  refine J.iconst (v := 0) dX1_find_0 (by decide) ?_
  refine J.istore (ls' := [some (.ref 54), some (.ref 1), some (.ref b2), some (.int a3), some (.int a4), some (.int a5), some (.int 0)]) dX1_find_1 rfl rfl ?_
  exact J.weaken (ls' := [some (.ref 54), some (.ref 1), some (.ref b2), some (.int a3), some (.int a4), some (.int a5), some (.int 0)]) (And.intro rfl (And.intro rfl (And.intro rfl (And.intro rfl (And.intro rfl (And.intro rfl (And.intro rfl trivial))))))) (hK3 0 I h)
set_option maxHeartbeats 4000000 in
set_option maxRecDepth 100000 in
theorem sX1_find_3 (d : Nat) {T : Topo} (hT : Lay T) (b2 : Nat) (a3 : Int32) (a4 : Int32) (a5 : Int32) (hb2 : isBk b2)   {Q : Topo → IM → Prop} {K3 : Int32 → IM → Prop} {K57 : Int32 → IM → Prop} (hK3 : ∀ (v6 : Int32) (I : IM), K3 v6 I → J (d + 2) mX1_find (PV Q) 0 0 3 [some (.ref 54), some (.ref 1), some (.ref b2), some (.int a3), some (.int a4), some (.int a5), some (.int v6)] [] T I 0 0) (hK57 : ∀ (v6 : Int32) (I : IM), K57 v6 I → J (d + 2) mX1_find (PV Q) 0 0 57 [some (.ref 54), some (.ref 1), none, some (.int a3), some (.int a4), none, some (.int v6)] [] T I 0 0) (v6 : Int32) (I : IM) (h : fX1_find_3 T b2 a3 a4 a5 Q K3 K57 v6 I) : J (d + 2) mX1_find (PV Q) 0 0 3 [some (.ref 54), some (.ref 1), some (.ref b2), some (.int a3), some (.int a4), some (.int a5), some (.int v6)] [] T I 0 0 := by
  unfold fX1_find_3 at h
  refine J.iload dX1_find_3 rfl ?_
  refine J.aload_n dX1_find_5 rfl rfl ?_
  refine J.getI dX1_find_6 fX1_15 (hT.k 1 rfl) rfl ?_
  refine J.icmp_ge (tgt := 49) dX1_find_9 (by decide) (fun hc1 => ?_) (fun hc1 => ?_)
  · have h := h.1 hc1
    refine J.aload_n dX1_find_49 rfl rfl ?_
    refine J.iconst (v := 0) dX1_find_50 (by decide) ?_
    refine J.putI dX1_find_51 fX1_31 (hT.k 54 rfl) rfl ?_
    refine J.iconst (v := 0) dX1_find_54 (by decide) ?_
    refine J.istore (ls' := [some (.ref 54), some (.ref 1), some (.ref b2), some (.int a3), some (.int a4), some (.int a5), some (.int 0)]) dX1_find_55 rfl rfl ?_
    exact J.weaken (ls' := [some (.ref 54), some (.ref 1), none, some (.int a3), some (.int a4), none, some (.int 0)]) (And.intro rfl (And.intro rfl (And.intro rfl (And.intro rfl (And.intro rfl trivial))))) (hK57 0 (up2 I 54 2 0) h)
  · have h := h.2 hc1
    refine J.aload_n dX1_find_12 rfl rfl ?_
    refine J.getR (r := 55) dX1_find_13 fX1_9 (hT.k 54 rfl) rfl (hT.r 54 0 rfl rfl) ?_
    refine J.iload dX1_find_16 rfl ?_
    refine J.aload_n dX1_find_18 rfl rfl ?_
    refine J.iconst (v := 1) dX1_find_19 (by decide) ?_
    refine J.iload dX1_find_20 rfl ?_
    refine J.ishl dX1_find_22 ?_
    refine J.atpc (pc' := 23) rfl ?_
    refine J.callVP (k := 1) (as := [.int ((1 : Int32) <<< (v6 &&& 31))]) (rest := [.int v6, .ref 55]) dX1_find_23 kX5_isUp vX5_isUp lX1_21 (hT.k 1 rfl) rfl rfl rfl rfl rfl (by omega) (Nat.le_refl _) (Nat.le_refl _) (qX5_isUp (d + 1) hT ((1 : Int32) <<< (v6 &&& 31)) ) ?_
    refine J.bz_eq (tgt := 41) dX1_find_26 (by decide) (fun hc2 => ?_) (fun hc2 => ?_)
    · have h := h.1 hc2
      refine J.iconst (v := 0) dX1_find_41 (by decide) ?_
      obtain ⟨hs3, h⟩ := h
      refine J.iast dX1_find_42 (hT.k 55 rfl) (hT.l 55 rfl) hs3 ?_
      refine J.iinc (v := (v6 + 1)) (ls' := [some (.ref 54), some (.ref 1), some (.ref b2), some (.int a3), some (.int a4), some (.int a5), some (.int (v6 + 1))]) dX1_find_43 rfl (by rfl) rfl ?_
      refine J.goto (tgt := 3) dX1_find_46 (by decide) ?_
      exact J.weaken (ls' := [some (.ref 54), some (.ref 1), some (.ref b2), some (.int a3), some (.int a4), some (.int a5), some (.int (v6 + 1))]) (And.intro rfl (And.intro rfl (And.intro rfl (And.intro rfl (And.intro rfl (And.intro rfl (And.intro rfl trivial))))))) (hK3 (v6 + 1) (up2 I 55 v6.toNatClampNeg 0) h)
    · have h := h.2 hc2
      refine J.aload_n dX1_find_29 rfl rfl ?_
      refine J.aload_n dX1_find_30 rfl rfl ?_
      refine J.iload dX1_find_31 rfl ?_
      refine J.iload dX1_find_33 rfl ?_
      obtain ⟨hp4, h⟩ := h
      refine J.callVP (k := b2) (as := [.ref 1, .int v6, .int a5]) (rest := [.int v6, .ref 55]) dX1_find_35 kX0_freeAt vX0_freeAt lX1_25 (hT.bookK hb2) rfl rfl rfl rfl rfl (by omega) (Nat.le_refl _) (Nat.le_refl _) (qX0_freeAt (d + 0) hT b2 hb2 v6 a5 hp4) ?_
      refine J.goto (tgt := 42) dX1_find_38 (by decide) ?_
      obtain ⟨hs5, h⟩ := h
      refine J.iast dX1_find_42 (hT.k 55 rfl) (hT.l 55 rfl) hs5 ?_
      refine J.iinc (v := (v6 + 1)) (ls' := [some (.ref 54), some (.ref 1), some (.ref b2), some (.int a3), some (.int a4), some (.int a5), some (.int (v6 + 1))]) dX1_find_43 rfl (by rfl) rfl ?_
      refine J.goto (tgt := 3) dX1_find_46 (by decide) ?_
      exact J.weaken (ls' := [some (.ref 54), some (.ref 1), some (.ref b2), some (.int a3), some (.int a4), some (.int a5), some (.int (v6 + 1))]) (And.intro rfl (And.intro rfl (And.intro rfl (And.intro rfl (And.intro rfl (And.intro rfl (And.intro rfl trivial))))))) (hK3 (v6 + 1) (up2 I 55 v6.toNatClampNeg (jX0_freeAt I b2 v6 a5)) h)
set_option maxHeartbeats 4000000 in
set_option maxRecDepth 100000 in
theorem sX1_find_57 (d : Nat) {T : Topo} (hT : Lay T) (b2 : Nat) (a3 : Int32) (a4 : Int32) (a5 : Int32) (hb2 : isBk b2)   {Q : Topo → IM → Prop} {K3 : Int32 → IM → Prop} {K57 : Int32 → IM → Prop} (hK3 : ∀ (v6 : Int32) (I : IM), K3 v6 I → J (d + 2) mX1_find (PV Q) 0 0 3 [some (.ref 54), some (.ref 1), some (.ref b2), some (.int a3), some (.int a4), some (.int a5), some (.int v6)] [] T I 0 0) (hK57 : ∀ (v6 : Int32) (I : IM), K57 v6 I → J (d + 2) mX1_find (PV Q) 0 0 57 [some (.ref 54), some (.ref 1), none, some (.int a3), some (.int a4), none, some (.int v6)] [] T I 0 0) (v6 : Int32) (I : IM) (h : fX1_find_57 T b2 a3 a4 a5 Q K3 K57 v6 I) : J (d + 2) mX1_find (PV Q) 0 0 57 [some (.ref 54), some (.ref 1), none, some (.int a3), some (.int a4), none, some (.int v6)] [] T I 0 0 := by
  unfold fX1_find_57 at h
  refine J.iload dX1_find_57 rfl ?_
  refine J.iconst (v := 1) dX1_find_59 (by decide) ?_
  refine J.aload_n dX1_find_60 rfl rfl ?_
  refine J.getI dX1_find_61 fX1_34 (hT.k 1 rfl) rfl ?_
  refine J.ishl dX1_find_64 ?_
  refine J.icmp_ge (tgt := 106) dX1_find_65 (by decide) (fun hc1 => ?_) (fun hc1 => ?_)
  · have h := h.1 hc1
    exact J.vretQ dX1_find_106 rfl (Nat.le_refl _) (Nat.le_refl _) h
  · have h := h.2 hc1
    refine J.iload dX1_find_68 rfl ?_
    refine J.iload_n dX1_find_70 rfl rfl ?_
    refine J.callSP (as := [.int v6, .int a3]) (rest := []) dX1_find_71 kX11_has vX11_has lX1_37 rfl rfl rfl (by omega) (Nat.le_refl _) (Nat.le_refl _) (qX11_has (d + 1) hT v6 a3 ) ?_
    refine J.bz_eq (tgt := 100) dX1_find_74 (by decide) (fun hc2 => ?_) (fun hc2 => ?_)
    · have h := h.1 hc2
      refine J.iinc (v := (v6 + 1)) (ls' := [some (.ref 54), some (.ref 1), none, some (.int a3), some (.int a4), none, some (.int (v6 + 1))]) dX1_find_100 rfl (by rfl) rfl ?_
      refine J.goto (tgt := 57) dX1_find_103 (by decide) ?_
      exact J.weaken (ls' := [some (.ref 54), some (.ref 1), none, some (.int a3), some (.int a4), none, some (.int (v6 + 1))]) (And.intro rfl (And.intro rfl (And.intro rfl (And.intro rfl (And.intro rfl trivial))))) (hK57 (v6 + 1) I h)
    · have h := h.2 hc2
      refine J.iload dX1_find_77 rfl ?_
      refine J.iload dX1_find_79 rfl ?_
      refine J.callSP (as := [.int v6, .int a4]) (rest := []) dX1_find_81 kX11_has vX11_has lX1_37 rfl rfl rfl (by omega) (Nat.le_refl _) (Nat.le_refl _) (qX11_has (d + 1) hT v6 a4 ) ?_
      refine J.bz_ne (tgt := 100) dX1_find_84 (by decide) (fun hc3 => ?_) (fun hc3 => ?_)
      · have h := h.1 hc3
        refine J.iinc (v := (v6 + 1)) (ls' := [some (.ref 54), some (.ref 1), none, some (.int a3), some (.int a4), none, some (.int (v6 + 1))]) dX1_find_100 rfl (by rfl) rfl ?_
        refine J.goto (tgt := 57) dX1_find_103 (by decide) ?_
        exact J.weaken (ls' := [some (.ref 54), some (.ref 1), none, some (.int a3), some (.int a4), none, some (.int (v6 + 1))]) (And.intro rfl (And.intro rfl (And.intro rfl (And.intro rfl (And.intro rfl trivial))))) (hK57 (v6 + 1) I h)
      · have h := h.2 hc3
        refine J.aload_n dX1_find_87 rfl rfl ?_
        refine J.iload dX1_find_88 rfl ?_
        refine J.aload_n dX1_find_90 rfl rfl ?_
        refine J.aload_n dX1_find_91 rfl rfl ?_
        refine J.iload dX1_find_92 rfl ?_
        obtain ⟨hp4, h⟩ := h
        refine J.callVP (k := 54) (as := [.ref 1, .int v6]) (rest := [.int v6, .ref 54]) dX1_find_94 kX1_roomOutOf vX1_roomOutOf lX1_41 (hT.k 54 rfl) rfl rfl rfl rfl rfl (by omega) (Nat.le_refl _) (Nat.le_refl _) (qX1_roomOutOf (d + 0) hT v6 hp4) ?_
        refine J.callVD (k := 54) (as := [.int v6, .int (jX1_roomOutOf I v6)]) (rest := []) dX1_find_97 kX1_weigh vX1_weigh lX1_45 (hT.k 54 rfl) rfl rfl rfl rfl rfl (by omega) (Nat.le_refl _) (Nat.le_refl _) (qX1_weigh (d + 0) hT v6 (jX1_roomOutOf I v6) ) ?_
        refine J.iinc (v := (v6 + 1)) (ls' := [some (.ref 54), some (.ref 1), none, some (.int a3), some (.int a4), none, some (.int (v6 + 1))]) dX1_find_100 rfl (by rfl) rfl ?_
        refine J.goto (tgt := 57) dX1_find_103 (by decide) ?_
        exact J.weaken (ls' := [some (.ref 54), some (.ref 1), none, some (.int a3), some (.int a4), none, some (.int (v6 + 1))]) (And.intro rfl (And.intro rfl (And.intro rfl (And.intro rfl (And.intro rfl trivial))))) (hK57 (v6 + 1) (jX1_weighM I v6 (jX1_roomOutOf I v6)) h)
set_option maxHeartbeats 4000000 in
set_option maxRecDepth 100000 in
theorem wX1_find (d : Nat) {T : Topo} (hT : Lay T) (b2 : Nat) (a3 : Int32) (a4 : Int32) (a5 : Int32) (hb2 : isBk b2)  {Q : Topo → IM → Prop} (V3 : Int32 → IM → Prop) (μ3 : Int32 → IM → Nat) (V57 : Int32 → IM → Prop) (μ57 : Int32 → IM → Nat) (vc3 : ∀ (v6 : Int32) (I : IM), V3 v6 I → fX1_find_3 T b2 a3 a4 a5 Q (fun w6 I_ => V3 w6 I_ ∧ μ3 w6 I_ < μ3 v6 I) (fun w6 I_ => V57 w6 I_ ∧ μ57 w6 I_ < μ3 v6 I) v6 I) (vc57 : ∀ (v6 : Int32) (I : IM), V57 v6 I → fX1_find_57 T b2 a3 a4 a5 Q (fun w6 I_ => V3 w6 I_ ∧ μ3 w6 I_ < μ57 v6 I) (fun w6 I_ => V57 w6 I_ ∧ μ57 w6 I_ < μ57 v6 I) v6 I) {I : IM} (h : fX1_find_0 T b2 a3 a4 a5 Q V3 V57 I) : Ct (d + 2) mX1_find [.ref 54, .ref 1, .ref b2, .int a3, .int a4, .int a5] T I 0 0 (PV Q) := by
  have all : ∀ n : Nat, (∀ (v6 : Int32) (I : IM), V3 v6 I → μ3 v6 I < n → J (d + 2) mX1_find (PV Q) 0 0 3 [some (.ref 54), some (.ref 1), some (.ref b2), some (.int a3), some (.int a4), some (.int a5), some (.int v6)] [] T I 0 0) ∧ (∀ (v6 : Int32) (I : IM), V57 v6 I → μ57 v6 I < n → J (d + 2) mX1_find (PV Q) 0 0 57 [some (.ref 54), some (.ref 1), none, some (.int a3), some (.int a4), none, some (.int v6)] [] T I 0 0) := by
    intro n
    induction n with
    | zero => exact ⟨fun _ _ _ hn => absurd hn (Nat.not_lt_zero _), fun _ _ _ hn => absurd hn (Nat.not_lt_zero _)⟩
    | succ n ih =>
      exact ⟨fun v6 I hv hn => sX1_find_3 d hT b2 a3 a4 a5 hb2  (fun w6 I_ hw => ih.1 w6 I_ hw.1 (by have := hw.2; omega)) (fun w6 I_ hw => ih.2 w6 I_ hw.1 (by have := hw.2; omega)) v6 I (vc3 v6 I hv), fun v6 I hv hn => sX1_find_57 d hT b2 a3 a4 a5 hb2  (fun w6 I_ hw => ih.1 w6 I_ hw.1 (by have := hw.2; omega)) (fun w6 I_ hw => ih.2 w6 I_ hw.1 (by have := hw.2; omega)) v6 I (vc57 v6 I hv)⟩
  exact Ct.ofJ (by decide +kernel) rfl (by intro v hv; revert v hv; simp [Value.category]) rfl (sX1_find_0 d hT b2 a3 a4 a5 hb2  (fun w6 I_ hw => (all (μ3 w6 I_ + 1)).1 w6 I_ hw (Nat.lt_succ_self _)) (fun w6 I_ hw => (all (μ57 w6 I_ + 1)).2 w6 I_ hw (Nat.lt_succ_self _)) I h)

def jX1_findB3 (b2 : Nat) (a3 : Int32) (a4 : Int32) (a5 : Int32) (F : (Nat → Int32 → IM → IM)) (v6 : Int32) (I : IM) : IM := (if (I 1 4) ≤ v6 then (F 1 0 (up2 I 54 2 0)) else (if (((1 : Int32) <<< (v6 &&& 31)) &&& I 1 5) = 0 then (F 0 (v6 + 1) (up2 I 55 v6.toNatClampNeg (jX0_freeAt I b2 v6 a5))) else (F 0 (v6 + 1) (up2 I 55 v6.toNatClampNeg 0))))
def jX1_findC3 (b2 : Nat) (a3 : Int32) (a4 : Int32) (a5 : Int32) (F : (Nat → Int32 → IM → Prop)) (v6 : Int32) (I : IM) : Prop := ((((I 1 4) ≤ v6) → (F 1 0 (up2 I 54 2 0))) ∧ ((¬ (I 1 4) ≤ v6) → (((¬ ((((1 : Int32) <<< (v6 &&& 31)) &&& I 1 5) = 0)) → (vp_in v6 9 ∧ (F 0 (v6 + 1) (up2 I 55 v6.toNatClampNeg 0)))) ∧ (((((1 : Int32) <<< (v6 &&& 31)) &&& I 1 5) = 0) → (((jX0_freeAtK v6 a5)) ∧ (vp_in v6 9 ∧ (F 0 (v6 + 1) (up2 I 55 v6.toNatClampNeg (jX0_freeAt I b2 v6 a5)))))))))
def jX1_findB57 (b2 : Nat) (a3 : Int32) (a4 : Int32) (a5 : Int32) (F : (Nat → Int32 → IM → IM)) (v6 : Int32) (I : IM) : IM := (if ((1 : Int32) <<< ((I 1 3) &&& 31)) ≤ v6 then I else (if hs v6 a3 then (if hs v6 a4 then (F 1 (v6 + 1) I) else (F 1 (v6 + 1) (jX1_weighM I v6 (jX1_roomOutOf I v6)))) else (F 1 (v6 + 1) I)))
def jX1_findC57 (b2 : Nat) (a3 : Int32) (a4 : Int32) (a5 : Int32) (F : (Nat → Int32 → IM → Prop)) (v6 : Int32) (I : IM) : Prop := (((((1 : Int32) <<< ((I 1 3) &&& 31)) ≤ v6) → True) ∧ ((¬ ((1 : Int32) <<< ((I 1 3) &&& 31)) ≤ v6) → (((¬ (hs v6 a3)) → (F 1 (v6 + 1) I)) ∧ ((hs v6 a3) → (((hs v6 a4) → (F 1 (v6 + 1) I)) ∧ ((¬ (hs v6 a4)) → (((jX1_roomOutOfK I v6)) ∧ (F 1 (v6 + 1) (jX1_weighM I v6 (jX1_roomOutOf I v6))))))))))
def jX1_findI (b2 : Nat) (a3 : Int32) (a4 : Int32) (a5 : Int32) : Nat → Nat → Int32 → IM → IM
  | 0 => fun _ _ I => I
  | n + 1 => fun tg v6 I => (if tg = 0 then jX1_findB3 b2 a3 a4 a5 (jX1_findI b2 a3 a4 a5 n) v6 I else (if tg = 1 then jX1_findB57 b2 a3 a4 a5 (jX1_findI b2 a3 a4 a5 n) v6 I else I))
def jX1_findO (b2 : Nat) (a3 : Int32) (a4 : Int32) (a5 : Int32) : Nat → Nat → Int32 → IM → Prop
  | 0 => fun _ _ _ => False
  | n + 1 => fun tg v6 I => (if tg = 0 then jX1_findC3 b2 a3 a4 a5 (jX1_findO b2 a3 a4 a5 n) v6 I else (if tg = 1 then jX1_findC57 b2 a3 a4 a5 (jX1_findO b2 a3 a4 a5 n) v6 I else True))
theorem jX1_findI_3 (b2 : Nat) (a3 : Int32) (a4 : Int32) (a5 : Int32) (n : Nat) (v6 : Int32) (I : IM) : jX1_findI b2 a3 a4 a5 (n + 1) 0 v6 I = (if (I 1 4) ≤ v6 then (jX1_findI b2 a3 a4 a5 n 1 0 (up2 I 54 2 0)) else (if (((1 : Int32) <<< (v6 &&& 31)) &&& I 1 5) = 0 then (jX1_findI b2 a3 a4 a5 n 0 (v6 + 1) (up2 I 55 v6.toNatClampNeg (jX0_freeAt I b2 v6 a5))) else (jX1_findI b2 a3 a4 a5 n 0 (v6 + 1) (up2 I 55 v6.toNatClampNeg 0)))) := by
  show (if (0 : Nat) = 0 then jX1_findB3 b2 a3 a4 a5 (jX1_findI b2 a3 a4 a5 n) v6 I else (if (0 : Nat) = 1 then jX1_findB57 b2 a3 a4 a5 (jX1_findI b2 a3 a4 a5 n) v6 I else I)) = _
  rw [if_pos rfl]; rfl
theorem jX1_findO_3 (b2 : Nat) (a3 : Int32) (a4 : Int32) (a5 : Int32) (n : Nat) (v6 : Int32) (I : IM) : jX1_findO b2 a3 a4 a5 (n + 1) 0 v6 I = ((((I 1 4) ≤ v6) → (jX1_findO b2 a3 a4 a5 n 1 0 (up2 I 54 2 0))) ∧ ((¬ (I 1 4) ≤ v6) → (((¬ ((((1 : Int32) <<< (v6 &&& 31)) &&& I 1 5) = 0)) → (vp_in v6 9 ∧ (jX1_findO b2 a3 a4 a5 n 0 (v6 + 1) (up2 I 55 v6.toNatClampNeg 0)))) ∧ (((((1 : Int32) <<< (v6 &&& 31)) &&& I 1 5) = 0) → (((jX0_freeAtK v6 a5)) ∧ (vp_in v6 9 ∧ (jX1_findO b2 a3 a4 a5 n 0 (v6 + 1) (up2 I 55 v6.toNatClampNeg (jX0_freeAt I b2 v6 a5))))))))) := by
  show (if (0 : Nat) = 0 then jX1_findC3 b2 a3 a4 a5 (jX1_findO b2 a3 a4 a5 n) v6 I else (if (0 : Nat) = 1 then jX1_findC57 b2 a3 a4 a5 (jX1_findO b2 a3 a4 a5 n) v6 I else True)) = _
  rw [if_pos rfl]; rfl
theorem jX1_findI_57 (b2 : Nat) (a3 : Int32) (a4 : Int32) (a5 : Int32) (n : Nat) (v6 : Int32) (I : IM) : jX1_findI b2 a3 a4 a5 (n + 1) 1 v6 I = (if ((1 : Int32) <<< ((I 1 3) &&& 31)) ≤ v6 then I else (if hs v6 a3 then (if hs v6 a4 then (jX1_findI b2 a3 a4 a5 n 1 (v6 + 1) I) else (jX1_findI b2 a3 a4 a5 n 1 (v6 + 1) (jX1_weighM I v6 (jX1_roomOutOf I v6)))) else (jX1_findI b2 a3 a4 a5 n 1 (v6 + 1) I))) := by
  show (if (1 : Nat) = 0 then jX1_findB3 b2 a3 a4 a5 (jX1_findI b2 a3 a4 a5 n) v6 I else (if (1 : Nat) = 1 then jX1_findB57 b2 a3 a4 a5 (jX1_findI b2 a3 a4 a5 n) v6 I else I)) = _
  rw [if_neg (by decide), if_pos rfl]; rfl
theorem jX1_findO_57 (b2 : Nat) (a3 : Int32) (a4 : Int32) (a5 : Int32) (n : Nat) (v6 : Int32) (I : IM) : jX1_findO b2 a3 a4 a5 (n + 1) 1 v6 I = (((((1 : Int32) <<< ((I 1 3) &&& 31)) ≤ v6) → True) ∧ ((¬ ((1 : Int32) <<< ((I 1 3) &&& 31)) ≤ v6) → (((¬ (hs v6 a3)) → (jX1_findO b2 a3 a4 a5 n 1 (v6 + 1) I)) ∧ ((hs v6 a3) → (((hs v6 a4) → (jX1_findO b2 a3 a4 a5 n 1 (v6 + 1) I)) ∧ ((¬ (hs v6 a4)) → (((jX1_roomOutOfK I v6)) ∧ (jX1_findO b2 a3 a4 a5 n 1 (v6 + 1) (jX1_weighM I v6 (jX1_roomOutOf I v6)))))))))) := by
  show (if (1 : Nat) = 0 then jX1_findC3 b2 a3 a4 a5 (jX1_findO b2 a3 a4 a5 n) v6 I else (if (1 : Nat) = 1 then jX1_findC57 b2 a3 a4 a5 (jX1_findO b2 a3 a4 a5 n) v6 I else True)) = _
  rw [if_neg (by decide), if_pos rfl]; rfl
def jX1_find (I : IM) (b2 : Nat) (a3 : Int32) (a4 : Int32) (a5 : Int32) : IM := (jX1_findI b2 a3 a4 a5 FU 0 0 I)
def jX1_findK (I : IM) (b2 : Nat) (a3 : Int32) (a4 : Int32) (a5 : Int32) : Prop := (jX1_findO b2 a3 a4 a5 FU 0 0 I)
set_option maxRecDepth 10000 in
set_option maxHeartbeats 1000000 in
theorem uX1_find (d : Nat) {T : Topo} (hT : Lay T) (b2 : Nat) (a3 : Int32) (a4 : Int32) (a5 : Int32) (hb2 : isBk b2)  {R : IM} : ∀ n : Nat, (∀ (v6 : Int32) (I : IM), jX1_findO b2 a3 a4 a5 n 0 v6 I → jX1_findI b2 a3 a4 a5 n 0 v6 I = R → J (d + 2) mX1_find (PV (fun T' I' => T' = T ∧ I' = R)) 0 0 3 [some (.ref 54), some (.ref 1), some (.ref b2), some (.int a3), some (.int a4), some (.int a5), some (.int v6)] [] T I 0 0) ∧ (∀ (v6 : Int32) (I : IM), jX1_findO b2 a3 a4 a5 n 1 v6 I → jX1_findI b2 a3 a4 a5 n 1 v6 I = R → J (d + 2) mX1_find (PV (fun T' I' => T' = T ∧ I' = R)) 0 0 57 [some (.ref 54), some (.ref 1), none, some (.int a3), some (.int a4), none, some (.int v6)] [] T I 0 0) := by
  intro n
  induction n with
  | zero => exact ⟨fun _ _ hz => hz.elim, fun _ _ hz => hz.elim⟩
  | succ n ih =>
    refine ⟨?_, ?_⟩
    · exact fun v6 I hok hit => by
        rw [jX1_findO_3] at hok
        exact sX1_find_3 d hT b2 a3 a4 a5 hb2  (K3 := fun w6 I_ => (jX1_findO b2 a3 a4 a5 n 0 w6 I_ ∧ jX1_findI b2 a3 a4 a5 n 0 w6 I_ = R)) (K57 := fun w6 I_ => (jX1_findO b2 a3 a4 a5 n 1 w6 I_ ∧ jX1_findI b2 a3 a4 a5 n 1 w6 I_ = R)) (fun w6 I_ hw => ih.1 w6 I_ hw.1 hw.2) (fun w6 I_ hw => ih.2 w6 I_ hw.1 hw.2) v6 I (by
          unfold fX1_find_3
          exact ⟨fun hc1 => ⟨(hok).1 hc1, by rw [jX1_findI_3, if_pos hc1] at hit; exact hit⟩, fun hc1 => ⟨fun hc2 => ⟨(((hok).2 hc1).1 hc2).1, ⟨(((hok).2 hc1).1 hc2).2, by rw [jX1_findI_3, if_neg hc1, if_neg hc2] at hit; exact hit⟩⟩, fun hc2 => ⟨(((hok).2 hc1).2 hc2).1, ⟨((((hok).2 hc1).2 hc2).2).1, ⟨((((hok).2 hc1).2 hc2).2).2, by rw [jX1_findI_3, if_neg hc1, if_pos hc2] at hit; exact hit⟩⟩⟩⟩⟩)
    · exact fun v6 I hok hit => by
        rw [jX1_findO_57] at hok
        exact sX1_find_57 d hT b2 a3 a4 a5 hb2  (K3 := fun w6 I_ => (jX1_findO b2 a3 a4 a5 n 0 w6 I_ ∧ jX1_findI b2 a3 a4 a5 n 0 w6 I_ = R)) (K57 := fun w6 I_ => (jX1_findO b2 a3 a4 a5 n 1 w6 I_ ∧ jX1_findI b2 a3 a4 a5 n 1 w6 I_ = R)) (fun w6 I_ hw => ih.1 w6 I_ hw.1 hw.2) (fun w6 I_ hw => ih.2 w6 I_ hw.1 hw.2) v6 I (by
          unfold fX1_find_57
          exact ⟨fun hc1 => ⟨rfl, by rw [jX1_findI_57, if_pos hc1] at hit; exact hit⟩, fun hc1 => ⟨fun hc2 => ⟨((hok).2 hc1).1 hc2, by rw [jX1_findI_57, if_neg hc1, if_neg hc2] at hit; exact hit⟩, fun hc2 => ⟨fun hc3 => ⟨(((hok).2 hc1).2 hc2).1 hc3, by rw [jX1_findI_57, if_neg hc1, if_pos hc2, if_pos hc3] at hit; exact hit⟩, fun hc3 => ⟨((((hok).2 hc1).2 hc2).2 hc3).1, ⟨((((hok).2 hc1).2 hc2).2 hc3).2, by rw [jX1_findI_57, if_neg hc1, if_pos hc2, if_neg hc3] at hit; exact hit⟩⟩⟩⟩⟩)
set_option maxRecDepth 10000 in
set_option maxHeartbeats 1000000 in
theorem qX1_find (d : Nat) {T : Topo} {I : IM} (hT : Lay T) (b2 : Nat) (hb2 : isBk b2) (a3 : Int32) (a4 : Int32) (a5 : Int32)  (hp : (jX1_findK I b2 a3 a4 a5)) : CtV (d + 2) mX1_find [.ref 54, .ref 1, .ref b2, .int a3, .int a4, .int a5] T I (fun J_ => J_ = (jX1_find I b2 a3 a4 a5)) := by
  unfold jX1_findK at hp
  exact Ct.ofJ (by decide +kernel) rfl (by intro v hv; revert v hv; simp [Value.category]) rfl (sX1_find_0 d hT b2 a3 a4 a5 hb2  (K3 := fun w6 I_ => (jX1_findO b2 a3 a4 a5 FU 0 w6 I_ ∧ jX1_findI b2 a3 a4 a5 FU 0 w6 I_ = (jX1_find I b2 a3 a4 a5))) (K57 := fun w6 I_ => (jX1_findO b2 a3 a4 a5 FU 1 w6 I_ ∧ jX1_findI b2 a3 a4 a5 FU 1 w6 I_ = (jX1_find I b2 a3 a4 a5))) (fun w6 I_ hw => (uX1_find d hT b2 a3 a4 a5 hb2  FU).1 w6 I_ hw.1 hw.2) (fun w6 I_ hw => (uX1_find d hT b2 a3 a4 a5 hb2  FU).2 w6 I_ hw.1 hw.2) I (by
    unfold fX1_find_0
    exact ⟨hp, rfl⟩))

def fX2_passNeeds_0 (T : Topo)  (Q : Topo → IM → Prop) (K2 : Int32 → IM → Prop) (I : IM) : Prop :=
  K2 0 I
def fX2_passNeeds_2 (T : Topo)  (Q : Topo → IM → Prop) (K2 : Int32 → IM → Prop) (v1 : Int32) (I : IM) : Prop :=
  ((((I 15 1) ≤ v1) → Q T I) ∧ ((¬ (I 15 1) ≤ v1) → ((vp_in v1 8) ∧ (((((jX2_wayNow I (v1).toNatClampNeg) = 0) → K2 (v1 + 1) I) ∧ ((¬ (jX2_wayNow I (v1).toNatClampNeg) = 0) → (((((jX2_leftOnK I (jX2_wayNow I (v1).toNatClampNeg))) ∧ ((((jX2_passK I (v1).toNatClampNeg (jX2_wayNow I (v1).toNatClampNeg) (jMin (jMin (I (17 + 4 * (v1).toNatClampNeg) 13) (jX8_needed I (v1).toNatClampNeg)) (jX2_leftOn I (jX2_wayNow I (v1).toNatClampNeg))))) ∧ K2 (v1 + 1) (jX2_pass I (v1).toNatClampNeg (jX2_wayNow I (v1).toNatClampNeg) (jMin (jMin (I (17 + 4 * (v1).toNatClampNeg) 13) (jX8_needed I (v1).toNatClampNeg)) (jX2_leftOn I (jX2_wayNow I (v1).toNatClampNeg)))))))))))))))
set_option maxHeartbeats 4000000 in
set_option maxRecDepth 100000 in
theorem sX2_passNeeds_0 (d : Nat) {T : Topo} (hT : Lay T)     {Q : Topo → IM → Prop} {K2 : Int32 → IM → Prop} (hK2 : ∀ (v1 : Int32) (I : IM), K2 v1 I → J (d + 3) mX2_passNeeds (PV Q) 0 0 2 [some (.ref 69), some (.int v1), none, none] [] T I 0 0) (I : IM) (h : fX2_passNeeds_0 T  Q K2 I) : J (d + 3) mX2_passNeeds (PV Q) 0 0 0 [some (.ref 69), none, none, none] [] T I 0 0 := by
  unfold fX2_passNeeds_0 at h
  refine J.iconst (v := 0) dX2_passNeeds_0 (by decide) ?_
  refine J.istore_n (ls' := [some (.ref 69), some (.int 0), none, none]) dX2_passNeeds_1 rfl rfl rfl ?_
  exact J.weaken (ls' := [some (.ref 69), some (.int 0), none, none]) (And.intro rfl (And.intro rfl trivial)) (hK2 0 I h)
set_option maxHeartbeats 4000000 in
set_option maxRecDepth 100000 in
theorem sX2_passNeeds_2 (d : Nat) {T : Topo} (hT : Lay T)     {Q : Topo → IM → Prop} {K2 : Int32 → IM → Prop} (hK2 : ∀ (v1 : Int32) (I : IM), K2 v1 I → J (d + 3) mX2_passNeeds (PV Q) 0 0 2 [some (.ref 69), some (.int v1), none, none] [] T I 0 0) (v1 : Int32) (I : IM) (h : fX2_passNeeds_2 T  Q K2 v1 I) : J (d + 3) mX2_passNeeds (PV Q) 0 0 2 [some (.ref 69), some (.int v1), none, none] [] T I 0 0 := by
  unfold fX2_passNeeds_2 at h
  refine J.iload_n dX2_passNeeds_2 rfl rfl ?_
  refine J.aload_n dX2_passNeeds_3 rfl rfl ?_
  refine J.getR (r := 15) dX2_passNeeds_4 fX2_19 (hT.k 69 rfl) rfl (hT.r 69 1 rfl rfl) ?_
  refine J.getI dX2_passNeeds_7 fX2_49 (hT.k 15 rfl) rfl ?_
  refine J.icmp_ge (tgt := 63) dX2_passNeeds_10 (by decide) (fun hc1 => ?_) (fun hc1 => ?_)
  · have h := h.1 hc1
    exact J.vretQ dX2_passNeeds_63 rfl (Nat.le_refl _) (Nat.le_refl _) h
  · have h := h.2 hc1
    refine J.aload_n dX2_passNeeds_13 rfl rfl ?_
    refine J.getR (r := 15) dX2_passNeeds_14 fX2_19 (hT.k 69 rfl) rfl (hT.r 69 1 rfl rfl) ?_
    refine J.iload_n dX2_passNeeds_17 rfl rfl ?_
    obtain ⟨hp2, h⟩ := h
    refine J.callVF (r := (17 + 4 * (v1).toNatClampNeg)) (k := 15) (as := [.int v1]) (rest := []) dX2_passNeeds_18 kX9_at vX9_at lX2_54 (hT.k 15 rfl) rfl rfl rfl rfl rfl (by omega) (Nat.le_refl _) (Nat.le_refl _) (qX9_at (d + 2) hT v1 hp2) ?_
    refine J.astore_n (ls' := [some (.ref 69), some (.int v1), some (.ref (17 + 4 * (v1).toNatClampNeg)), none]) dX2_passNeeds_21 rfl rfl rfl ?_
    refine J.aload_n dX2_passNeeds_22 rfl rfl ?_
    refine J.aload_n dX2_passNeeds_23 rfl rfl ?_
    refine J.callVP (k := 69) (as := [.ref (17 + 4 * (v1).toNatClampNeg)]) (rest := []) dX2_passNeeds_24 kX2_wayNow vX2_wayNow lX2_61 (hT.k 69 rfl) rfl rfl rfl rfl rfl (by omega) (Nat.le_refl _) (Nat.le_refl _) (qX2_wayNow (d + 0) hT (v1).toNatClampNeg (vp_lt hp2) ) ?_
    refine J.istore_n (ls' := [some (.ref 69), some (.int v1), some (.ref (17 + 4 * (v1).toNatClampNeg)), some (.int (jX2_wayNow I (v1).toNatClampNeg))]) dX2_passNeeds_27 rfl rfl rfl ?_
    refine J.iload_n dX2_passNeeds_28 rfl rfl ?_
    refine J.if_eq (tgt := 57) dX2_passNeeds_29 (by decide) (fun hc3 => ?_) (fun hc3 => ?_)
    · have h := h.1 hc3
      refine J.iinc (v := (v1 + 1)) (ls' := [some (.ref 69), some (.int (v1 + 1)), some (.ref (17 + 4 * (v1).toNatClampNeg)), some (.int (jX2_wayNow I (v1).toNatClampNeg))]) dX2_passNeeds_57 rfl (by rfl) rfl ?_
      refine J.goto (tgt := 2) dX2_passNeeds_60 (by decide) ?_
      exact J.weaken (ls' := [some (.ref 69), some (.int (v1 + 1)), none, none]) (And.intro rfl (And.intro rfl trivial)) (hK2 (v1 + 1) I h)
    · have h := h.2 hc3
      refine J.aload_n dX2_passNeeds_32 rfl rfl ?_
      refine J.aload_n dX2_passNeeds_33 rfl rfl ?_
      refine J.iload_n dX2_passNeeds_34 rfl rfl ?_
      refine J.aload_n dX2_passNeeds_35 rfl rfl ?_
      refine J.getI dX2_passNeeds_36 fX2_65 (hT.sliceK (vp_lt hp2)) rfl ?_
      refine J.aload_n dX2_passNeeds_39 rfl rfl ?_
      refine J.callVP (k := (17 + 4 * (v1).toNatClampNeg)) (as := []) (rest := [.int (I (17 + 4 * (v1).toNatClampNeg) 13), .int (jX2_wayNow I (v1).toNatClampNeg), .ref (17 + 4 * (v1).toNatClampNeg), .ref 69]) dX2_passNeeds_40 kX8_needed vX8_needed lX2_68 (hT.sliceK (vp_lt hp2)) rfl rfl rfl rfl rfl (by omega) (Nat.le_refl _) (Nat.le_refl _) (qX8_needed (d + 2) hT (v1).toNatClampNeg (vp_lt hp2) ) ?_
      refine J.callSP (as := [.int (I (17 + 4 * (v1).toNatClampNeg) 13), .int (jX8_needed I (v1).toNatClampNeg)]) (rest := [.int (jX2_wayNow I (v1).toNatClampNeg), .ref (17 + 4 * (v1).toNatClampNeg), .ref 69]) dX2_passNeeds_43 kJ9_min_7cf53 vJ9_min_7cf53 lX2_72 rfl rfl rfl (by omega) (Nat.le_refl _) (Nat.le_refl _) (qJ9_min_7cf53 (d + 2) hT (I (17 + 4 * (v1).toNatClampNeg) 13) (jX8_needed I (v1).toNatClampNeg) ) ?_
      refine J.aload_n dX2_passNeeds_46 rfl rfl ?_
      refine J.iload_n dX2_passNeeds_47 rfl rfl ?_
      obtain ⟨hp4, h⟩ := h
      refine J.callVP (k := 69) (as := [.int (jX2_wayNow I (v1).toNatClampNeg)]) (rest := [.int (jMin (I (17 + 4 * (v1).toNatClampNeg) 13) (jX8_needed I (v1).toNatClampNeg)), .int (jX2_wayNow I (v1).toNatClampNeg), .ref (17 + 4 * (v1).toNatClampNeg), .ref 69]) dX2_passNeeds_48 kX2_leftOn vX2_leftOn lX2_78 (hT.k 69 rfl) rfl rfl rfl rfl rfl (by omega) (Nat.le_refl _) (Nat.le_refl _) (qX2_leftOn (d + 1) hT (jX2_wayNow I (v1).toNatClampNeg) hp4) ?_
      refine J.callSP (as := [.int (jMin (I (17 + 4 * (v1).toNatClampNeg) 13) (jX8_needed I (v1).toNatClampNeg)), .int (jX2_leftOn I (jX2_wayNow I (v1).toNatClampNeg))]) (rest := [.int (jX2_wayNow I (v1).toNatClampNeg), .ref (17 + 4 * (v1).toNatClampNeg), .ref 69]) dX2_passNeeds_51 kJ9_min_7cf53 vJ9_min_7cf53 lX2_72 rfl rfl rfl (by omega) (Nat.le_refl _) (Nat.le_refl _) (qJ9_min_7cf53 (d + 2) hT (jMin (I (17 + 4 * (v1).toNatClampNeg) 13) (jX8_needed I (v1).toNatClampNeg)) (jX2_leftOn I (jX2_wayNow I (v1).toNatClampNeg)) ) ?_
      obtain ⟨hp5, h⟩ := h
      refine J.callVD (k := 69) (as := [.ref (17 + 4 * (v1).toNatClampNeg), .int (jX2_wayNow I (v1).toNatClampNeg), .int (jMin (jMin (I (17 + 4 * (v1).toNatClampNeg) 13) (jX8_needed I (v1).toNatClampNeg)) (jX2_leftOn I (jX2_wayNow I (v1).toNatClampNeg)))]) (rest := []) dX2_passNeeds_54 kX2_pass vX2_pass lX2_82 (hT.k 69 rfl) rfl rfl rfl rfl rfl (by omega) (Nat.le_refl _) (Nat.le_refl _) (qX2_pass (d + 1) hT (v1).toNatClampNeg (vp_lt hp2) (jX2_wayNow I (v1).toNatClampNeg) (jMin (jMin (I (17 + 4 * (v1).toNatClampNeg) 13) (jX8_needed I (v1).toNatClampNeg)) (jX2_leftOn I (jX2_wayNow I (v1).toNatClampNeg))) hp5) ?_
      refine J.iinc (v := (v1 + 1)) (ls' := [some (.ref 69), some (.int (v1 + 1)), some (.ref (17 + 4 * (v1).toNatClampNeg)), some (.int (jX2_wayNow I (v1).toNatClampNeg))]) dX2_passNeeds_57 rfl (by rfl) rfl ?_
      refine J.goto (tgt := 2) dX2_passNeeds_60 (by decide) ?_
      exact J.weaken (ls' := [some (.ref 69), some (.int (v1 + 1)), none, none]) (And.intro rfl (And.intro rfl trivial)) (hK2 (v1 + 1) (jX2_pass I (v1).toNatClampNeg (jX2_wayNow I (v1).toNatClampNeg) (jMin (jMin (I (17 + 4 * (v1).toNatClampNeg) 13) (jX8_needed I (v1).toNatClampNeg)) (jX2_leftOn I (jX2_wayNow I (v1).toNatClampNeg)))) h)
set_option maxHeartbeats 4000000 in
set_option maxRecDepth 100000 in
theorem wX2_passNeeds (d : Nat) {T : Topo} (hT : Lay T)    {Q : Topo → IM → Prop} (V2 : Int32 → IM → Prop) (μ2 : Int32 → IM → Nat) (vc2 : ∀ (v1 : Int32) (I : IM), V2 v1 I → fX2_passNeeds_2 T  Q (fun w1 I_ => V2 w1 I_ ∧ μ2 w1 I_ < μ2 v1 I) v1 I) {I : IM} (h : fX2_passNeeds_0 T  Q V2 I) : Ct (d + 3) mX2_passNeeds [.ref 69] T I 0 0 (PV Q) := by
  have all : ∀ n : Nat, (∀ (v1 : Int32) (I : IM), V2 v1 I → μ2 v1 I < n → J (d + 3) mX2_passNeeds (PV Q) 0 0 2 [some (.ref 69), some (.int v1), none, none] [] T I 0 0) := by
    intro n
    induction n with
    | zero => exact fun _ _ _ hn => absurd hn (Nat.not_lt_zero _)
    | succ n ih =>
      exact fun v1 I hv hn => sX2_passNeeds_2 d hT    (fun w1 I_ hw => ih w1 I_ hw.1 (by have := hw.2; omega)) v1 I (vc2 v1 I hv)
  exact Ct.ofJ (by decide +kernel) rfl (by intro v hv; revert v hv; simp [Value.category]) rfl (sX2_passNeeds_0 d hT    (fun w1 I_ hw => (all (μ2 w1 I_ + 1)) w1 I_ hw (Nat.lt_succ_self _)) I h)

def jX2_passNeedsI  : Nat → Int32 → IM → IM
  | 0 => fun _ I => I
  | n + 1 => fun v1 I => (if (I 15 1) ≤ v1 then I else (if (jX2_wayNow I (v1).toNatClampNeg) = 0 then (jX2_passNeedsI  n (v1 + 1) I) else (jX2_passNeedsI  n (v1 + 1) (jX2_pass I (v1).toNatClampNeg (jX2_wayNow I (v1).toNatClampNeg) (jMin (jMin (I (17 + 4 * (v1).toNatClampNeg) 13) (jX8_needed I (v1).toNatClampNeg)) (jX2_leftOn I (jX2_wayNow I (v1).toNatClampNeg)))))))
def jX2_passNeedsO  : Nat → Int32 → IM → Prop
  | 0 => fun _ _ => False
  | n + 1 => fun v1 I => ((((I 15 1) ≤ v1) → True) ∧ ((¬ (I 15 1) ≤ v1) → ((vp_in v1 8) ∧ ((((jX2_wayNow I (v1).toNatClampNeg) = 0) → (jX2_passNeedsO  n (v1 + 1) I)) ∧ ((¬ (jX2_wayNow I (v1).toNatClampNeg) = 0) → (((jX2_leftOnK I (jX2_wayNow I (v1).toNatClampNeg))) ∧ (((jX2_passK I (v1).toNatClampNeg (jX2_wayNow I (v1).toNatClampNeg) (jMin (jMin (I (17 + 4 * (v1).toNatClampNeg) 13) (jX8_needed I (v1).toNatClampNeg)) (jX2_leftOn I (jX2_wayNow I (v1).toNatClampNeg))))) ∧ (jX2_passNeedsO  n (v1 + 1) (jX2_pass I (v1).toNatClampNeg (jX2_wayNow I (v1).toNatClampNeg) (jMin (jMin (I (17 + 4 * (v1).toNatClampNeg) 13) (jX8_needed I (v1).toNatClampNeg)) (jX2_leftOn I (jX2_wayNow I (v1).toNatClampNeg))))))))))))
theorem jX2_passNeedsI_2  (n : Nat) (v1 : Int32) (I : IM) : jX2_passNeedsI  (n + 1) v1 I = (if (I 15 1) ≤ v1 then I else (if (jX2_wayNow I (v1).toNatClampNeg) = 0 then (jX2_passNeedsI  n (v1 + 1) I) else (jX2_passNeedsI  n (v1 + 1) (jX2_pass I (v1).toNatClampNeg (jX2_wayNow I (v1).toNatClampNeg) (jMin (jMin (I (17 + 4 * (v1).toNatClampNeg) 13) (jX8_needed I (v1).toNatClampNeg)) (jX2_leftOn I (jX2_wayNow I (v1).toNatClampNeg))))))) := rfl
theorem jX2_passNeedsO_2  (n : Nat) (v1 : Int32) (I : IM) : jX2_passNeedsO  (n + 1) v1 I = ((((I 15 1) ≤ v1) → True) ∧ ((¬ (I 15 1) ≤ v1) → ((vp_in v1 8) ∧ ((((jX2_wayNow I (v1).toNatClampNeg) = 0) → (jX2_passNeedsO  n (v1 + 1) I)) ∧ ((¬ (jX2_wayNow I (v1).toNatClampNeg) = 0) → (((jX2_leftOnK I (jX2_wayNow I (v1).toNatClampNeg))) ∧ (((jX2_passK I (v1).toNatClampNeg (jX2_wayNow I (v1).toNatClampNeg) (jMin (jMin (I (17 + 4 * (v1).toNatClampNeg) 13) (jX8_needed I (v1).toNatClampNeg)) (jX2_leftOn I (jX2_wayNow I (v1).toNatClampNeg))))) ∧ (jX2_passNeedsO  n (v1 + 1) (jX2_pass I (v1).toNatClampNeg (jX2_wayNow I (v1).toNatClampNeg) (jMin (jMin (I (17 + 4 * (v1).toNatClampNeg) 13) (jX8_needed I (v1).toNatClampNeg)) (jX2_leftOn I (jX2_wayNow I (v1).toNatClampNeg)))))))))))) := rfl
def jX2_passNeeds (I : IM)  : IM := (jX2_passNeedsI  FU 0 I)
def jX2_passNeedsK (I : IM)  : Prop := (jX2_passNeedsO  FU 0 I)
set_option maxRecDepth 10000 in
set_option maxHeartbeats 1000000 in
theorem uX2_passNeeds (d : Nat) {T : Topo} (hT : Lay T)    {R : IM} : ∀ n : Nat, (∀ (v1 : Int32) (I : IM), jX2_passNeedsO  n v1 I → jX2_passNeedsI  n v1 I = R → J (d + 3) mX2_passNeeds (PV (fun T' I' => T' = T ∧ I' = R)) 0 0 2 [some (.ref 69), some (.int v1), none, none] [] T I 0 0) := by
  intro n
  induction n with
  | zero => exact fun _ _ hz => hz.elim
  | succ n ih =>
    exact fun v1 I hok hit => by
        rw [jX2_passNeedsO_2] at hok
        exact sX2_passNeeds_2 d hT    (K2 := fun w1 I_ => (jX2_passNeedsO  n w1 I_ ∧ jX2_passNeedsI  n w1 I_ = R)) (fun w1 I_ hw => ih w1 I_ hw.1 hw.2) v1 I (by
          unfold fX2_passNeeds_2
          exact ⟨fun hc1 => ⟨rfl, by rw [jX2_passNeedsI_2, if_pos hc1] at hit; exact hit⟩, fun hc1 => ⟨((hok).2 hc1).1, ⟨fun hc2 => ⟨(((hok).2 hc1).2).1 hc2, by rw [jX2_passNeedsI_2, if_neg hc1, if_pos hc2] at hit; exact hit⟩, fun hc2 => ⟨((((hok).2 hc1).2).2 hc2).1, ⟨(((((hok).2 hc1).2).2 hc2).2).1, ⟨(((((hok).2 hc1).2).2 hc2).2).2, by rw [jX2_passNeedsI_2, if_neg hc1, if_neg hc2] at hit; exact hit⟩⟩⟩⟩⟩⟩)
set_option maxRecDepth 10000 in
set_option maxHeartbeats 1000000 in
theorem qX2_passNeeds (d : Nat) {T : Topo} {I : IM} (hT : Lay T)   (hp : (jX2_passNeedsK I)) : CtV (d + 3) mX2_passNeeds [.ref 69] T I (fun J_ => J_ = (jX2_passNeeds I)) := by
  unfold jX2_passNeedsK at hp
  exact Ct.ofJ (by decide +kernel) rfl (by intro v hv; revert v hv; simp [Value.category]) rfl (sX2_passNeeds_0 d hT    (K2 := fun w1 I_ => (jX2_passNeedsO  FU w1 I_ ∧ jX2_passNeedsI  FU w1 I_ = (jX2_passNeeds I ))) (fun w1 I_ hw => uX2_passNeeds d hT    FU w1 I_ hw.1 hw.2) I (by
    unfold fX2_passNeeds_0
    exact ⟨hp, rfl⟩))

def fX2_lend_0 (T : Topo)  (Q : Topo → IM → Prop) (K9 : Int32 → Int32 → Int32 → IM → Prop) (K48 : Int32 → Int32 → Int32 → IM → Prop) (I : IM) : Prop :=
  K9 0 (I 69 2) 0 I
def fX2_lend_9 (T : Topo)  (Q : Topo → IM → Prop) (K9 : Int32 → Int32 → Int32 → IM → Prop) (K48 : Int32 → Int32 → Int32 → IM → Prop) (v1 v2 v3 : Int32) (I : IM) : Prop :=
  (((10000 ≤ v3) → Q T I) ∧ ((¬ 10000 ≤ v3) → ((((I 15 1) ≤ v1) → Q T I) ∧ ((¬ (I 15 1) ≤ v1) → ((((I 15 1) ≤ (v2 + 1)) → K48 v1 0 v3 I) ∧ ((¬ (I 15 1) ≤ (v2 + 1)) → K48 v1 (v2 + 1) v3 I))))))
def fX2_lend_48 (T : Topo)  (Q : Topo → IM → Prop) (K9 : Int32 → Int32 → Int32 → IM → Prop) (K48 : Int32 → Int32 → Int32 → IM → Prop) (v1 v2 v3 : Int32) (I : IM) : Prop :=
  ((vp_in v2 8) ∧ (((jX2_canBorrowK I (v2).toNatClampNeg)) ∧ ((((jX2_canBorrow I (v2).toNatClampNeg) = 0) → K9 (v1 + 1) v2 (v3 + 1) I) ∧ ((¬ (jX2_canBorrow I (v2).toNatClampNeg) = 0) → ((((jX2_passK I (v2).toNatClampNeg (jX2_wayNow I (v2).toNatClampNeg) 1)) ∧ K9 0 v2 (v3 + 1) (up2 (up2 (jX2_pass I (v2).toNatClampNeg (jX2_wayNow I (v2).toNatClampNeg) 1) (17 + 4 * (v2).toNatClampNeg) 15 (((jX2_pass I (v2).toNatClampNeg (jX2_wayNow I (v2).toNatClampNeg) 1) (17 + 4 * (v2).toNatClampNeg) 15) + 1)) 69 2 v2)))))))
set_option maxHeartbeats 4000000 in
set_option maxRecDepth 100000 in
theorem sX2_lend_0 (d : Nat) {T : Topo} (hT : Lay T)     {Q : Topo → IM → Prop} {K9 : Int32 → Int32 → Int32 → IM → Prop} {K48 : Int32 → Int32 → Int32 → IM → Prop} (hK9 : ∀ (v1 v2 v3 : Int32) (I : IM), K9 v1 v2 v3 I → J (d + 4) mX2_lend (PV Q) 0 0 9 [some (.ref 69), some (.int v1), some (.int v2), some (.int v3), none] [] T I 0 0) (hK48 : ∀ (v1 v2 v3 : Int32) (I : IM), K48 v1 v2 v3 I → J (d + 4) mX2_lend (PV Q) 0 0 48 [some (.ref 69), some (.int v1), some (.int v2), some (.int v3), none] [] T I 0 0) (I : IM) (h : fX2_lend_0 T  Q K9 K48 I) : J (d + 4) mX2_lend (PV Q) 0 0 0 [some (.ref 69), none, none, none, none] [] T I 0 0 := by
  unfold fX2_lend_0 at h
  refine J.iconst (v := 0) dX2_lend_0 (by decide) ?_
  refine J.istore_n (ls' := [some (.ref 69), some (.int 0), none, none, none]) dX2_lend_1 rfl rfl rfl ?_
  refine J.aload_n dX2_lend_2 rfl rfl ?_
  refine J.getI dX2_lend_3 fX2_9 (hT.k 69 rfl) rfl ?_
  refine J.istore_n (ls' := [some (.ref 69), some (.int 0), some (.int (I 69 2)), none, none]) dX2_lend_6 rfl rfl rfl ?_
  refine J.iconst (v := 0) dX2_lend_7 (by decide) ?_
  refine J.istore_n (ls' := [some (.ref 69), some (.int 0), some (.int (I 69 2)), some (.int 0), none]) dX2_lend_8 rfl rfl rfl ?_
  exact J.weaken (ls' := [some (.ref 69), some (.int 0), some (.int (I 69 2)), some (.int 0), none]) (And.intro rfl (And.intro rfl (And.intro rfl (And.intro rfl trivial)))) (hK9 0 (I 69 2) 0 I h)
set_option maxHeartbeats 4000000 in
set_option maxRecDepth 100000 in
theorem sX2_lend_9 (d : Nat) {T : Topo} (hT : Lay T)     {Q : Topo → IM → Prop} {K9 : Int32 → Int32 → Int32 → IM → Prop} {K48 : Int32 → Int32 → Int32 → IM → Prop} (hK9 : ∀ (v1 v2 v3 : Int32) (I : IM), K9 v1 v2 v3 I → J (d + 4) mX2_lend (PV Q) 0 0 9 [some (.ref 69), some (.int v1), some (.int v2), some (.int v3), none] [] T I 0 0) (hK48 : ∀ (v1 v2 v3 : Int32) (I : IM), K48 v1 v2 v3 I → J (d + 4) mX2_lend (PV Q) 0 0 48 [some (.ref 69), some (.int v1), some (.int v2), some (.int v3), none] [] T I 0 0) (v1 v2 v3 : Int32) (I : IM) (h : fX2_lend_9 T  Q K9 K48 v1 v2 v3 I) : J (d + 4) mX2_lend (PV Q) 0 0 9 [some (.ref 69), some (.int v1), some (.int v2), some (.int v3), none] [] T I 0 0 := by
  unfold fX2_lend_9 at h
  refine J.iload_n dX2_lend_9 rfl rfl ?_
  refine J.sipush (v := 10000) dX2_lend_10 (by decide) ?_
  refine J.icmp_ge (tgt := 110) dX2_lend_13 (by decide) (fun hc1 => ?_) (fun hc1 => ?_)
  · have h := h.1 hc1
    exact J.vretQ dX2_lend_110 rfl (Nat.le_refl _) (Nat.le_refl _) h
  · have h := h.2 hc1
    refine J.iload_n dX2_lend_16 rfl rfl ?_
    refine J.aload_n dX2_lend_17 rfl rfl ?_
    refine J.getR (r := 15) dX2_lend_18 fX2_19 (hT.k 69 rfl) rfl (hT.r 69 1 rfl rfl) ?_
    refine J.getI dX2_lend_21 fX2_49 (hT.k 15 rfl) rfl ?_
    refine J.icmp_ge (tgt := 110) dX2_lend_24 (by decide) (fun hc2 => ?_) (fun hc2 => ?_)
    · have h := h.1 hc2
      exact J.vretQ dX2_lend_110 rfl (Nat.le_refl _) (Nat.le_refl _) h
    · have h := h.2 hc2
      refine J.iload_n dX2_lend_27 rfl rfl ?_
      refine J.iconst (v := 1) dX2_lend_28 (by decide) ?_
      refine J.iadd dX2_lend_29 ?_
      refine J.aload_n dX2_lend_30 rfl rfl ?_
      refine J.getR (r := 15) dX2_lend_31 fX2_19 (hT.k 69 rfl) rfl (hT.r 69 1 rfl rfl) ?_
      refine J.getI dX2_lend_34 fX2_49 (hT.k 15 rfl) rfl ?_
      refine J.icmp_ge (tgt := 46) dX2_lend_37 (by decide) (fun hc3 => ?_) (fun hc3 => ?_)
      · have h := h.1 hc3
        refine J.iconst (v := 0) dX2_lend_46 (by decide) ?_
        refine J.istore_n (ls' := [some (.ref 69), some (.int v1), some (.int 0), some (.int v3), none]) dX2_lend_47 rfl rfl rfl ?_
        exact J.weaken (ls' := [some (.ref 69), some (.int v1), some (.int 0), some (.int v3), none]) (And.intro rfl (And.intro rfl (And.intro rfl (And.intro rfl trivial)))) (hK48 v1 0 v3 I h)
      · have h := h.2 hc3
        refine J.iload_n dX2_lend_40 rfl rfl ?_
        refine J.iconst (v := 1) dX2_lend_41 (by decide) ?_
        refine J.iadd dX2_lend_42 ?_
        refine J.goto (tgt := 47) dX2_lend_43 (by decide) ?_
        refine J.istore_n (ls' := [some (.ref 69), some (.int v1), some (.int (v2 + 1)), some (.int v3), none]) dX2_lend_47 rfl rfl rfl ?_
        exact J.weaken (ls' := [some (.ref 69), some (.int v1), some (.int (v2 + 1)), some (.int v3), none]) (And.intro rfl (And.intro rfl (And.intro rfl (And.intro rfl trivial)))) (hK48 v1 (v2 + 1) v3 I h)
set_option maxHeartbeats 4000000 in
set_option maxRecDepth 100000 in
theorem sX2_lend_48 (d : Nat) {T : Topo} (hT : Lay T)     {Q : Topo → IM → Prop} {K9 : Int32 → Int32 → Int32 → IM → Prop} {K48 : Int32 → Int32 → Int32 → IM → Prop} (hK9 : ∀ (v1 v2 v3 : Int32) (I : IM), K9 v1 v2 v3 I → J (d + 4) mX2_lend (PV Q) 0 0 9 [some (.ref 69), some (.int v1), some (.int v2), some (.int v3), none] [] T I 0 0) (hK48 : ∀ (v1 v2 v3 : Int32) (I : IM), K48 v1 v2 v3 I → J (d + 4) mX2_lend (PV Q) 0 0 48 [some (.ref 69), some (.int v1), some (.int v2), some (.int v3), none] [] T I 0 0) (v1 v2 v3 : Int32) (I : IM) (h : fX2_lend_48 T  Q K9 K48 v1 v2 v3 I) : J (d + 4) mX2_lend (PV Q) 0 0 48 [some (.ref 69), some (.int v1), some (.int v2), some (.int v3), none] [] T I 0 0 := by
  unfold fX2_lend_48 at h
  refine J.aload_n dX2_lend_48 rfl rfl ?_
  refine J.getR (r := 15) dX2_lend_49 fX2_19 (hT.k 69 rfl) rfl (hT.r 69 1 rfl rfl) ?_
  refine J.iload_n dX2_lend_52 rfl rfl ?_
  obtain ⟨hp1, h⟩ := h
  refine J.callVF (r := (17 + 4 * (v2).toNatClampNeg)) (k := 15) (as := [.int v2]) (rest := []) dX2_lend_53 kX9_at vX9_at lX2_54 (hT.k 15 rfl) rfl rfl rfl rfl rfl (by omega) (Nat.le_refl _) (Nat.le_refl _) (qX9_at (d + 3) hT v2 hp1) ?_
  refine J.astore (ls' := [some (.ref 69), some (.int v1), some (.int v2), some (.int v3), some (.ref (17 + 4 * (v2).toNatClampNeg))]) dX2_lend_56 rfl rfl ?_
  refine J.aload_n dX2_lend_58 rfl rfl ?_
  refine J.aload dX2_lend_59 rfl ?_
  obtain ⟨hp2, h⟩ := h
  refine J.callVP (k := 69) (as := [.ref (17 + 4 * (v2).toNatClampNeg)]) (rest := []) dX2_lend_61 kX2_canBorrow vX2_canBorrow lX2_86 (hT.k 69 rfl) rfl rfl rfl rfl rfl (by omega) (Nat.le_refl _) (Nat.le_refl _) (qX2_canBorrow (d + 0) hT (v2).toNatClampNeg (vp_lt hp1) hp2) ?_
  refine J.if_eq (tgt := 101) dX2_lend_64 (by decide) (fun hc3 => ?_) (fun hc3 => ?_)
  · have h := h.1 hc3
    refine J.iinc (v := (v1 + 1)) (ls' := [some (.ref 69), some (.int (v1 + 1)), some (.int v2), some (.int v3), some (.ref (17 + 4 * (v2).toNatClampNeg))]) dX2_lend_101 rfl (by rfl) rfl ?_
    refine J.iinc (v := (v3 + 1)) (ls' := [some (.ref 69), some (.int (v1 + 1)), some (.int v2), some (.int (v3 + 1)), some (.ref (17 + 4 * (v2).toNatClampNeg))]) dX2_lend_104 rfl (by rfl) rfl ?_
    refine J.goto (tgt := 9) dX2_lend_107 (by decide) ?_
    exact J.weaken (ls' := [some (.ref 69), some (.int (v1 + 1)), some (.int v2), some (.int (v3 + 1)), none]) (And.intro rfl (And.intro rfl (And.intro rfl (And.intro rfl trivial)))) (hK9 (v1 + 1) v2 (v3 + 1) I h)
  · have h := h.2 hc3
    refine J.aload_n dX2_lend_67 rfl rfl ?_
    refine J.aload dX2_lend_68 rfl ?_
    refine J.aload_n dX2_lend_70 rfl rfl ?_
    refine J.aload dX2_lend_71 rfl ?_
    refine J.callVP (k := 69) (as := [.ref (17 + 4 * (v2).toNatClampNeg)]) (rest := [.ref (17 + 4 * (v2).toNatClampNeg), .ref 69]) dX2_lend_73 kX2_wayNow vX2_wayNow lX2_61 (hT.k 69 rfl) rfl rfl rfl rfl rfl (by omega) (Nat.le_refl _) (Nat.le_refl _) (qX2_wayNow (d + 1) hT (v2).toNatClampNeg (vp_lt hp1) ) ?_
    refine J.iconst (v := 1) dX2_lend_76 (by decide) ?_
    obtain ⟨hp4, h⟩ := h
    refine J.callVD (k := 69) (as := [.ref (17 + 4 * (v2).toNatClampNeg), .int (jX2_wayNow I (v2).toNatClampNeg), .int 1]) (rest := []) dX2_lend_77 kX2_pass vX2_pass lX2_82 (hT.k 69 rfl) rfl rfl rfl rfl rfl (by omega) (Nat.le_refl _) (Nat.le_refl _) (qX2_pass (d + 2) hT (v2).toNatClampNeg (vp_lt hp1) (jX2_wayNow I (v2).toNatClampNeg) 1 hp4) ?_
    refine J.aload dX2_lend_80 rfl ?_
    refine J.dup dX2_lend_82 rfl ?_
    refine J.getI dX2_lend_83 fX2_90 (hT.sliceK (vp_lt hp1)) rfl ?_
    refine J.iconst (v := 1) dX2_lend_86 (by decide) ?_
    refine J.iadd dX2_lend_87 ?_
    refine J.putI dX2_lend_88 fX2_90 (hT.sliceK (vp_lt hp1)) rfl ?_
    refine J.aload_n dX2_lend_91 rfl rfl ?_
    refine J.atpc (pc' := 92) rfl ?_
    refine J.iload_n dX2_lend_92 rfl rfl ?_
    refine J.putI dX2_lend_93 fX2_9 (hT.k 69 rfl) rfl ?_
    refine J.iconst (v := 0) dX2_lend_96 (by decide) ?_
    refine J.istore_n (ls' := [some (.ref 69), some (.int 0), some (.int v2), some (.int v3), some (.ref (17 + 4 * (v2).toNatClampNeg))]) dX2_lend_97 rfl rfl rfl ?_
    refine J.goto (tgt := 104) dX2_lend_98 (by decide) ?_
    refine J.iinc (v := (v3 + 1)) (ls' := [some (.ref 69), some (.int 0), some (.int v2), some (.int (v3 + 1)), some (.ref (17 + 4 * (v2).toNatClampNeg))]) dX2_lend_104 rfl (by rfl) rfl ?_
    refine J.goto (tgt := 9) dX2_lend_107 (by decide) ?_
    exact J.weaken (ls' := [some (.ref 69), some (.int 0), some (.int v2), some (.int (v3 + 1)), none]) (And.intro rfl (And.intro rfl (And.intro rfl (And.intro rfl trivial)))) (hK9 0 v2 (v3 + 1) (up2 (up2 (jX2_pass I (v2).toNatClampNeg (jX2_wayNow I (v2).toNatClampNeg) 1) (17 + 4 * (v2).toNatClampNeg) 15 (((jX2_pass I (v2).toNatClampNeg (jX2_wayNow I (v2).toNatClampNeg) 1) (17 + 4 * (v2).toNatClampNeg) 15) + 1)) 69 2 v2) h)
set_option maxHeartbeats 4000000 in
set_option maxRecDepth 100000 in
theorem wX2_lend (d : Nat) {T : Topo} (hT : Lay T)    {Q : Topo → IM → Prop} (V9 : Int32 → Int32 → Int32 → IM → Prop) (μ9 : Int32 → Int32 → Int32 → IM → Nat) (V48 : Int32 → Int32 → Int32 → IM → Prop) (μ48 : Int32 → Int32 → Int32 → IM → Nat) (vc9 : ∀ (v1 v2 v3 : Int32) (I : IM), V9 v1 v2 v3 I → fX2_lend_9 T  Q (fun w1 w2 w3 I_ => V9 w1 w2 w3 I_ ∧ μ9 w1 w2 w3 I_ < μ9 v1 v2 v3 I) (fun w1 w2 w3 I_ => V48 w1 w2 w3 I_ ∧ μ48 w1 w2 w3 I_ < μ9 v1 v2 v3 I) v1 v2 v3 I) (vc48 : ∀ (v1 v2 v3 : Int32) (I : IM), V48 v1 v2 v3 I → fX2_lend_48 T  Q (fun w1 w2 w3 I_ => V9 w1 w2 w3 I_ ∧ μ9 w1 w2 w3 I_ < μ48 v1 v2 v3 I) (fun w1 w2 w3 I_ => V48 w1 w2 w3 I_ ∧ μ48 w1 w2 w3 I_ < μ48 v1 v2 v3 I) v1 v2 v3 I) {I : IM} (h : fX2_lend_0 T  Q V9 V48 I) : Ct (d + 4) mX2_lend [.ref 69] T I 0 0 (PV Q) := by
  have all : ∀ n : Nat, (∀ (v1 v2 v3 : Int32) (I : IM), V9 v1 v2 v3 I → μ9 v1 v2 v3 I < n → J (d + 4) mX2_lend (PV Q) 0 0 9 [some (.ref 69), some (.int v1), some (.int v2), some (.int v3), none] [] T I 0 0) ∧ (∀ (v1 v2 v3 : Int32) (I : IM), V48 v1 v2 v3 I → μ48 v1 v2 v3 I < n → J (d + 4) mX2_lend (PV Q) 0 0 48 [some (.ref 69), some (.int v1), some (.int v2), some (.int v3), none] [] T I 0 0) := by
    intro n
    induction n with
    | zero => exact ⟨fun _ _ _ _ _ hn => absurd hn (Nat.not_lt_zero _), fun _ _ _ _ _ hn => absurd hn (Nat.not_lt_zero _)⟩
    | succ n ih =>
      exact ⟨fun v1 v2 v3 I hv hn => sX2_lend_9 d hT    (fun w1 w2 w3 I_ hw => ih.1 w1 w2 w3 I_ hw.1 (by have := hw.2; omega)) (fun w1 w2 w3 I_ hw => ih.2 w1 w2 w3 I_ hw.1 (by have := hw.2; omega)) v1 v2 v3 I (vc9 v1 v2 v3 I hv), fun v1 v2 v3 I hv hn => sX2_lend_48 d hT    (fun w1 w2 w3 I_ hw => ih.1 w1 w2 w3 I_ hw.1 (by have := hw.2; omega)) (fun w1 w2 w3 I_ hw => ih.2 w1 w2 w3 I_ hw.1 (by have := hw.2; omega)) v1 v2 v3 I (vc48 v1 v2 v3 I hv)⟩
  exact Ct.ofJ (by decide +kernel) rfl (by intro v hv; revert v hv; simp [Value.category]) rfl (sX2_lend_0 d hT    (fun w1 w2 w3 I_ hw => (all (μ9 w1 w2 w3 I_ + 1)).1 w1 w2 w3 I_ hw (Nat.lt_succ_self _)) (fun w1 w2 w3 I_ hw => (all (μ48 w1 w2 w3 I_ + 1)).2 w1 w2 w3 I_ hw (Nat.lt_succ_self _)) I h)

def jX2_lendB9  (F : (Nat → Int32 → Int32 → Int32 → IM → IM)) (v1 v2 v3 : Int32) (I : IM) : IM := (if 10000 ≤ v3 then I else (if (I 15 1) ≤ v1 then I else (if (I 15 1) ≤ (v2 + 1) then (F 1 v1 0 v3 I) else (F 1 v1 (v2 + 1) v3 I))))
def jX2_lendC9  (F : (Nat → Int32 → Int32 → Int32 → IM → Prop)) (v1 v2 v3 : Int32) (I : IM) : Prop := (((10000 ≤ v3) → True) ∧ ((¬ 10000 ≤ v3) → ((((I 15 1) ≤ v1) → True) ∧ ((¬ (I 15 1) ≤ v1) → ((((I 15 1) ≤ (v2 + 1)) → (F 1 v1 0 v3 I)) ∧ ((¬ (I 15 1) ≤ (v2 + 1)) → (F 1 v1 (v2 + 1) v3 I)))))))
def jX2_lendB48  (F : (Nat → Int32 → Int32 → Int32 → IM → IM)) (v1 v2 v3 : Int32) (I : IM) : IM := (if (jX2_canBorrow I (v2).toNatClampNeg) = 0 then (F 0 (v1 + 1) v2 (v3 + 1) I) else (F 0 0 v2 (v3 + 1) (up2 (up2 (jX2_pass I (v2).toNatClampNeg (jX2_wayNow I (v2).toNatClampNeg) 1) (17 + 4 * (v2).toNatClampNeg) 15 (((jX2_pass I (v2).toNatClampNeg (jX2_wayNow I (v2).toNatClampNeg) 1) (17 + 4 * (v2).toNatClampNeg) 15) + 1)) 69 2 v2)))
def jX2_lendC48  (F : (Nat → Int32 → Int32 → Int32 → IM → Prop)) (v1 v2 v3 : Int32) (I : IM) : Prop := ((vp_in v2 8) ∧ (((jX2_canBorrowK I (v2).toNatClampNeg)) ∧ ((((jX2_canBorrow I (v2).toNatClampNeg) = 0) → (F 0 (v1 + 1) v2 (v3 + 1) I)) ∧ ((¬ (jX2_canBorrow I (v2).toNatClampNeg) = 0) → (((jX2_passK I (v2).toNatClampNeg (jX2_wayNow I (v2).toNatClampNeg) 1)) ∧ (F 0 0 v2 (v3 + 1) (up2 (up2 (jX2_pass I (v2).toNatClampNeg (jX2_wayNow I (v2).toNatClampNeg) 1) (17 + 4 * (v2).toNatClampNeg) 15 (((jX2_pass I (v2).toNatClampNeg (jX2_wayNow I (v2).toNatClampNeg) 1) (17 + 4 * (v2).toNatClampNeg) 15) + 1)) 69 2 v2)))))))
def jX2_lendI  : Nat → Nat → Int32 → Int32 → Int32 → IM → IM
  | 0 => fun _ _ _ _ I => I
  | n + 1 => fun tg v1 v2 v3 I => (if tg = 0 then jX2_lendB9  (jX2_lendI  n) v1 v2 v3 I else (if tg = 1 then jX2_lendB48  (jX2_lendI  n) v1 v2 v3 I else I))
def jX2_lendO  : Nat → Nat → Int32 → Int32 → Int32 → IM → Prop
  | 0 => fun _ _ _ _ _ => False
  | n + 1 => fun tg v1 v2 v3 I => (if tg = 0 then jX2_lendC9  (jX2_lendO  n) v1 v2 v3 I else (if tg = 1 then jX2_lendC48  (jX2_lendO  n) v1 v2 v3 I else True))
theorem jX2_lendI_9  (n : Nat) (v1 v2 v3 : Int32) (I : IM) : jX2_lendI  (n + 1) 0 v1 v2 v3 I = (if 10000 ≤ v3 then I else (if (I 15 1) ≤ v1 then I else (if (I 15 1) ≤ (v2 + 1) then (jX2_lendI  n 1 v1 0 v3 I) else (jX2_lendI  n 1 v1 (v2 + 1) v3 I)))) := by
  show (if (0 : Nat) = 0 then jX2_lendB9  (jX2_lendI  n) v1 v2 v3 I else (if (0 : Nat) = 1 then jX2_lendB48  (jX2_lendI  n) v1 v2 v3 I else I)) = _
  rw [if_pos rfl]; rfl
theorem jX2_lendO_9  (n : Nat) (v1 v2 v3 : Int32) (I : IM) : jX2_lendO  (n + 1) 0 v1 v2 v3 I = (((10000 ≤ v3) → True) ∧ ((¬ 10000 ≤ v3) → ((((I 15 1) ≤ v1) → True) ∧ ((¬ (I 15 1) ≤ v1) → ((((I 15 1) ≤ (v2 + 1)) → (jX2_lendO  n 1 v1 0 v3 I)) ∧ ((¬ (I 15 1) ≤ (v2 + 1)) → (jX2_lendO  n 1 v1 (v2 + 1) v3 I))))))) := by
  show (if (0 : Nat) = 0 then jX2_lendC9  (jX2_lendO  n) v1 v2 v3 I else (if (0 : Nat) = 1 then jX2_lendC48  (jX2_lendO  n) v1 v2 v3 I else True)) = _
  rw [if_pos rfl]; rfl
theorem jX2_lendI_48  (n : Nat) (v1 v2 v3 : Int32) (I : IM) : jX2_lendI  (n + 1) 1 v1 v2 v3 I = (if (jX2_canBorrow I (v2).toNatClampNeg) = 0 then (jX2_lendI  n 0 (v1 + 1) v2 (v3 + 1) I) else (jX2_lendI  n 0 0 v2 (v3 + 1) (up2 (up2 (jX2_pass I (v2).toNatClampNeg (jX2_wayNow I (v2).toNatClampNeg) 1) (17 + 4 * (v2).toNatClampNeg) 15 (((jX2_pass I (v2).toNatClampNeg (jX2_wayNow I (v2).toNatClampNeg) 1) (17 + 4 * (v2).toNatClampNeg) 15) + 1)) 69 2 v2))) := by
  show (if (1 : Nat) = 0 then jX2_lendB9  (jX2_lendI  n) v1 v2 v3 I else (if (1 : Nat) = 1 then jX2_lendB48  (jX2_lendI  n) v1 v2 v3 I else I)) = _
  rw [if_neg (by decide), if_pos rfl]; rfl
theorem jX2_lendO_48  (n : Nat) (v1 v2 v3 : Int32) (I : IM) : jX2_lendO  (n + 1) 1 v1 v2 v3 I = ((vp_in v2 8) ∧ (((jX2_canBorrowK I (v2).toNatClampNeg)) ∧ ((((jX2_canBorrow I (v2).toNatClampNeg) = 0) → (jX2_lendO  n 0 (v1 + 1) v2 (v3 + 1) I)) ∧ ((¬ (jX2_canBorrow I (v2).toNatClampNeg) = 0) → (((jX2_passK I (v2).toNatClampNeg (jX2_wayNow I (v2).toNatClampNeg) 1)) ∧ (jX2_lendO  n 0 0 v2 (v3 + 1) (up2 (up2 (jX2_pass I (v2).toNatClampNeg (jX2_wayNow I (v2).toNatClampNeg) 1) (17 + 4 * (v2).toNatClampNeg) 15 (((jX2_pass I (v2).toNatClampNeg (jX2_wayNow I (v2).toNatClampNeg) 1) (17 + 4 * (v2).toNatClampNeg) 15) + 1)) 69 2 v2))))))) := by
  show (if (1 : Nat) = 0 then jX2_lendC9  (jX2_lendO  n) v1 v2 v3 I else (if (1 : Nat) = 1 then jX2_lendC48  (jX2_lendO  n) v1 v2 v3 I else True)) = _
  rw [if_neg (by decide), if_pos rfl]; rfl
def jX2_lend (I : IM)  : IM := (jX2_lendI  FU 0 0 (I 69 2) 0 I)
def jX2_lendK (I : IM)  : Prop := (jX2_lendO  FU 0 0 (I 69 2) 0 I)
set_option maxRecDepth 10000 in
set_option maxHeartbeats 1000000 in
theorem uX2_lend (d : Nat) {T : Topo} (hT : Lay T)    {R : IM} : ∀ n : Nat, (∀ (v1 v2 v3 : Int32) (I : IM), jX2_lendO  n 0 v1 v2 v3 I → jX2_lendI  n 0 v1 v2 v3 I = R → J (d + 4) mX2_lend (PV (fun T' I' => T' = T ∧ I' = R)) 0 0 9 [some (.ref 69), some (.int v1), some (.int v2), some (.int v3), none] [] T I 0 0) ∧ (∀ (v1 v2 v3 : Int32) (I : IM), jX2_lendO  n 1 v1 v2 v3 I → jX2_lendI  n 1 v1 v2 v3 I = R → J (d + 4) mX2_lend (PV (fun T' I' => T' = T ∧ I' = R)) 0 0 48 [some (.ref 69), some (.int v1), some (.int v2), some (.int v3), none] [] T I 0 0) := by
  intro n
  induction n with
  | zero => exact ⟨fun _ _ _ _ hz => hz.elim, fun _ _ _ _ hz => hz.elim⟩
  | succ n ih =>
    refine ⟨?_, ?_⟩
    · exact fun v1 v2 v3 I hok hit => by
        rw [jX2_lendO_9] at hok
        exact sX2_lend_9 d hT    (K9 := fun w1 w2 w3 I_ => (jX2_lendO  n 0 w1 w2 w3 I_ ∧ jX2_lendI  n 0 w1 w2 w3 I_ = R)) (K48 := fun w1 w2 w3 I_ => (jX2_lendO  n 1 w1 w2 w3 I_ ∧ jX2_lendI  n 1 w1 w2 w3 I_ = R)) (fun w1 w2 w3 I_ hw => ih.1 w1 w2 w3 I_ hw.1 hw.2) (fun w1 w2 w3 I_ hw => ih.2 w1 w2 w3 I_ hw.1 hw.2) v1 v2 v3 I (by
          unfold fX2_lend_9
          exact ⟨fun hc1 => ⟨rfl, by rw [jX2_lendI_9, if_pos hc1] at hit; exact hit⟩, fun hc1 => ⟨fun hc2 => ⟨rfl, by rw [jX2_lendI_9, if_neg hc1, if_pos hc2] at hit; exact hit⟩, fun hc2 => ⟨fun hc3 => ⟨(((hok).2 hc1).2 hc2).1 hc3, by rw [jX2_lendI_9, if_neg hc1, if_neg hc2, if_pos hc3] at hit; exact hit⟩, fun hc3 => ⟨(((hok).2 hc1).2 hc2).2 hc3, by rw [jX2_lendI_9, if_neg hc1, if_neg hc2, if_neg hc3] at hit; exact hit⟩⟩⟩⟩)
    · exact fun v1 v2 v3 I hok hit => by
        rw [jX2_lendO_48] at hok
        exact sX2_lend_48 d hT    (K9 := fun w1 w2 w3 I_ => (jX2_lendO  n 0 w1 w2 w3 I_ ∧ jX2_lendI  n 0 w1 w2 w3 I_ = R)) (K48 := fun w1 w2 w3 I_ => (jX2_lendO  n 1 w1 w2 w3 I_ ∧ jX2_lendI  n 1 w1 w2 w3 I_ = R)) (fun w1 w2 w3 I_ hw => ih.1 w1 w2 w3 I_ hw.1 hw.2) (fun w1 w2 w3 I_ hw => ih.2 w1 w2 w3 I_ hw.1 hw.2) v1 v2 v3 I (by
          unfold fX2_lend_48
          exact ⟨(hok).1, ⟨((hok).2).1, ⟨fun hc1 => ⟨(((hok).2).2).1 hc1, by rw [jX2_lendI_48, if_pos hc1] at hit; exact hit⟩, fun hc1 => ⟨((((hok).2).2).2 hc1).1, ⟨((((hok).2).2).2 hc1).2, by rw [jX2_lendI_48, if_neg hc1] at hit; exact hit⟩⟩⟩⟩⟩)
set_option maxRecDepth 10000 in
set_option maxHeartbeats 1000000 in
theorem qX2_lend (d : Nat) {T : Topo} {I : IM} (hT : Lay T)   (hp : (jX2_lendK I)) : CtV (d + 4) mX2_lend [.ref 69] T I (fun J_ => J_ = (jX2_lend I)) := by
  unfold jX2_lendK at hp
  exact Ct.ofJ (by decide +kernel) rfl (by intro v hv; revert v hv; simp [Value.category]) rfl (sX2_lend_0 d hT    (K9 := fun w1 w2 w3 I_ => (jX2_lendO  FU 0 w1 w2 w3 I_ ∧ jX2_lendI  FU 0 w1 w2 w3 I_ = (jX2_lend I ))) (K48 := fun w1 w2 w3 I_ => (jX2_lendO  FU 1 w1 w2 w3 I_ ∧ jX2_lendI  FU 1 w1 w2 w3 I_ = (jX2_lend I ))) (fun w1 w2 w3 I_ hw => (uX2_lend d hT    FU).1 w1 w2 w3 I_ hw.1 hw.2) (fun w1 w2 w3 I_ hw => (uX2_lend d hT    FU).2 w1 w2 w3 I_ hw.1 hw.2) I (by
    unfold fX2_lend_0
    exact ⟨hp, rfl⟩))

def fX2_doTick_0 (T : Topo)  (Q : Topo → IM → Prop)  (I : IM) : Prop :=
  (((jX2_forgetLatestK I)) ∧ (((jX2_passNeedsK (jX2_forgetLatest I))) ∧ (((jX2_lendK (jX2_passNeeds (jX2_forgetLatest I)))) ∧ Q T (up2 (jX2_lend (jX2_passNeeds (jX2_forgetLatest I))) 69 3 ((((jX2_lend (jX2_passNeeds (jX2_forgetLatest I))) 69 3) + 1) - (((jX2_lend (jX2_passNeeds (jX2_forgetLatest I))) 69 3) + 1) / 24 * 24)))))
set_option maxHeartbeats 4000000 in
set_option maxRecDepth 100000 in
theorem sX2_doTick_0 (d : Nat) {T : Topo} (hT : Lay T)     {Q : Topo → IM → Prop}   (I : IM) (h : fX2_doTick_0 T  Q  I) : J (d + 5) mX2_doTick (PV Q) 0 0 0 [some (.ref 69)] [] T I 0 0 := by
  unfold fX2_doTick_0 at h
  refine J.aload_n dX2_doTick_0 rfl rfl ?_
  obtain ⟨hp1, h⟩ := h
  refine J.callVD (k := 69) (as := []) (rest := []) dX2_doTick_1 kX2_forgetLatest vX2_forgetLatest lX2_23 (hT.k 69 rfl) rfl rfl rfl rfl rfl (by omega) (Nat.le_refl _) (Nat.le_refl _) (qX2_forgetLatest (d + 3) hT  hp1) ?_
  refine J.aload_n dX2_doTick_4 rfl rfl ?_
  obtain ⟨hp2, h⟩ := h
  refine J.callVD (k := 69) (as := []) (rest := []) dX2_doTick_5 kX2_passNeeds vX2_passNeeds lX2_26 (hT.k 69 rfl) rfl rfl rfl rfl rfl (by omega) (Nat.le_refl _) (Nat.le_refl _) (qX2_passNeeds (d + 1) hT  hp2) ?_
  refine J.aload_n dX2_doTick_8 rfl rfl ?_
  obtain ⟨hp3, h⟩ := h
  refine J.callVD (k := 69) (as := []) (rest := []) dX2_doTick_9 kX2_lend vX2_lend lX2_29 (hT.k 69 rfl) rfl rfl rfl rfl rfl (by omega) (Nat.le_refl _) (Nat.le_refl _) (qX2_lend (d + 0) hT  hp3) ?_
  refine J.aload_n dX2_doTick_12 rfl rfl ?_
  refine J.aload_n dX2_doTick_13 rfl rfl ?_
  refine J.getI dX2_doTick_14 fX2_32 (hT.k 69 rfl) rfl ?_
  refine J.iconst (v := 1) dX2_doTick_17 (by decide) ?_
  refine J.iadd dX2_doTick_18 ?_
  refine J.bipush (v := 24) dX2_doTick_19 (by decide) ?_
  refine J.irem dX2_doTick_21 (by decide) ?_
  refine J.atpc (pc' := 22) rfl ?_
  refine J.putI dX2_doTick_22 fX2_32 (hT.k 69 rfl) rfl ?_
  exact J.vretQ dX2_doTick_25 rfl (Nat.le_refl _) (Nat.le_refl _) h
set_option maxHeartbeats 4000000 in
set_option maxRecDepth 100000 in
theorem wX2_doTick (d : Nat) {T : Topo} (hT : Lay T)    {Q : Topo → IM → Prop} {I : IM} (h : fX2_doTick_0 T  Q I) : Ct (d + 5) mX2_doTick [.ref 69] T I 0 0 (PV Q) :=
  Ct.ofJ (by decide +kernel) rfl (by intro v hv; revert v hv; simp [Value.category]) rfl (sX2_doTick_0 d hT    I h)

def jX2_doTickM (I : IM)  : IM := (up2 (jX2_lend (jX2_passNeeds (jX2_forgetLatest I))) 69 3 ((((jX2_lend (jX2_passNeeds (jX2_forgetLatest I))) 69 3) + 1) - (((jX2_lend (jX2_passNeeds (jX2_forgetLatest I))) 69 3) + 1) / 24 * 24))
def jX2_doTickK (I : IM)  : Prop := (((jX2_forgetLatestK I)) ∧ (((jX2_passNeedsK (jX2_forgetLatest I))) ∧ ((jX2_lendK (jX2_passNeeds (jX2_forgetLatest I))))))
set_option maxRecDepth 10000 in
theorem qX2_doTick (d : Nat) {T : Topo} {I : IM} (hT : Lay T)   (hp : (jX2_doTickK I)) : CtV (d + 5) mX2_doTick [.ref 69] T I (fun J_ => J_ = (jX2_doTickM I)) :=
  wX2_doTick d hT    (by
  unfold fX2_doTick_0
  exact ⟨(hp).1, ⟨((hp).2).1, ⟨((hp).2).2, ⟨rfl, by unfold jX2_doTickM; rfl⟩⟩⟩⟩)

end
