noncomputable section
def fX12_comesIn_0 (T : Topo) (a1 : Int32) (Q : Int32 → Topo → IM → Prop) (K7 : IM → Prop) (I : IM) : Prop :=
  (vp_in a1 8 ∧ K7 (up2 I 106 a1.toNatClampNeg 0))
def fX12_comesIn_7 (T : Topo) (a1 : Int32) (Q : Int32 → Topo → IM → Prop) (K7 : IM → Prop) (I : IM) : Prop :=
  (((jX12_advanceK I a1)) ∧ (((((jX12_advance I a1).1) = 0) → Q 0 T (jX12_advance I a1).2) ∧ ((¬ ((jX12_advance I a1).1) = 0) → (((jX12_putsK (jX12_advance I a1).2 a1)) ∧ (((¬ (jX12_puts (jX12_advance I a1).2 a1) = 0) → (((¬ ((jX12_putsM (jX12_advance I a1).2 a1) 79 5) = 2000) → (vp_in a1 8 ∧ (((jX12_holdsK (up2 (up2 (jX12_putsM (jX12_advance I a1).2 a1) 79 5 (((jX12_putsM (jX12_advance I a1).2 a1) 79 5) + 1)) 106 a1.toNatClampNeg 1) 0)) ∧ ((((jX12_holds (up2 (up2 (jX12_putsM (jX12_advance I a1).2 a1) 79 5 (((jX12_putsM (jX12_advance I a1).2 a1) 79 5) + 1)) 106 a1.toNatClampNeg 1) 0) = 0) → (vp_in a1 8 ∧ K7 (up2 (up2 (up2 (jX12_putsM (jX12_advance I a1).2 a1) 79 5 (((jX12_putsM (jX12_advance I a1).2 a1) 79 5) + 1)) 106 a1.toNatClampNeg 1) 106 a1.toNatClampNeg 0))) ∧ ((¬ (jX12_holds (up2 (up2 (jX12_putsM (jX12_advance I a1).2 a1) 79 5 (((jX12_putsM (jX12_advance I a1).2 a1) 79 5) + 1)) 106 a1.toNatClampNeg 1) 0) = 0) → Q 1 T (up2 (up2 (jX12_putsM (jX12_advance I a1).2 a1) 79 5 (((jX12_putsM (jX12_advance I a1).2 a1) 79 5) + 1)) 106 a1.toNatClampNeg 1)))))) ∧ ((((jX12_putsM (jX12_advance I a1).2 a1) 79 5) = 2000) → Q (-1000006) T (jX12_putsM (jX12_advance I a1).2 a1)))) ∧ (((jX12_puts (jX12_advance I a1).2 a1) = 0) → K7 (jX12_putsM (jX12_advance I a1).2 a1)))))))
set_option maxHeartbeats 4000000 in
set_option maxRecDepth 100000 in
theorem sX12_comesIn_0 (d : Nat) {T : Topo} (hT : Lay T) (a1 : Int32)    {Q : Int32 → Topo → IM → Prop} {K7 : IM → Prop} (hK7 : ∀ (I : IM), K7 I → J (d + 4) mX12_comesIn (PI Q) 0 0 7 [some (.ref 79), some (.int a1)] [] T I 0 0) (I : IM) (h : fX12_comesIn_0 T a1 Q K7 I) : J (d + 4) mX12_comesIn (PI Q) 0 0 0 [some (.ref 79), some (.int a1)] [] T I 0 0 := by
  unfold fX12_comesIn_0 at h
  refine J.aload_n dX12_comesIn_0 rfl rfl ?_
  refine J.getR (r := 106) dX12_comesIn_1 fX12_93 (hT.k 79 rfl) rfl (hT.r 79 35 rfl rfl) ?_
  refine J.iload_n dX12_comesIn_4 rfl rfl ?_
  refine J.iconst (v := 0) dX12_comesIn_5 (by decide) ?_
  obtain ⟨hs1, h⟩ := h
  refine J.bast dX12_comesIn_6 (hT.k 106 rfl) (hT.l 106 rfl) hs1 (Or.inl rfl) ?_
  exact J.weaken (ls' := [some (.ref 79), some (.int a1)]) (And.intro rfl (And.intro rfl trivial)) (hK7 (up2 I 106 a1.toNatClampNeg 0) h)
set_option maxHeartbeats 4000000 in
set_option maxRecDepth 100000 in
theorem sX12_comesIn_7 (d : Nat) {T : Topo} (hT : Lay T) (a1 : Int32)    {Q : Int32 → Topo → IM → Prop} {K7 : IM → Prop} (hK7 : ∀ (I : IM), K7 I → J (d + 4) mX12_comesIn (PI Q) 0 0 7 [some (.ref 79), some (.int a1)] [] T I 0 0) (I : IM) (h : fX12_comesIn_7 T a1 Q K7 I) : J (d + 4) mX12_comesIn (PI Q) 0 0 7 [some (.ref 79), some (.int a1)] [] T I 0 0 := by
  unfold fX12_comesIn_7 at h
  refine J.aload_n dX12_comesIn_7 rfl rfl ?_
  refine J.iload_n dX12_comesIn_8 rfl rfl ?_
  obtain ⟨hp1, h⟩ := h
  refine J.callVE (k := 79) (as := [.int a1]) (rest := []) dX12_comesIn_9 kX12_advance vX12_advance lX12_288 (hT.k 79 rfl) rfl rfl rfl rfl rfl (by omega) (Nat.le_refl _) (Nat.le_refl _) (qX12_advance (d + 2) hT a1 hp1) ?_
  refine J.if_eq (tgt := 77) dX12_comesIn_12 (by decide) (fun hc2 => ?_) (fun hc2 => ?_)
  · have h := h.1 hc2
    refine J.iconst (v := 0) dX12_comesIn_77 (by decide) ?_
    exact J.iretQ dX12_comesIn_78 rfl (Nat.le_refl _) (Nat.le_refl _) h
  · have h := h.2 hc2
    refine J.aload_n dX12_comesIn_15 rfl rfl ?_
    refine J.iload_n dX12_comesIn_16 rfl rfl ?_
    obtain ⟨hp3, h⟩ := h
    refine J.callVE (k := 79) (as := [.int a1]) (rest := []) dX12_comesIn_17 kX12_puts vX12_puts lX12_291 (hT.k 79 rfl) rfl rfl rfl rfl rfl (by omega) (Nat.le_refl _) (Nat.le_refl _) (qX12_puts (d + 1) hT a1 hp3) ?_
    refine J.if_ne (tgt := 26) dX12_comesIn_20 (by decide) (fun hc4 => ?_) (fun hc4 => ?_)
    · have h := h.1 hc4
      refine J.aload_n dX12_comesIn_26 rfl rfl ?_
      refine J.getI dX12_comesIn_27 fX12_301 (hT.k 79 rfl) rfl ?_
      refine J.sipush (v := 2000) dX12_comesIn_30 (by decide) ?_
      refine J.icmp_ne (tgt := 40) dX12_comesIn_33 (by decide) (fun hc5 => ?_) (fun hc5 => ?_)
      · have h := h.1 hc5
        refine J.aload_n dX12_comesIn_40 rfl rfl ?_
        refine J.dup dX12_comesIn_41 rfl ?_
        refine J.getI dX12_comesIn_42 fX12_301 (hT.k 79 rfl) rfl ?_
        refine J.iconst (v := 1) dX12_comesIn_45 (by decide) ?_
        refine J.iadd dX12_comesIn_46 ?_
        refine J.putI dX12_comesIn_47 fX12_301 (hT.k 79 rfl) rfl ?_
        refine J.aload_n dX12_comesIn_50 rfl rfl ?_
        refine J.atpc (pc' := 51) rfl ?_
        refine J.getR (r := 106) dX12_comesIn_51 fX12_93 (hT.k 79 rfl) rfl (hT.r 79 35 rfl rfl) ?_
        refine J.iload_n dX12_comesIn_54 rfl rfl ?_
        refine J.iconst (v := 1) dX12_comesIn_55 (by decide) ?_
        obtain ⟨hs6, h⟩ := h
        refine J.bast dX12_comesIn_56 (hT.k 106 rfl) (hT.l 106 rfl) hs6 (Or.inr rfl) ?_
        refine J.aload_n dX12_comesIn_57 rfl rfl ?_
        refine J.iconst (v := 0) dX12_comesIn_58 (by decide) ?_
        obtain ⟨hp7, h⟩ := h
        refine J.callVP (k := 79) (as := [.int 0]) (rest := []) dX12_comesIn_59 kX12_holds vX12_holds lX12_294 (hT.k 79 rfl) rfl rfl rfl rfl rfl (by omega) (Nat.le_refl _) (Nat.le_refl _) (qX12_holds (d + 0) hT 0 hp7) ?_
        refine J.if_eq (tgt := 67) dX12_comesIn_62 (by decide) (fun hc8 => ?_) (fun hc8 => ?_)
        · have h := h.1 hc8
          refine J.aload_n dX12_comesIn_67 rfl rfl ?_
          refine J.getR (r := 106) dX12_comesIn_68 fX12_93 (hT.k 79 rfl) rfl (hT.r 79 35 rfl rfl) ?_
          refine J.iload_n dX12_comesIn_71 rfl rfl ?_
          refine J.iconst (v := 0) dX12_comesIn_72 (by decide) ?_
          obtain ⟨hs9, h⟩ := h
          refine J.bast dX12_comesIn_73 (hT.k 106 rfl) (hT.l 106 rfl) hs9 (Or.inl rfl) ?_
          refine J.goto (tgt := 7) dX12_comesIn_74 (by decide) ?_
          exact J.weaken (ls' := [some (.ref 79), some (.int a1)]) (And.intro rfl (And.intro rfl trivial)) (hK7 (up2 (up2 (up2 (jX12_putsM (jX12_advance I a1).2 a1) 79 5 (((jX12_putsM (jX12_advance I a1).2 a1) 79 5) + 1)) 106 a1.toNatClampNeg 1) 106 a1.toNatClampNeg 0) h)
        · have h := h.2 hc8
          refine J.iconst (v := 1) dX12_comesIn_65 (by decide) ?_
          exact J.iretQ dX12_comesIn_66 rfl (Nat.le_refl _) (Nat.le_refl _) h
      · have h := h.2 hc5
        refine J.ldcw (v := (-1000006)) dX12_comesIn_36 kcX12_304 ?_
        exact J.iretQ dX12_comesIn_39 rfl (Nat.le_refl _) (Nat.le_refl _) h
    · have h := h.2 hc4
      refine J.goto (tgt := 7) dX12_comesIn_23 (by decide) ?_
      exact J.weaken (ls' := [some (.ref 79), some (.int a1)]) (And.intro rfl (And.intro rfl trivial)) (hK7 (jX12_putsM (jX12_advance I a1).2 a1) h)
set_option maxHeartbeats 4000000 in
set_option maxRecDepth 100000 in
theorem wX12_comesIn (d : Nat) {T : Topo} (hT : Lay T) (a1 : Int32)   {Q : Int32 → Topo → IM → Prop} (V7 : IM → Prop) (μ7 : IM → Nat) (vc7 : ∀ (I : IM), V7 I → fX12_comesIn_7 T a1 Q (fun I_ => V7 I_ ∧ μ7 I_ < μ7 I) I) {I : IM} (h : fX12_comesIn_0 T a1 Q V7 I) : Ct (d + 4) mX12_comesIn [.ref 79, .int a1] T I 0 0 (PI Q) := by
  have all : ∀ n : Nat, (∀ (I : IM), V7 I → μ7 I < n → J (d + 4) mX12_comesIn (PI Q) 0 0 7 [some (.ref 79), some (.int a1)] [] T I 0 0) := by
    intro n
    induction n with
    | zero => exact fun _ _ hn => absurd hn (Nat.not_lt_zero _)
    | succ n ih =>
      exact fun I hv hn => sX12_comesIn_7 d hT a1   (fun I_ hw => ih I_ hw.1 (by have := hw.2; omega)) I (vc7 I hv)
  exact Ct.ofJ (by decide +kernel) rfl (by intro v hv; revert v hv; simp [Value.category]) rfl (sX12_comesIn_0 d hT a1   (fun I_ hw => (all (μ7 I_ + 1)) I_ hw (Nat.lt_succ_self _)) I h)

def jX12_comesInI (a1 : Int32) : Nat → IM → Int32 × IM
  | 0 => fun I => (0, I)
  | n + 1 => fun  I => (if ((jX12_advance I a1).1) = 0 then (0, (jX12_advance I a1).2) else (if (jX12_puts (jX12_advance I a1).2 a1) = 0 then (jX12_comesInI a1 n  (jX12_putsM (jX12_advance I a1).2 a1)) else (if ((jX12_putsM (jX12_advance I a1).2 a1) 79 5) = 2000 then ((-1000006), (jX12_putsM (jX12_advance I a1).2 a1)) else (if (jX12_holds (up2 (up2 (jX12_putsM (jX12_advance I a1).2 a1) 79 5 (((jX12_putsM (jX12_advance I a1).2 a1) 79 5) + 1)) 106 a1.toNatClampNeg 1) 0) = 0 then (jX12_comesInI a1 n  (up2 (up2 (up2 (jX12_putsM (jX12_advance I a1).2 a1) 79 5 (((jX12_putsM (jX12_advance I a1).2 a1) 79 5) + 1)) 106 a1.toNatClampNeg 1) 106 a1.toNatClampNeg 0)) else (1, (up2 (up2 (jX12_putsM (jX12_advance I a1).2 a1) 79 5 (((jX12_putsM (jX12_advance I a1).2 a1) 79 5) + 1)) 106 a1.toNatClampNeg 1))))))
def jX12_comesInO (a1 : Int32) : Nat → IM → Prop
  | 0 => fun _ => False
  | n + 1 => fun  I => (((jX12_advanceK I a1)) ∧ (((((jX12_advance I a1).1) = 0) → True) ∧ ((¬ ((jX12_advance I a1).1) = 0) → (((jX12_putsK (jX12_advance I a1).2 a1)) ∧ (((¬ (jX12_puts (jX12_advance I a1).2 a1) = 0) → (((¬ ((jX12_putsM (jX12_advance I a1).2 a1) 79 5) = 2000) → (vp_in a1 8 ∧ (((jX12_holdsK (up2 (up2 (jX12_putsM (jX12_advance I a1).2 a1) 79 5 (((jX12_putsM (jX12_advance I a1).2 a1) 79 5) + 1)) 106 a1.toNatClampNeg 1) 0)) ∧ ((((jX12_holds (up2 (up2 (jX12_putsM (jX12_advance I a1).2 a1) 79 5 (((jX12_putsM (jX12_advance I a1).2 a1) 79 5) + 1)) 106 a1.toNatClampNeg 1) 0) = 0) → (vp_in a1 8 ∧ (jX12_comesInO a1 n  (up2 (up2 (up2 (jX12_putsM (jX12_advance I a1).2 a1) 79 5 (((jX12_putsM (jX12_advance I a1).2 a1) 79 5) + 1)) 106 a1.toNatClampNeg 1) 106 a1.toNatClampNeg 0)))) ∧ ((¬ (jX12_holds (up2 (up2 (jX12_putsM (jX12_advance I a1).2 a1) 79 5 (((jX12_putsM (jX12_advance I a1).2 a1) 79 5) + 1)) 106 a1.toNatClampNeg 1) 0) = 0) → True))))) ∧ ((((jX12_putsM (jX12_advance I a1).2 a1) 79 5) = 2000) → True))) ∧ (((jX12_puts (jX12_advance I a1).2 a1) = 0) → (jX12_comesInO a1 n  (jX12_putsM (jX12_advance I a1).2 a1))))))))
theorem jX12_comesInI_7 (a1 : Int32) (n : Nat) (I : IM) : jX12_comesInI a1 (n + 1)  I = (if ((jX12_advance I a1).1) = 0 then (0, (jX12_advance I a1).2) else (if (jX12_puts (jX12_advance I a1).2 a1) = 0 then (jX12_comesInI a1 n  (jX12_putsM (jX12_advance I a1).2 a1)) else (if ((jX12_putsM (jX12_advance I a1).2 a1) 79 5) = 2000 then ((-1000006), (jX12_putsM (jX12_advance I a1).2 a1)) else (if (jX12_holds (up2 (up2 (jX12_putsM (jX12_advance I a1).2 a1) 79 5 (((jX12_putsM (jX12_advance I a1).2 a1) 79 5) + 1)) 106 a1.toNatClampNeg 1) 0) = 0 then (jX12_comesInI a1 n  (up2 (up2 (up2 (jX12_putsM (jX12_advance I a1).2 a1) 79 5 (((jX12_putsM (jX12_advance I a1).2 a1) 79 5) + 1)) 106 a1.toNatClampNeg 1) 106 a1.toNatClampNeg 0)) else (1, (up2 (up2 (jX12_putsM (jX12_advance I a1).2 a1) 79 5 (((jX12_putsM (jX12_advance I a1).2 a1) 79 5) + 1)) 106 a1.toNatClampNeg 1)))))) := rfl
theorem jX12_comesInO_7 (a1 : Int32) (n : Nat) (I : IM) : jX12_comesInO a1 (n + 1)  I = (((jX12_advanceK I a1)) ∧ (((((jX12_advance I a1).1) = 0) → True) ∧ ((¬ ((jX12_advance I a1).1) = 0) → (((jX12_putsK (jX12_advance I a1).2 a1)) ∧ (((¬ (jX12_puts (jX12_advance I a1).2 a1) = 0) → (((¬ ((jX12_putsM (jX12_advance I a1).2 a1) 79 5) = 2000) → (vp_in a1 8 ∧ (((jX12_holdsK (up2 (up2 (jX12_putsM (jX12_advance I a1).2 a1) 79 5 (((jX12_putsM (jX12_advance I a1).2 a1) 79 5) + 1)) 106 a1.toNatClampNeg 1) 0)) ∧ ((((jX12_holds (up2 (up2 (jX12_putsM (jX12_advance I a1).2 a1) 79 5 (((jX12_putsM (jX12_advance I a1).2 a1) 79 5) + 1)) 106 a1.toNatClampNeg 1) 0) = 0) → (vp_in a1 8 ∧ (jX12_comesInO a1 n  (up2 (up2 (up2 (jX12_putsM (jX12_advance I a1).2 a1) 79 5 (((jX12_putsM (jX12_advance I a1).2 a1) 79 5) + 1)) 106 a1.toNatClampNeg 1) 106 a1.toNatClampNeg 0)))) ∧ ((¬ (jX12_holds (up2 (up2 (jX12_putsM (jX12_advance I a1).2 a1) 79 5 (((jX12_putsM (jX12_advance I a1).2 a1) 79 5) + 1)) 106 a1.toNatClampNeg 1) 0) = 0) → True))))) ∧ ((((jX12_putsM (jX12_advance I a1).2 a1) 79 5) = 2000) → True))) ∧ (((jX12_puts (jX12_advance I a1).2 a1) = 0) → (jX12_comesInO a1 n  (jX12_putsM (jX12_advance I a1).2 a1)))))))) := rfl
def jX12_comesIn (I : IM) (a1 : Int32) : Int32 × IM := (jX12_comesInI a1 FU  (up2 I 106 a1.toNatClampNeg 0))
def jX12_comesInK (I : IM) (a1 : Int32) : Prop := (vp_in a1 8 ∧ (jX12_comesInO a1 FU  (up2 I 106 a1.toNatClampNeg 0)))
set_option maxRecDepth 10000 in
set_option maxHeartbeats 1000000 in
theorem uX12_comesIn (d : Nat) {T : Topo} (hT : Lay T) (a1 : Int32)   {R : Int32 × IM} : ∀ n : Nat, (∀ (I : IM), jX12_comesInO a1 n  I → jX12_comesInI a1 n  I = R → J (d + 4) mX12_comesIn (PI (fun x T' I' => T' = T ∧ x = R.1 ∧ I' = R.2)) 0 0 7 [some (.ref 79), some (.int a1)] [] T I 0 0) := by
  intro n
  induction n with
  | zero => exact fun _ hz => hz.elim
  | succ n ih =>
    exact fun I hok hit => by
        rw [jX12_comesInO_7] at hok
        exact sX12_comesIn_7 d hT a1   (K7 := fun I_ => (jX12_comesInO a1 n  I_ ∧ jX12_comesInI a1 n  I_ = R)) (fun I_ hw => ih I_ hw.1 hw.2) I (by
          unfold fX12_comesIn_7
          exact ⟨(hok).1, ⟨fun hc1 => (by rw [jX12_comesInI_7, if_pos hc1] at hit; exact ⟨rfl, by rw [← hit], by rw [← hit]⟩), fun hc1 => ⟨(((hok).2).2 hc1).1, ⟨fun hc2 => ⟨fun hc3 => ⟨((((((hok).2).2 hc1).2).1 hc2).1 hc3).1, ⟨(((((((hok).2).2 hc1).2).1 hc2).1 hc3).2).1, ⟨fun hc4 => ⟨(((((((((hok).2).2 hc1).2).1 hc2).1 hc3).2).2).1 hc4).1, ⟨(((((((((hok).2).2 hc1).2).1 hc2).1 hc3).2).2).1 hc4).2, by rw [jX12_comesInI_7, if_neg hc1, if_neg hc2, if_neg hc3, if_pos hc4] at hit; exact hit⟩⟩, fun hc4 => (by rw [jX12_comesInI_7, if_neg hc1, if_neg hc2, if_neg hc3, if_neg hc4] at hit; exact ⟨rfl, by rw [← hit], by rw [← hit]⟩)⟩⟩⟩, fun hc3 => (by rw [jX12_comesInI_7, if_neg hc1, if_neg hc2, if_pos hc3] at hit; exact ⟨rfl, by rw [← hit], by rw [← hit]⟩)⟩, fun hc2 => ⟨((((hok).2).2 hc1).2).2 hc2, by rw [jX12_comesInI_7, if_neg hc1, if_pos hc2] at hit; exact hit⟩⟩⟩⟩⟩)
set_option maxRecDepth 10000 in
set_option maxHeartbeats 1000000 in
theorem qX12_comesIn (d : Nat) {T : Topo} {I : IM} (hT : Lay T) (a1 : Int32)  (hp : (jX12_comesInK I a1)) : CtI (d + 4) mX12_comesIn [.ref 79, .int a1] T I (fun x_ J_ => x_ = (jX12_comesIn I a1).1 ∧ J_ = (jX12_comesIn I a1).2) := by
  unfold jX12_comesInK at hp
  exact Ct.ofJ (by decide +kernel) rfl (by intro v hv; revert v hv; simp [Value.category]) rfl (sX12_comesIn_0 d hT a1   (K7 := fun I_ => (jX12_comesInO a1 FU  I_ ∧ jX12_comesInI a1 FU  I_ = (jX12_comesIn I a1))) (fun I_ hw => uX12_comesIn d hT a1   FU I_ hw.1 hw.2) I (by
    unfold fX12_comesIn_0
    exact ⟨(hp).1, ⟨(hp).2, rfl⟩⟩))

def fX12_oneTick_0 (T : Topo)  (Q : Topo → IM → Prop) (K2 : Int32 → IM → Prop) (K25 : Int32 → IM → Prop) (K57 : Int32 → Int32 → IM → Prop) (K179 : Int32 → Int32 → Int32 → IM → Prop) (I : IM) : Prop :=
  K2 0 I
def fX12_oneTick_2 (T : Topo)  (Q : Topo → IM → Prop) (K2 : Int32 → IM → Prop) (K25 : Int32 → IM → Prop) (K57 : Int32 → Int32 → IM → Prop) (K179 : Int32 → Int32 → Int32 → IM → Prop) (v1 : Int32) (I : IM) : Prop :=
  ((((I 79 1) ≤ v1) → K25 0 I) ∧ ((¬ (I 79 1) ≤ v1) → (vp_in v1 9 ∧ K2 (v1 + 1) (up2 I 87 v1.toNatClampNeg 0))))
def fX12_oneTick_25 (T : Topo)  (Q : Topo → IM → Prop) (K2 : Int32 → IM → Prop) (K25 : Int32 → IM → Prop) (K57 : Int32 → Int32 → IM → Prop) (K179 : Int32 → Int32 → Int32 → IM → Prop) (v1 : Int32) (I : IM) : Prop :=
  ((((I 79 2) ≤ v1) → (((jX12_countingAtK I (I 79 3))) ∧ K57 (jX12_countingAt I (I 79 3)) 0 I)) ∧ ((¬ (I 79 2) ≤ v1) → (vp_in v1 8 ∧ K25 (v1 + 1) (up2 I 105 v1.toNatClampNeg 0))))
def fX12_oneTick_57 (T : Topo)  (Q : Topo → IM → Prop) (K2 : Int32 → IM → Prop) (K25 : Int32 → IM → Prop) (K57 : Int32 → Int32 → IM → Prop) (K179 : Int32 → Int32 → Int32 → IM → Prop) (v1 v2 : Int32) (I : IM) : Prop :=
  ((((I 79 2) ≤ v2) → ((((I 79 2) ≤ ((I 79 8) + 1)) → K179 v1 0 0 I) ∧ ((¬ (I 79 2) ≤ ((I 79 8) + 1)) → K179 v1 0 ((I 79 8) + 1) I))) ∧ ((¬ (I 79 2) ≤ v2) → ((((¬ (hs v1 v2)) → K57 v1 (v2 + 1) I) ∧ ((hs v1 v2) → (((jX12_takesK I v2 (-1))) ∧ (((¬ (jX12_takes I v2 (-1)) = 0) → (vp_in v2 8 ∧ (((jX12_needK I v2)) ∧ ((((jX12_need I v2) ≤ (I 101 v2.toNatClampNeg)) → (((jX12_needK I v2)) ∧ (((jX12_leftInK I (jX12_takes I v2 (-1)))) ∧ ((((jX12_need I v2) ≤ (jX12_leftIn I (jX12_takes I v2 (-1)))) → (((jX12_passesK I v2 (jX12_takes I v2 (-1)) (jX12_need I v2))) ∧ K57 v1 (v2 + 1) (jX12_passes I v2 (jX12_takes I v2 (-1)) (jX12_need I v2)))) ∧ ((¬ (jX12_need I v2) ≤ (jX12_leftIn I (jX12_takes I v2 (-1)))) → (((jX12_leftInK I (jX12_takes I v2 (-1)))) ∧ (((jX12_passesK I v2 (jX12_takes I v2 (-1)) (jX12_leftIn I (jX12_takes I v2 (-1))))) ∧ K57 v1 (v2 + 1) (jX12_passes I v2 (jX12_takes I v2 (-1)) (jX12_leftIn I (jX12_takes I v2 (-1))))))))))) ∧ ((¬ (jX12_need I v2) ≤ (I 101 v2.toNatClampNeg)) → (vp_in v2 8 ∧ (((jX12_leftInK I (jX12_takes I v2 (-1)))) ∧ ((((I 101 v2.toNatClampNeg) ≤ (jX12_leftIn I (jX12_takes I v2 (-1)))) → (((jX12_passesK I v2 (jX12_takes I v2 (-1)) (I 101 v2.toNatClampNeg))) ∧ K57 v1 (v2 + 1) (jX12_passes I v2 (jX12_takes I v2 (-1)) (I 101 v2.toNatClampNeg)))) ∧ ((¬ (I 101 v2.toNatClampNeg) ≤ (jX12_leftIn I (jX12_takes I v2 (-1)))) → (((jX12_leftInK I (jX12_takes I v2 (-1)))) ∧ (((jX12_passesK I v2 (jX12_takes I v2 (-1)) (jX12_leftIn I (jX12_takes I v2 (-1))))) ∧ K57 v1 (v2 + 1) (jX12_passes I v2 (jX12_takes I v2 (-1)) (jX12_leftIn I (jX12_takes I v2 (-1))))))))))))))) ∧ (((jX12_takes I v2 (-1)) = 0) → K57 v1 (v2 + 1) I))))))))
def fX12_oneTick_179 (T : Topo)  (Q : Topo → IM → Prop) (K2 : Int32 → IM → Prop) (K25 : Int32 → IM → Prop) (K57 : Int32 → Int32 → IM → Prop) (K179 : Int32 → Int32 → Int32 → IM → Prop) (v1 v2 v3 : Int32) (I : IM) : Prop :=
  ((((I 79 2) ≤ v2) → Q T (up2 I 79 3 (((I 79 3) + 1) - ((I 79 3) + 1) / 24 * 24))) ∧ ((¬ (I 79 2) ≤ v2) → ((((¬ (hs v1 v3)) → ((((I 79 2) ≤ (v3 + 1)) → K179 v1 (v2 + 1) 0 I) ∧ ((¬ (I 79 2) ≤ (v3 + 1)) → K179 v1 (v2 + 1) (v3 + 1) I))) ∧ ((hs v1 v3) → (vp_in v3 8 ∧ ((((I 90 v3.toNatClampNeg) < 2) → ((((I 79 2) ≤ (v3 + 1)) → K179 v1 (v2 + 1) 0 I) ∧ ((¬ (I 79 2) ≤ (v3 + 1)) → K179 v1 (v2 + 1) (v3 + 1) I))) ∧ ((¬ (I 90 v3.toNatClampNeg) < 2) → (vp_in v3 8 ∧ (((3 < (I 90 v3.toNatClampNeg)) → ((((I 79 2) ≤ (v3 + 1)) → K179 v1 (v2 + 1) 0 I) ∧ ((¬ (I 79 2) ≤ (v3 + 1)) → K179 v1 (v2 + 1) (v3 + 1) I))) ∧ ((¬ 3 < (I 90 v3.toNatClampNeg)) → (((jX12_takesK I v3 (-1))) ∧ ((((jX12_takes I v3 (-1)) = 0) → ((((I 79 2) ≤ (v3 + 1)) → K179 v1 (v2 + 1) 0 I) ∧ ((¬ (I 79 2) ≤ (v3 + 1)) → K179 v1 (v2 + 1) (v3 + 1) I))) ∧ ((¬ (jX12_takes I v3 (-1)) = 0) → (vp_in v3 8 ∧ ((((I 101 v3.toNatClampNeg) ≤ 0) → ((((I 79 2) ≤ (v3 + 1)) → K179 v1 (v2 + 1) 0 I) ∧ ((¬ (I 79 2) ≤ (v3 + 1)) → K179 v1 (v2 + 1) (v3 + 1) I))) ∧ ((¬ (I 101 v3.toNatClampNeg) ≤ 0) → (vp_in v3 8 ∧ (vp_in v3 8 ∧ ((((I 93 v3.toNatClampNeg) ≤ (I 105 v3.toNatClampNeg)) → ((((I 79 2) ≤ (v3 + 1)) → K179 v1 (v2 + 1) 0 I) ∧ ((¬ (I 79 2) ≤ (v3 + 1)) → K179 v1 (v2 + 1) (v3 + 1) I))) ∧ ((¬ (I 93 v3.toNatClampNeg) ≤ (I 105 v3.toNatClampNeg)) → (((jX12_leftInK I (jX12_takes I v3 (-1)))) ∧ ((((jX12_leftIn I (jX12_takes I v3 (-1))) ≤ 0) → ((((I 79 2) ≤ (v3 + 1)) → K179 v1 (v2 + 1) 0 I) ∧ ((¬ (I 79 2) ≤ (v3 + 1)) → K179 v1 (v2 + 1) (v3 + 1) I))) ∧ ((¬ (jX12_leftIn I (jX12_takes I v3 (-1))) ≤ 0) → (((jX12_passesK I v3 (jX12_takes I v3 (-1)) 1)) ∧ (vp_in v3 8 ∧ (vp_in v3 8 ∧ (((((jX12_passes I v3 (jX12_takes I v3 (-1)) 1) 79 2) ≤ (v3 + 1)) → K179 v1 0 0 (up2 (up2 (jX12_passes I v3 (jX12_takes I v3 (-1)) 1) 103 v3.toNatClampNeg (((jX12_passes I v3 (jX12_takes I v3 (-1)) 1) 103 v3.toNatClampNeg) + 1)) 79 8 v3)) ∧ ((¬ ((jX12_passes I v3 (jX12_takes I v3 (-1)) 1) 79 2) ≤ (v3 + 1)) → K179 v1 0 (v3 + 1) (up2 (up2 (jX12_passes I v3 (jX12_takes I v3 (-1)) 1) 103 v3.toNatClampNeg (((jX12_passes I v3 (jX12_takes I v3 (-1)) 1) 103 v3.toNatClampNeg) + 1)) 79 8 v3))))))))))))))))))))))))))))))
set_option maxHeartbeats 4000000 in
set_option maxRecDepth 100000 in
theorem sX12_oneTick_0 (d : Nat) {T : Topo} (hT : Lay T)     {Q : Topo → IM → Prop} {K2 : Int32 → IM → Prop} {K25 : Int32 → IM → Prop} {K57 : Int32 → Int32 → IM → Prop} {K179 : Int32 → Int32 → Int32 → IM → Prop} (hK2 : ∀ (v1 : Int32) (I : IM), K2 v1 I → J (d + 3) mX12_oneTick (PV Q) 0 0 2 [some (.ref 79), some (.int v1), none, none, none] [] T I 0 0) (hK25 : ∀ (v1 : Int32) (I : IM), K25 v1 I → J (d + 3) mX12_oneTick (PV Q) 0 0 25 [some (.ref 79), some (.int v1), none, none, none] [] T I 0 0) (hK57 : ∀ (v1 v2 : Int32) (I : IM), K57 v1 v2 I → J (d + 3) mX12_oneTick (PV Q) 0 0 57 [some (.ref 79), some (.int v1), some (.int v2), none, none] [] T I 0 0) (hK179 : ∀ (v1 v2 v3 : Int32) (I : IM), K179 v1 v2 v3 I → J (d + 3) mX12_oneTick (PV Q) 0 0 179 [some (.ref 79), some (.int v1), some (.int v2), some (.int v3), none] [] T I 0 0) (I : IM) (h : fX12_oneTick_0 T  Q K2 K25 K57 K179 I) : J (d + 3) mX12_oneTick (PV Q) 0 0 0 [some (.ref 79), none, none, none, none] [] T I 0 0 := by
  unfold fX12_oneTick_0 at h
  refine J.iconst (v := 0) dX12_oneTick_0 (by decide) ?_
  refine J.istore_n (ls' := [some (.ref 79), some (.int 0), none, none, none]) dX12_oneTick_1 rfl rfl rfl ?_
  exact J.weaken (ls' := [some (.ref 79), some (.int 0), none, none, none]) (And.intro rfl (And.intro rfl trivial)) (hK2 0 I h)
set_option maxHeartbeats 4000000 in
set_option maxRecDepth 100000 in
theorem sX12_oneTick_2 (d : Nat) {T : Topo} (hT : Lay T)     {Q : Topo → IM → Prop} {K2 : Int32 → IM → Prop} {K25 : Int32 → IM → Prop} {K57 : Int32 → Int32 → IM → Prop} {K179 : Int32 → Int32 → Int32 → IM → Prop} (hK2 : ∀ (v1 : Int32) (I : IM), K2 v1 I → J (d + 3) mX12_oneTick (PV Q) 0 0 2 [some (.ref 79), some (.int v1), none, none, none] [] T I 0 0) (hK25 : ∀ (v1 : Int32) (I : IM), K25 v1 I → J (d + 3) mX12_oneTick (PV Q) 0 0 25 [some (.ref 79), some (.int v1), none, none, none] [] T I 0 0) (hK57 : ∀ (v1 v2 : Int32) (I : IM), K57 v1 v2 I → J (d + 3) mX12_oneTick (PV Q) 0 0 57 [some (.ref 79), some (.int v1), some (.int v2), none, none] [] T I 0 0) (hK179 : ∀ (v1 v2 v3 : Int32) (I : IM), K179 v1 v2 v3 I → J (d + 3) mX12_oneTick (PV Q) 0 0 179 [some (.ref 79), some (.int v1), some (.int v2), some (.int v3), none] [] T I 0 0) (v1 : Int32) (I : IM) (h : fX12_oneTick_2 T  Q K2 K25 K57 K179 v1 I) : J (d + 3) mX12_oneTick (PV Q) 0 0 2 [some (.ref 79), some (.int v1), none, none, none] [] T I 0 0 := by
  unfold fX12_oneTick_2 at h
  refine J.iload_n dX12_oneTick_2 rfl rfl ?_
  refine J.aload_n dX12_oneTick_3 rfl rfl ?_
  refine J.getI dX12_oneTick_4 fX12_193 (hT.k 79 rfl) rfl ?_
  refine J.icmp_ge (tgt := 23) dX12_oneTick_7 (by decide) (fun hc1 => ?_) (fun hc1 => ?_)
  · have h := h.1 hc1
    refine J.iconst (v := 0) dX12_oneTick_23 (by decide) ?_
    refine J.istore_n (ls' := [some (.ref 79), some (.int 0), none, none, none]) dX12_oneTick_24 rfl rfl rfl ?_
    exact J.weaken (ls' := [some (.ref 79), some (.int 0), none, none, none]) (And.intro rfl (And.intro rfl trivial)) (hK25 0 I h)
  · have h := h.2 hc1
    refine J.aload_n dX12_oneTick_10 rfl rfl ?_
    refine J.getR (r := 87) dX12_oneTick_11 fX12_35 (hT.k 79 rfl) rfl (hT.r 79 16 rfl rfl) ?_
    refine J.iload_n dX12_oneTick_14 rfl rfl ?_
    refine J.iconst (v := 0) dX12_oneTick_15 (by decide) ?_
    obtain ⟨hs2, h⟩ := h
    refine J.iast dX12_oneTick_16 (hT.k 87 rfl) (hT.l 87 rfl) hs2 ?_
    refine J.iinc (v := (v1 + 1)) (ls' := [some (.ref 79), some (.int (v1 + 1)), none, none, none]) dX12_oneTick_17 rfl (by rfl) rfl ?_
    refine J.goto (tgt := 2) dX12_oneTick_20 (by decide) ?_
    exact J.weaken (ls' := [some (.ref 79), some (.int (v1 + 1)), none, none, none]) (And.intro rfl (And.intro rfl trivial)) (hK2 (v1 + 1) (up2 I 87 v1.toNatClampNeg 0) h)
set_option maxHeartbeats 4000000 in
set_option maxRecDepth 100000 in
theorem sX12_oneTick_25 (d : Nat) {T : Topo} (hT : Lay T)     {Q : Topo → IM → Prop} {K2 : Int32 → IM → Prop} {K25 : Int32 → IM → Prop} {K57 : Int32 → Int32 → IM → Prop} {K179 : Int32 → Int32 → Int32 → IM → Prop} (hK2 : ∀ (v1 : Int32) (I : IM), K2 v1 I → J (d + 3) mX12_oneTick (PV Q) 0 0 2 [some (.ref 79), some (.int v1), none, none, none] [] T I 0 0) (hK25 : ∀ (v1 : Int32) (I : IM), K25 v1 I → J (d + 3) mX12_oneTick (PV Q) 0 0 25 [some (.ref 79), some (.int v1), none, none, none] [] T I 0 0) (hK57 : ∀ (v1 v2 : Int32) (I : IM), K57 v1 v2 I → J (d + 3) mX12_oneTick (PV Q) 0 0 57 [some (.ref 79), some (.int v1), some (.int v2), none, none] [] T I 0 0) (hK179 : ∀ (v1 v2 v3 : Int32) (I : IM), K179 v1 v2 v3 I → J (d + 3) mX12_oneTick (PV Q) 0 0 179 [some (.ref 79), some (.int v1), some (.int v2), some (.int v3), none] [] T I 0 0) (v1 : Int32) (I : IM) (h : fX12_oneTick_25 T  Q K2 K25 K57 K179 v1 I) : J (d + 3) mX12_oneTick (PV Q) 0 0 25 [some (.ref 79), some (.int v1), none, none, none] [] T I 0 0 := by
  unfold fX12_oneTick_25 at h
  refine J.iload_n dX12_oneTick_25 rfl rfl ?_
  refine J.aload_n dX12_oneTick_26 rfl rfl ?_
  refine J.getI dX12_oneTick_27 fX12_196 (hT.k 79 rfl) rfl ?_
  refine J.icmp_ge (tgt := 46) dX12_oneTick_30 (by decide) (fun hc1 => ?_) (fun hc1 => ?_)
  · have h := h.1 hc1
    refine J.aload_n dX12_oneTick_46 rfl rfl ?_
    refine J.aload_n dX12_oneTick_47 rfl rfl ?_
    refine J.getI dX12_oneTick_48 fX12_335 (hT.k 79 rfl) rfl ?_
    obtain ⟨hp2, h⟩ := h
    refine J.callVP (k := 79) (as := [.int (I 79 3)]) (rest := []) dX12_oneTick_51 kX12_countingAt vX12_countingAt lX12_256 (hT.k 79 rfl) rfl rfl rfl rfl rfl (by omega) (Nat.le_refl _) (Nat.le_refl _) (qX12_countingAt (d + 0) hT (I 79 3) hp2) ?_
    refine J.istore_n (ls' := [some (.ref 79), some (.int (jX12_countingAt I (I 79 3))), none, none, none]) dX12_oneTick_54 rfl rfl rfl ?_
    refine J.iconst (v := 0) dX12_oneTick_55 (by decide) ?_
    refine J.istore_n (ls' := [some (.ref 79), some (.int (jX12_countingAt I (I 79 3))), some (.int 0), none, none]) dX12_oneTick_56 rfl rfl rfl ?_
    exact J.weaken (ls' := [some (.ref 79), some (.int (jX12_countingAt I (I 79 3))), some (.int 0), none, none]) (And.intro rfl (And.intro rfl (And.intro rfl trivial))) (hK57 (jX12_countingAt I (I 79 3)) 0 I h)
  · have h := h.2 hc1
    refine J.aload_n dX12_oneTick_33 rfl rfl ?_
    refine J.getR (r := 105) dX12_oneTick_34 fX12_90 (hT.k 79 rfl) rfl (hT.r 79 34 rfl rfl) ?_
    refine J.iload_n dX12_oneTick_37 rfl rfl ?_
    refine J.iconst (v := 0) dX12_oneTick_38 (by decide) ?_
    obtain ⟨hs3, h⟩ := h
    refine J.iast dX12_oneTick_39 (hT.k 105 rfl) (hT.l 105 rfl) hs3 ?_
    refine J.iinc (v := (v1 + 1)) (ls' := [some (.ref 79), some (.int (v1 + 1)), none, none, none]) dX12_oneTick_40 rfl (by rfl) rfl ?_
    refine J.goto (tgt := 25) dX12_oneTick_43 (by decide) ?_
    exact J.weaken (ls' := [some (.ref 79), some (.int (v1 + 1)), none, none, none]) (And.intro rfl (And.intro rfl trivial)) (hK25 (v1 + 1) (up2 I 105 v1.toNatClampNeg 0) h)
set_option maxHeartbeats 4000000 in
set_option maxRecDepth 100000 in
theorem sX12_oneTick_57 (d : Nat) {T : Topo} (hT : Lay T)     {Q : Topo → IM → Prop} {K2 : Int32 → IM → Prop} {K25 : Int32 → IM → Prop} {K57 : Int32 → Int32 → IM → Prop} {K179 : Int32 → Int32 → Int32 → IM → Prop} (hK2 : ∀ (v1 : Int32) (I : IM), K2 v1 I → J (d + 3) mX12_oneTick (PV Q) 0 0 2 [some (.ref 79), some (.int v1), none, none, none] [] T I 0 0) (hK25 : ∀ (v1 : Int32) (I : IM), K25 v1 I → J (d + 3) mX12_oneTick (PV Q) 0 0 25 [some (.ref 79), some (.int v1), none, none, none] [] T I 0 0) (hK57 : ∀ (v1 v2 : Int32) (I : IM), K57 v1 v2 I → J (d + 3) mX12_oneTick (PV Q) 0 0 57 [some (.ref 79), some (.int v1), some (.int v2), none, none] [] T I 0 0) (hK179 : ∀ (v1 v2 v3 : Int32) (I : IM), K179 v1 v2 v3 I → J (d + 3) mX12_oneTick (PV Q) 0 0 179 [some (.ref 79), some (.int v1), some (.int v2), some (.int v3), none] [] T I 0 0) (v1 v2 : Int32) (I : IM) (h : fX12_oneTick_57 T  Q K2 K25 K57 K179 v1 v2 I) : J (d + 3) mX12_oneTick (PV Q) 0 0 57 [some (.ref 79), some (.int v1), some (.int v2), none, none] [] T I 0 0 := by
  unfold fX12_oneTick_57 at h
  refine J.iload_n dX12_oneTick_57 rfl rfl ?_
  refine J.aload_n dX12_oneTick_58 rfl rfl ?_
  refine J.getI dX12_oneTick_59 fX12_196 (hT.k 79 rfl) rfl ?_
  refine J.icmp_ge (tgt := 153) dX12_oneTick_62 (by decide) (fun hc1 => ?_) (fun hc1 => ?_)
  · have h := h.1 hc1
    refine J.iconst (v := 0) dX12_oneTick_153 (by decide) ?_
    refine J.istore_n (ls' := [some (.ref 79), some (.int v1), some (.int 0), none, none]) dX12_oneTick_154 rfl rfl rfl ?_
    refine J.aload_n dX12_oneTick_155 rfl rfl ?_
    refine J.getI dX12_oneTick_156 fX12_7 (hT.k 79 rfl) rfl ?_
    refine J.iconst (v := 1) dX12_oneTick_159 (by decide) ?_
    refine J.iadd dX12_oneTick_160 ?_
    refine J.aload_n dX12_oneTick_161 rfl rfl ?_
    refine J.atpc (pc' := 162) rfl ?_
    refine J.getI dX12_oneTick_162 fX12_196 (hT.k 79 rfl) rfl ?_
    refine J.icmp_ge (tgt := 177) dX12_oneTick_165 (by decide) (fun hc2 => ?_) (fun hc2 => ?_)
    · have h := h.1 hc2
      refine J.iconst (v := 0) dX12_oneTick_177 (by decide) ?_
      refine J.istore_n (ls' := [some (.ref 79), some (.int v1), some (.int 0), some (.int 0), none]) dX12_oneTick_178 rfl rfl rfl ?_
      exact J.weaken (ls' := [some (.ref 79), some (.int v1), some (.int 0), some (.int 0), none]) (And.intro rfl (And.intro rfl (And.intro rfl (And.intro rfl trivial)))) (hK179 v1 0 0 I h)
    · have h := h.2 hc2
      refine J.aload_n dX12_oneTick_168 rfl rfl ?_
      refine J.getI dX12_oneTick_169 fX12_7 (hT.k 79 rfl) rfl ?_
      refine J.iconst (v := 1) dX12_oneTick_172 (by decide) ?_
      refine J.iadd dX12_oneTick_173 ?_
      refine J.goto (tgt := 178) dX12_oneTick_174 (by decide) ?_
      refine J.istore_n (ls' := [some (.ref 79), some (.int v1), some (.int 0), some (.int ((I 79 8) + 1)), none]) dX12_oneTick_178 rfl rfl rfl ?_
      exact J.weaken (ls' := [some (.ref 79), some (.int v1), some (.int 0), some (.int ((I 79 8) + 1)), none]) (And.intro rfl (And.intro rfl (And.intro rfl (And.intro rfl trivial)))) (hK179 v1 0 ((I 79 8) + 1) I h)
  · have h := h.2 hc1
    refine J.iload_n dX12_oneTick_65 rfl rfl ?_
    refine J.iload_n dX12_oneTick_66 rfl rfl ?_
    refine J.callSP (as := [.int v1, .int v2]) (rest := []) dX12_oneTick_67 kX12_has vX12_has lX12_212 rfl rfl rfl (by omega) (Nat.le_refl _) (Nat.le_refl _) (qX12_has (d + 2) hT v1 v2 ) ?_
    refine J.bz_eq (tgt := 82) dX12_oneTick_70 (by decide) (fun hc3 => ?_) (fun hc3 => ?_)
    · have h := h.1 hc3
      refine J.iconst (v := 0) dX12_oneTick_82 (by decide) ?_
      refine J.istore_n (ls' := [some (.ref 79), some (.int v1), some (.int v2), some (.int 0), none]) dX12_oneTick_83 rfl rfl rfl ?_
      refine J.iload_n dX12_oneTick_84 rfl rfl ?_
      refine J.if_ne (tgt := 91) dX12_oneTick_85 (by decide) (fun hc => absurd (by decide) hc) (fun hc => ?_)
      refine J.goto (tgt := 147) dX12_oneTick_88 (by decide) ?_
      refine J.iinc (v := (v2 + 1)) (ls' := [some (.ref 79), some (.int v1), some (.int (v2 + 1)), some (.int 0), none]) dX12_oneTick_147 rfl (by rfl) rfl ?_
      refine J.goto (tgt := 57) dX12_oneTick_150 (by decide) ?_
      exact J.weaken (ls' := [some (.ref 79), some (.int v1), some (.int (v2 + 1)), none, none]) (And.intro rfl (And.intro rfl (And.intro rfl trivial))) (hK57 v1 (v2 + 1) I h)
    · have h := h.2 hc3
      refine J.aload_n dX12_oneTick_73 rfl rfl ?_
      refine J.iload_n dX12_oneTick_74 rfl rfl ?_
      refine J.iconst (v := (-1)) dX12_oneTick_75 (by decide) ?_
      obtain ⟨hp4, h⟩ := h
      refine J.callVP (k := 79) (as := [.int v2, .int (-1)]) (rest := []) dX12_oneTick_76 kX12_takes vX12_takes lX12_298 (hT.k 79 rfl) rfl rfl rfl rfl rfl (by omega) (Nat.le_refl _) (Nat.le_refl _) (qX12_takes (d + 0) hT v2 (-1) hp4) ?_
      refine J.goto (tgt := 83) dX12_oneTick_79 (by decide) ?_
      refine J.istore_n (ls' := [some (.ref 79), some (.int v1), some (.int v2), some (.int (jX12_takes I v2 (-1))), none]) dX12_oneTick_83 rfl rfl rfl ?_
      refine J.iload_n dX12_oneTick_84 rfl rfl ?_
      refine J.if_ne (tgt := 91) dX12_oneTick_85 (by decide) (fun hc5 => ?_) (fun hc5 => ?_)
      · have h := h.1 hc5
        refine J.aload_n dX12_oneTick_91 rfl rfl ?_
        refine J.getR (r := 101) dX12_oneTick_92 fX12_78 (hT.k 79 rfl) rfl (hT.r 79 30 rfl rfl) ?_
        refine J.iload_n dX12_oneTick_95 rfl rfl ?_
        obtain ⟨hs6, h⟩ := h
        refine J.iald dX12_oneTick_96 (hT.k 101 rfl) (hT.l 101 rfl) hs6 ?_
        refine J.aload_n dX12_oneTick_97 rfl rfl ?_
        refine J.iload_n dX12_oneTick_98 rfl rfl ?_
        obtain ⟨hp7, h⟩ := h
        refine J.callVP (k := 79) (as := [.int v2]) (rest := [.int (I 101 v2.toNatClampNeg)]) dX12_oneTick_99 kX12_need vX12_need lX12_243 (hT.k 79 rfl) rfl rfl rfl rfl rfl (by omega) (Nat.le_refl _) (Nat.le_refl _) (qX12_need (d + 2) hT v2 hp7) ?_
        refine J.icmp_ge (tgt := 114) dX12_oneTick_102 (by decide) (fun hc8 => ?_) (fun hc8 => ?_)
        · have h := h.1 hc8
          refine J.aload_n dX12_oneTick_114 rfl rfl ?_
          refine J.iload_n dX12_oneTick_115 rfl rfl ?_
          obtain ⟨hp9, h⟩ := h
          refine J.callVP (k := 79) (as := [.int v2]) (rest := []) dX12_oneTick_116 kX12_need vX12_need lX12_243 (hT.k 79 rfl) rfl rfl rfl rfl rfl (by omega) (Nat.le_refl _) (Nat.le_refl _) (qX12_need (d + 2) hT v2 hp9) ?_
          refine J.istore (ls' := [some (.ref 79), some (.int v1), some (.int v2), some (.int (jX12_takes I v2 (-1))), some (.int (jX12_need I v2))]) dX12_oneTick_119 rfl rfl ?_
          refine J.aload_n dX12_oneTick_121 rfl rfl ?_
          refine J.iload_n dX12_oneTick_122 rfl rfl ?_
          refine J.iload_n dX12_oneTick_123 rfl rfl ?_
          refine J.aload_n dX12_oneTick_124 rfl rfl ?_
          refine J.iload_n dX12_oneTick_125 rfl rfl ?_
          obtain ⟨hp10, h⟩ := h
          refine J.callVP (k := 79) (as := [.int (jX12_takes I v2 (-1))]) (rest := [.int (jX12_takes I v2 (-1)), .int v2, .ref 79]) dX12_oneTick_126 kX12_leftIn vX12_leftIn lX12_338 (hT.k 79 rfl) rfl rfl rfl rfl rfl (by omega) (Nat.le_refl _) (Nat.le_refl _) (qX12_leftIn (d + 1) hT (jX12_takes I v2 (-1)) hp10) ?_
          refine J.iload dX12_oneTick_129 rfl ?_
          refine J.icmp_ge (tgt := 142) dX12_oneTick_131 (by decide) (fun hc11 => ?_) (fun hc11 => ?_)
          · have h := h.1 hc11
            refine J.iload dX12_oneTick_142 rfl ?_
            obtain ⟨hp12, h⟩ := h
            refine J.callVD (k := 79) (as := [.int v2, .int (jX12_takes I v2 (-1)), .int (jX12_need I v2)]) (rest := []) dX12_oneTick_144 kX12_passes vX12_passes lX12_341 (hT.k 79 rfl) rfl rfl rfl rfl rfl (by omega) (Nat.le_refl _) (Nat.le_refl _) (qX12_passes (d + 1) hT v2 (jX12_takes I v2 (-1)) (jX12_need I v2) hp12) ?_
            refine J.iinc (v := (v2 + 1)) (ls' := [some (.ref 79), some (.int v1), some (.int (v2 + 1)), some (.int (jX12_takes I v2 (-1))), some (.int (jX12_need I v2))]) dX12_oneTick_147 rfl (by rfl) rfl ?_
            refine J.goto (tgt := 57) dX12_oneTick_150 (by decide) ?_
            exact J.weaken (ls' := [some (.ref 79), some (.int v1), some (.int (v2 + 1)), none, none]) (And.intro rfl (And.intro rfl (And.intro rfl trivial))) (hK57 v1 (v2 + 1) (jX12_passes I v2 (jX12_takes I v2 (-1)) (jX12_need I v2)) h)
          · have h := h.2 hc11
            refine J.aload_n dX12_oneTick_134 rfl rfl ?_
            refine J.iload_n dX12_oneTick_135 rfl rfl ?_
            obtain ⟨hp13, h⟩ := h
            refine J.callVP (k := 79) (as := [.int (jX12_takes I v2 (-1))]) (rest := [.int (jX12_takes I v2 (-1)), .int v2, .ref 79]) dX12_oneTick_136 kX12_leftIn vX12_leftIn lX12_338 (hT.k 79 rfl) rfl rfl rfl rfl rfl (by omega) (Nat.le_refl _) (Nat.le_refl _) (qX12_leftIn (d + 1) hT (jX12_takes I v2 (-1)) hp13) ?_
            refine J.goto (tgt := 144) dX12_oneTick_139 (by decide) ?_
            obtain ⟨hp14, h⟩ := h
            refine J.callVD (k := 79) (as := [.int v2, .int (jX12_takes I v2 (-1)), .int (jX12_leftIn I (jX12_takes I v2 (-1)))]) (rest := []) dX12_oneTick_144 kX12_passes vX12_passes lX12_341 (hT.k 79 rfl) rfl rfl rfl rfl rfl (by omega) (Nat.le_refl _) (Nat.le_refl _) (qX12_passes (d + 1) hT v2 (jX12_takes I v2 (-1)) (jX12_leftIn I (jX12_takes I v2 (-1))) hp14) ?_
            refine J.iinc (v := (v2 + 1)) (ls' := [some (.ref 79), some (.int v1), some (.int (v2 + 1)), some (.int (jX12_takes I v2 (-1))), some (.int (jX12_need I v2))]) dX12_oneTick_147 rfl (by rfl) rfl ?_
            refine J.goto (tgt := 57) dX12_oneTick_150 (by decide) ?_
            exact J.weaken (ls' := [some (.ref 79), some (.int v1), some (.int (v2 + 1)), none, none]) (And.intro rfl (And.intro rfl (And.intro rfl trivial))) (hK57 v1 (v2 + 1) (jX12_passes I v2 (jX12_takes I v2 (-1)) (jX12_leftIn I (jX12_takes I v2 (-1)))) h)
        · have h := h.2 hc8
          refine J.aload_n dX12_oneTick_105 rfl rfl ?_
          refine J.getR (r := 101) dX12_oneTick_106 fX12_78 (hT.k 79 rfl) rfl (hT.r 79 30 rfl rfl) ?_
          refine J.iload_n dX12_oneTick_109 rfl rfl ?_
          obtain ⟨hs15, h⟩ := h
          refine J.iald dX12_oneTick_110 (hT.k 101 rfl) (hT.l 101 rfl) hs15 ?_
          refine J.goto (tgt := 119) dX12_oneTick_111 (by decide) ?_
          refine J.istore (ls' := [some (.ref 79), some (.int v1), some (.int v2), some (.int (jX12_takes I v2 (-1))), some (.int (I 101 v2.toNatClampNeg))]) dX12_oneTick_119 rfl rfl ?_
          refine J.aload_n dX12_oneTick_121 rfl rfl ?_
          refine J.iload_n dX12_oneTick_122 rfl rfl ?_
          refine J.iload_n dX12_oneTick_123 rfl rfl ?_
          refine J.aload_n dX12_oneTick_124 rfl rfl ?_
          refine J.iload_n dX12_oneTick_125 rfl rfl ?_
          refine J.atpc (pc' := 126) rfl ?_
          obtain ⟨hp16, h⟩ := h
          refine J.callVP (k := 79) (as := [.int (jX12_takes I v2 (-1))]) (rest := [.int (jX12_takes I v2 (-1)), .int v2, .ref 79]) dX12_oneTick_126 kX12_leftIn vX12_leftIn lX12_338 (hT.k 79 rfl) rfl rfl rfl rfl rfl (by omega) (Nat.le_refl _) (Nat.le_refl _) (qX12_leftIn (d + 1) hT (jX12_takes I v2 (-1)) hp16) ?_
          refine J.iload dX12_oneTick_129 rfl ?_
          refine J.icmp_ge (tgt := 142) dX12_oneTick_131 (by decide) (fun hc17 => ?_) (fun hc17 => ?_)
          · have h := h.1 hc17
            refine J.iload dX12_oneTick_142 rfl ?_
            obtain ⟨hp18, h⟩ := h
            refine J.callVD (k := 79) (as := [.int v2, .int (jX12_takes I v2 (-1)), .int (I 101 v2.toNatClampNeg)]) (rest := []) dX12_oneTick_144 kX12_passes vX12_passes lX12_341 (hT.k 79 rfl) rfl rfl rfl rfl rfl (by omega) (Nat.le_refl _) (Nat.le_refl _) (qX12_passes (d + 1) hT v2 (jX12_takes I v2 (-1)) (I 101 v2.toNatClampNeg) hp18) ?_
            refine J.iinc (v := (v2 + 1)) (ls' := [some (.ref 79), some (.int v1), some (.int (v2 + 1)), some (.int (jX12_takes I v2 (-1))), some (.int (I 101 v2.toNatClampNeg))]) dX12_oneTick_147 rfl (by rfl) rfl ?_
            refine J.goto (tgt := 57) dX12_oneTick_150 (by decide) ?_
            exact J.weaken (ls' := [some (.ref 79), some (.int v1), some (.int (v2 + 1)), none, none]) (And.intro rfl (And.intro rfl (And.intro rfl trivial))) (hK57 v1 (v2 + 1) (jX12_passes I v2 (jX12_takes I v2 (-1)) (I 101 v2.toNatClampNeg)) h)
          · have h := h.2 hc17
            refine J.aload_n dX12_oneTick_134 rfl rfl ?_
            refine J.iload_n dX12_oneTick_135 rfl rfl ?_
            obtain ⟨hp19, h⟩ := h
            refine J.callVP (k := 79) (as := [.int (jX12_takes I v2 (-1))]) (rest := [.int (jX12_takes I v2 (-1)), .int v2, .ref 79]) dX12_oneTick_136 kX12_leftIn vX12_leftIn lX12_338 (hT.k 79 rfl) rfl rfl rfl rfl rfl (by omega) (Nat.le_refl _) (Nat.le_refl _) (qX12_leftIn (d + 1) hT (jX12_takes I v2 (-1)) hp19) ?_
            refine J.goto (tgt := 144) dX12_oneTick_139 (by decide) ?_
            obtain ⟨hp20, h⟩ := h
            refine J.callVD (k := 79) (as := [.int v2, .int (jX12_takes I v2 (-1)), .int (jX12_leftIn I (jX12_takes I v2 (-1)))]) (rest := []) dX12_oneTick_144 kX12_passes vX12_passes lX12_341 (hT.k 79 rfl) rfl rfl rfl rfl rfl (by omega) (Nat.le_refl _) (Nat.le_refl _) (qX12_passes (d + 1) hT v2 (jX12_takes I v2 (-1)) (jX12_leftIn I (jX12_takes I v2 (-1))) hp20) ?_
            refine J.iinc (v := (v2 + 1)) (ls' := [some (.ref 79), some (.int v1), some (.int (v2 + 1)), some (.int (jX12_takes I v2 (-1))), some (.int (I 101 v2.toNatClampNeg))]) dX12_oneTick_147 rfl (by rfl) rfl ?_
            refine J.goto (tgt := 57) dX12_oneTick_150 (by decide) ?_
            exact J.weaken (ls' := [some (.ref 79), some (.int v1), some (.int (v2 + 1)), none, none]) (And.intro rfl (And.intro rfl (And.intro rfl trivial))) (hK57 v1 (v2 + 1) (jX12_passes I v2 (jX12_takes I v2 (-1)) (jX12_leftIn I (jX12_takes I v2 (-1)))) h)
      · have h := h.2 hc5
        refine J.goto (tgt := 147) dX12_oneTick_88 (by decide) ?_
        refine J.iinc (v := (v2 + 1)) (ls' := [some (.ref 79), some (.int v1), some (.int (v2 + 1)), some (.int (jX12_takes I v2 (-1))), none]) dX12_oneTick_147 rfl (by rfl) rfl ?_
        refine J.goto (tgt := 57) dX12_oneTick_150 (by decide) ?_
        exact J.weaken (ls' := [some (.ref 79), some (.int v1), some (.int (v2 + 1)), none, none]) (And.intro rfl (And.intro rfl (And.intro rfl trivial))) (hK57 v1 (v2 + 1) I h)
set_option maxHeartbeats 4000000 in
set_option maxRecDepth 100000 in
theorem sX12_oneTick_179 (d : Nat) {T : Topo} (hT : Lay T)     {Q : Topo → IM → Prop} {K2 : Int32 → IM → Prop} {K25 : Int32 → IM → Prop} {K57 : Int32 → Int32 → IM → Prop} {K179 : Int32 → Int32 → Int32 → IM → Prop} (hK2 : ∀ (v1 : Int32) (I : IM), K2 v1 I → J (d + 3) mX12_oneTick (PV Q) 0 0 2 [some (.ref 79), some (.int v1), none, none, none] [] T I 0 0) (hK25 : ∀ (v1 : Int32) (I : IM), K25 v1 I → J (d + 3) mX12_oneTick (PV Q) 0 0 25 [some (.ref 79), some (.int v1), none, none, none] [] T I 0 0) (hK57 : ∀ (v1 v2 : Int32) (I : IM), K57 v1 v2 I → J (d + 3) mX12_oneTick (PV Q) 0 0 57 [some (.ref 79), some (.int v1), some (.int v2), none, none] [] T I 0 0) (hK179 : ∀ (v1 v2 v3 : Int32) (I : IM), K179 v1 v2 v3 I → J (d + 3) mX12_oneTick (PV Q) 0 0 179 [some (.ref 79), some (.int v1), some (.int v2), some (.int v3), none] [] T I 0 0) (v1 v2 v3 : Int32) (I : IM) (h : fX12_oneTick_179 T  Q K2 K25 K57 K179 v1 v2 v3 I) : J (d + 3) mX12_oneTick (PV Q) 0 0 179 [some (.ref 79), some (.int v1), some (.int v2), some (.int v3), none] [] T I 0 0 := by
  unfold fX12_oneTick_179 at h
  refine J.iload_n dX12_oneTick_179 rfl rfl ?_
  refine J.aload_n dX12_oneTick_180 rfl rfl ?_
  refine J.getI dX12_oneTick_181 fX12_196 (hT.k 79 rfl) rfl ?_
  refine J.icmp_ge (tgt := 314) dX12_oneTick_184 (by decide) (fun hc1 => ?_) (fun hc1 => ?_)
  · have h := h.1 hc1
    refine J.aload_n dX12_oneTick_314 rfl rfl ?_
    refine J.aload_n dX12_oneTick_315 rfl rfl ?_
    refine J.getI dX12_oneTick_316 fX12_335 (hT.k 79 rfl) rfl ?_
    refine J.iconst (v := 1) dX12_oneTick_319 (by decide) ?_
    refine J.iadd dX12_oneTick_320 ?_
    refine J.bipush (v := 24) dX12_oneTick_321 (by decide) ?_
    refine J.irem dX12_oneTick_323 (by decide) ?_
    refine J.atpc (pc' := 324) rfl ?_
    refine J.putI dX12_oneTick_324 fX12_335 (hT.k 79 rfl) rfl ?_
    exact J.vretQ dX12_oneTick_327 rfl (Nat.le_refl _) (Nat.le_refl _) h
  · have h := h.2 hc1
    refine J.iload_n dX12_oneTick_187 rfl rfl ?_
    refine J.iload_n dX12_oneTick_188 rfl rfl ?_
    refine J.callSP (as := [.int v1, .int v3]) (rest := []) dX12_oneTick_189 kX12_has vX12_has lX12_212 rfl rfl rfl (by omega) (Nat.le_refl _) (Nat.le_refl _) (qX12_has (d + 2) hT v1 v3 ) ?_
    refine J.bz_eq (tgt := 224) dX12_oneTick_192 (by decide) (fun hc2 => ?_) (fun hc2 => ?_)
    · have h := h.1 hc2
      refine J.iconst (v := 0) dX12_oneTick_224 (by decide) ?_
      refine J.istore (ls' := [some (.ref 79), some (.int v1), some (.int v2), some (.int v3), some (.int 0)]) dX12_oneTick_225 rfl rfl ?_
      refine J.iinc (v := (v2 + 1)) (ls' := [some (.ref 79), some (.int v1), some (.int (v2 + 1)), some (.int v3), some (.int 0)]) dX12_oneTick_227 rfl (by rfl) rfl ?_
      refine J.iload dX12_oneTick_230 rfl ?_
      refine J.if_eq (tgt := 293) dX12_oneTick_232 (by decide) (fun hc => ?_) (fun hc => absurd (by decide) hc)
      refine J.iload_n dX12_oneTick_293 rfl rfl ?_
      refine J.iconst (v := 1) dX12_oneTick_294 (by decide) ?_
      refine J.atpc (pc' := 295) rfl ?_
      refine J.iadd dX12_oneTick_295 ?_
      refine J.aload_n dX12_oneTick_296 rfl rfl ?_
      refine J.getI dX12_oneTick_297 fX12_196 (hT.k 79 rfl) rfl ?_
      refine J.icmp_ge (tgt := 309) dX12_oneTick_300 (by decide) (fun hc3 => ?_) (fun hc3 => ?_)
      · have h := h.1 hc3
        refine J.iconst (v := 0) dX12_oneTick_309 (by decide) ?_
        refine J.istore_n (ls' := [some (.ref 79), some (.int v1), some (.int (v2 + 1)), some (.int 0), some (.int 0)]) dX12_oneTick_310 rfl rfl rfl ?_
        refine J.goto (tgt := 179) dX12_oneTick_311 (by decide) ?_
        exact J.weaken (ls' := [some (.ref 79), some (.int v1), some (.int (v2 + 1)), some (.int 0), none]) (And.intro rfl (And.intro rfl (And.intro rfl (And.intro rfl trivial)))) (hK179 v1 (v2 + 1) 0 I h)
      · have h := h.2 hc3
        refine J.iload_n dX12_oneTick_303 rfl rfl ?_
        refine J.iconst (v := 1) dX12_oneTick_304 (by decide) ?_
        refine J.iadd dX12_oneTick_305 ?_
        refine J.goto (tgt := 310) dX12_oneTick_306 (by decide) ?_
        refine J.istore_n (ls' := [some (.ref 79), some (.int v1), some (.int (v2 + 1)), some (.int (v3 + 1)), some (.int 0)]) dX12_oneTick_310 rfl rfl rfl ?_
        refine J.goto (tgt := 179) dX12_oneTick_311 (by decide) ?_
        exact J.weaken (ls' := [some (.ref 79), some (.int v1), some (.int (v2 + 1)), some (.int (v3 + 1)), none]) (And.intro rfl (And.intro rfl (And.intro rfl (And.intro rfl trivial)))) (hK179 v1 (v2 + 1) (v3 + 1) I h)
    · have h := h.2 hc2
      refine J.aload_n dX12_oneTick_195 rfl rfl ?_
      refine J.getR (r := 90) dX12_oneTick_196 fX12_45 (hT.k 79 rfl) rfl (hT.r 79 19 rfl rfl) ?_
      refine J.iload_n dX12_oneTick_199 rfl rfl ?_
      obtain ⟨hs4, h⟩ := h
      refine J.iald dX12_oneTick_200 (hT.k 90 rfl) (hT.l 90 rfl) hs4 ?_
      refine J.iconst (v := 2) dX12_oneTick_201 (by decide) ?_
      refine J.icmp_lt (tgt := 224) dX12_oneTick_202 (by decide) (fun hc5 => ?_) (fun hc5 => ?_)
      · have h := h.1 hc5
        refine J.iconst (v := 0) dX12_oneTick_224 (by decide) ?_
        refine J.istore (ls' := [some (.ref 79), some (.int v1), some (.int v2), some (.int v3), some (.int 0)]) dX12_oneTick_225 rfl rfl ?_
        refine J.iinc (v := (v2 + 1)) (ls' := [some (.ref 79), some (.int v1), some (.int (v2 + 1)), some (.int v3), some (.int 0)]) dX12_oneTick_227 rfl (by rfl) rfl ?_
        refine J.iload dX12_oneTick_230 rfl ?_
        refine J.if_eq (tgt := 293) dX12_oneTick_232 (by decide) (fun hc => ?_) (fun hc => absurd (by decide) hc)
        refine J.iload_n dX12_oneTick_293 rfl rfl ?_
        refine J.iconst (v := 1) dX12_oneTick_294 (by decide) ?_
        refine J.atpc (pc' := 295) rfl ?_
        refine J.iadd dX12_oneTick_295 ?_
        refine J.aload_n dX12_oneTick_296 rfl rfl ?_
        refine J.getI dX12_oneTick_297 fX12_196 (hT.k 79 rfl) rfl ?_
        refine J.icmp_ge (tgt := 309) dX12_oneTick_300 (by decide) (fun hc6 => ?_) (fun hc6 => ?_)
        · have h := h.1 hc6
          refine J.iconst (v := 0) dX12_oneTick_309 (by decide) ?_
          refine J.istore_n (ls' := [some (.ref 79), some (.int v1), some (.int (v2 + 1)), some (.int 0), some (.int 0)]) dX12_oneTick_310 rfl rfl rfl ?_
          refine J.goto (tgt := 179) dX12_oneTick_311 (by decide) ?_
          exact J.weaken (ls' := [some (.ref 79), some (.int v1), some (.int (v2 + 1)), some (.int 0), none]) (And.intro rfl (And.intro rfl (And.intro rfl (And.intro rfl trivial)))) (hK179 v1 (v2 + 1) 0 I h)
        · have h := h.2 hc6
          refine J.iload_n dX12_oneTick_303 rfl rfl ?_
          refine J.iconst (v := 1) dX12_oneTick_304 (by decide) ?_
          refine J.iadd dX12_oneTick_305 ?_
          refine J.goto (tgt := 310) dX12_oneTick_306 (by decide) ?_
          refine J.istore_n (ls' := [some (.ref 79), some (.int v1), some (.int (v2 + 1)), some (.int (v3 + 1)), some (.int 0)]) dX12_oneTick_310 rfl rfl rfl ?_
          refine J.goto (tgt := 179) dX12_oneTick_311 (by decide) ?_
          exact J.weaken (ls' := [some (.ref 79), some (.int v1), some (.int (v2 + 1)), some (.int (v3 + 1)), none]) (And.intro rfl (And.intro rfl (And.intro rfl (And.intro rfl trivial)))) (hK179 v1 (v2 + 1) (v3 + 1) I h)
      · have h := h.2 hc5
        refine J.aload_n dX12_oneTick_205 rfl rfl ?_
        refine J.getR (r := 90) dX12_oneTick_206 fX12_45 (hT.k 79 rfl) rfl (hT.r 79 19 rfl rfl) ?_
        refine J.iload_n dX12_oneTick_209 rfl rfl ?_
        obtain ⟨hs7, h⟩ := h
        refine J.iald dX12_oneTick_210 (hT.k 90 rfl) (hT.l 90 rfl) hs7 ?_
        refine J.iconst (v := 3) dX12_oneTick_211 (by decide) ?_
        refine J.icmp_gt (tgt := 224) dX12_oneTick_212 (by decide) (fun hc8 => ?_) (fun hc8 => ?_)
        · have h := h.1 hc8
          refine J.iconst (v := 0) dX12_oneTick_224 (by decide) ?_
          refine J.istore (ls' := [some (.ref 79), some (.int v1), some (.int v2), some (.int v3), some (.int 0)]) dX12_oneTick_225 rfl rfl ?_
          refine J.iinc (v := (v2 + 1)) (ls' := [some (.ref 79), some (.int v1), some (.int (v2 + 1)), some (.int v3), some (.int 0)]) dX12_oneTick_227 rfl (by rfl) rfl ?_
          refine J.iload dX12_oneTick_230 rfl ?_
          refine J.if_eq (tgt := 293) dX12_oneTick_232 (by decide) (fun hc => ?_) (fun hc => absurd (by decide) hc)
          refine J.iload_n dX12_oneTick_293 rfl rfl ?_
          refine J.iconst (v := 1) dX12_oneTick_294 (by decide) ?_
          refine J.atpc (pc' := 295) rfl ?_
          refine J.iadd dX12_oneTick_295 ?_
          refine J.aload_n dX12_oneTick_296 rfl rfl ?_
          refine J.getI dX12_oneTick_297 fX12_196 (hT.k 79 rfl) rfl ?_
          refine J.icmp_ge (tgt := 309) dX12_oneTick_300 (by decide) (fun hc9 => ?_) (fun hc9 => ?_)
          · have h := h.1 hc9
            refine J.iconst (v := 0) dX12_oneTick_309 (by decide) ?_
            refine J.istore_n (ls' := [some (.ref 79), some (.int v1), some (.int (v2 + 1)), some (.int 0), some (.int 0)]) dX12_oneTick_310 rfl rfl rfl ?_
            refine J.goto (tgt := 179) dX12_oneTick_311 (by decide) ?_
            exact J.weaken (ls' := [some (.ref 79), some (.int v1), some (.int (v2 + 1)), some (.int 0), none]) (And.intro rfl (And.intro rfl (And.intro rfl (And.intro rfl trivial)))) (hK179 v1 (v2 + 1) 0 I h)
          · have h := h.2 hc9
            refine J.iload_n dX12_oneTick_303 rfl rfl ?_
            refine J.iconst (v := 1) dX12_oneTick_304 (by decide) ?_
            refine J.iadd dX12_oneTick_305 ?_
            refine J.goto (tgt := 310) dX12_oneTick_306 (by decide) ?_
            refine J.istore_n (ls' := [some (.ref 79), some (.int v1), some (.int (v2 + 1)), some (.int (v3 + 1)), some (.int 0)]) dX12_oneTick_310 rfl rfl rfl ?_
            refine J.goto (tgt := 179) dX12_oneTick_311 (by decide) ?_
            exact J.weaken (ls' := [some (.ref 79), some (.int v1), some (.int (v2 + 1)), some (.int (v3 + 1)), none]) (And.intro rfl (And.intro rfl (And.intro rfl (And.intro rfl trivial)))) (hK179 v1 (v2 + 1) (v3 + 1) I h)
        · have h := h.2 hc8
          refine J.aload_n dX12_oneTick_215 rfl rfl ?_
          refine J.iload_n dX12_oneTick_216 rfl rfl ?_
          refine J.iconst (v := (-1)) dX12_oneTick_217 (by decide) ?_
          obtain ⟨hp10, h⟩ := h
          refine J.callVP (k := 79) (as := [.int v3, .int (-1)]) (rest := []) dX12_oneTick_218 kX12_takes vX12_takes lX12_298 (hT.k 79 rfl) rfl rfl rfl rfl rfl (by omega) (Nat.le_refl _) (Nat.le_refl _) (qX12_takes (d + 0) hT v3 (-1) hp10) ?_
          refine J.goto (tgt := 225) dX12_oneTick_221 (by decide) ?_
          refine J.istore (ls' := [some (.ref 79), some (.int v1), some (.int v2), some (.int v3), some (.int (jX12_takes I v3 (-1)))]) dX12_oneTick_225 rfl rfl ?_
          refine J.iinc (v := (v2 + 1)) (ls' := [some (.ref 79), some (.int v1), some (.int (v2 + 1)), some (.int v3), some (.int (jX12_takes I v3 (-1)))]) dX12_oneTick_227 rfl (by rfl) rfl ?_
          refine J.iload dX12_oneTick_230 rfl ?_
          refine J.if_eq (tgt := 293) dX12_oneTick_232 (by decide) (fun hc11 => ?_) (fun hc11 => ?_)
          · have h := h.1 hc11
            refine J.iload_n dX12_oneTick_293 rfl rfl ?_
            refine J.iconst (v := 1) dX12_oneTick_294 (by decide) ?_
            refine J.iadd dX12_oneTick_295 ?_
            refine J.aload_n dX12_oneTick_296 rfl rfl ?_
            refine J.getI dX12_oneTick_297 fX12_196 (hT.k 79 rfl) rfl ?_
            refine J.icmp_ge (tgt := 309) dX12_oneTick_300 (by decide) (fun hc12 => ?_) (fun hc12 => ?_)
            · have h := h.1 hc12
              refine J.iconst (v := 0) dX12_oneTick_309 (by decide) ?_
              refine J.istore_n (ls' := [some (.ref 79), some (.int v1), some (.int (v2 + 1)), some (.int 0), some (.int (jX12_takes I v3 (-1)))]) dX12_oneTick_310 rfl rfl rfl ?_
              refine J.goto (tgt := 179) dX12_oneTick_311 (by decide) ?_
              exact J.weaken (ls' := [some (.ref 79), some (.int v1), some (.int (v2 + 1)), some (.int 0), none]) (And.intro rfl (And.intro rfl (And.intro rfl (And.intro rfl trivial)))) (hK179 v1 (v2 + 1) 0 I h)
            · have h := h.2 hc12
              refine J.iload_n dX12_oneTick_303 rfl rfl ?_
              refine J.iconst (v := 1) dX12_oneTick_304 (by decide) ?_
              refine J.iadd dX12_oneTick_305 ?_
              refine J.goto (tgt := 310) dX12_oneTick_306 (by decide) ?_
              refine J.istore_n (ls' := [some (.ref 79), some (.int v1), some (.int (v2 + 1)), some (.int (v3 + 1)), some (.int (jX12_takes I v3 (-1)))]) dX12_oneTick_310 rfl rfl rfl ?_
              refine J.goto (tgt := 179) dX12_oneTick_311 (by decide) ?_
              exact J.weaken (ls' := [some (.ref 79), some (.int v1), some (.int (v2 + 1)), some (.int (v3 + 1)), none]) (And.intro rfl (And.intro rfl (And.intro rfl (And.intro rfl trivial)))) (hK179 v1 (v2 + 1) (v3 + 1) I h)
          · have h := h.2 hc11
            refine J.aload_n dX12_oneTick_235 rfl rfl ?_
            refine J.getR (r := 101) dX12_oneTick_236 fX12_78 (hT.k 79 rfl) rfl (hT.r 79 30 rfl rfl) ?_
            refine J.iload_n dX12_oneTick_239 rfl rfl ?_
            obtain ⟨hs13, h⟩ := h
            refine J.iald dX12_oneTick_240 (hT.k 101 rfl) (hT.l 101 rfl) hs13 ?_
            refine J.if_le (tgt := 293) dX12_oneTick_241 (by decide) (fun hc14 => ?_) (fun hc14 => ?_)
            · have h := h.1 hc14
              refine J.iload_n dX12_oneTick_293 rfl rfl ?_
              refine J.iconst (v := 1) dX12_oneTick_294 (by decide) ?_
              refine J.iadd dX12_oneTick_295 ?_
              refine J.aload_n dX12_oneTick_296 rfl rfl ?_
              refine J.getI dX12_oneTick_297 fX12_196 (hT.k 79 rfl) rfl ?_
              refine J.icmp_ge (tgt := 309) dX12_oneTick_300 (by decide) (fun hc15 => ?_) (fun hc15 => ?_)
              · have h := h.1 hc15
                refine J.iconst (v := 0) dX12_oneTick_309 (by decide) ?_
                refine J.istore_n (ls' := [some (.ref 79), some (.int v1), some (.int (v2 + 1)), some (.int 0), some (.int (jX12_takes I v3 (-1)))]) dX12_oneTick_310 rfl rfl rfl ?_
                refine J.goto (tgt := 179) dX12_oneTick_311 (by decide) ?_
                exact J.weaken (ls' := [some (.ref 79), some (.int v1), some (.int (v2 + 1)), some (.int 0), none]) (And.intro rfl (And.intro rfl (And.intro rfl (And.intro rfl trivial)))) (hK179 v1 (v2 + 1) 0 I h)
              · have h := h.2 hc15
                refine J.iload_n dX12_oneTick_303 rfl rfl ?_
                refine J.iconst (v := 1) dX12_oneTick_304 (by decide) ?_
                refine J.iadd dX12_oneTick_305 ?_
                refine J.goto (tgt := 310) dX12_oneTick_306 (by decide) ?_
                refine J.istore_n (ls' := [some (.ref 79), some (.int v1), some (.int (v2 + 1)), some (.int (v3 + 1)), some (.int (jX12_takes I v3 (-1)))]) dX12_oneTick_310 rfl rfl rfl ?_
                refine J.goto (tgt := 179) dX12_oneTick_311 (by decide) ?_
                exact J.weaken (ls' := [some (.ref 79), some (.int v1), some (.int (v2 + 1)), some (.int (v3 + 1)), none]) (And.intro rfl (And.intro rfl (And.intro rfl (And.intro rfl trivial)))) (hK179 v1 (v2 + 1) (v3 + 1) I h)
            · have h := h.2 hc14
              refine J.aload_n dX12_oneTick_244 rfl rfl ?_
              refine J.getR (r := 105) dX12_oneTick_245 fX12_90 (hT.k 79 rfl) rfl (hT.r 79 34 rfl rfl) ?_
              refine J.iload_n dX12_oneTick_248 rfl rfl ?_
              obtain ⟨hs16, h⟩ := h
              refine J.iald dX12_oneTick_249 (hT.k 105 rfl) (hT.l 105 rfl) hs16 ?_
              refine J.aload_n dX12_oneTick_250 rfl rfl ?_
              refine J.getR (r := 93) dX12_oneTick_251 fX12_54 (hT.k 79 rfl) rfl (hT.r 79 22 rfl rfl) ?_
              refine J.iload_n dX12_oneTick_254 rfl rfl ?_
              obtain ⟨hs17, h⟩ := h
              refine J.iald dX12_oneTick_255 (hT.k 93 rfl) (hT.l 93 rfl) hs17 ?_
              refine J.icmp_ge (tgt := 293) dX12_oneTick_256 (by decide) (fun hc18 => ?_) (fun hc18 => ?_)
              · have h := h.1 hc18
                refine J.iload_n dX12_oneTick_293 rfl rfl ?_
                refine J.iconst (v := 1) dX12_oneTick_294 (by decide) ?_
                refine J.iadd dX12_oneTick_295 ?_
                refine J.aload_n dX12_oneTick_296 rfl rfl ?_
                refine J.getI dX12_oneTick_297 fX12_196 (hT.k 79 rfl) rfl ?_
                refine J.icmp_ge (tgt := 309) dX12_oneTick_300 (by decide) (fun hc19 => ?_) (fun hc19 => ?_)
                · have h := h.1 hc19
                  refine J.iconst (v := 0) dX12_oneTick_309 (by decide) ?_
                  refine J.istore_n (ls' := [some (.ref 79), some (.int v1), some (.int (v2 + 1)), some (.int 0), some (.int (jX12_takes I v3 (-1)))]) dX12_oneTick_310 rfl rfl rfl ?_
                  refine J.goto (tgt := 179) dX12_oneTick_311 (by decide) ?_
                  exact J.weaken (ls' := [some (.ref 79), some (.int v1), some (.int (v2 + 1)), some (.int 0), none]) (And.intro rfl (And.intro rfl (And.intro rfl (And.intro rfl trivial)))) (hK179 v1 (v2 + 1) 0 I h)
                · have h := h.2 hc19
                  refine J.iload_n dX12_oneTick_303 rfl rfl ?_
                  refine J.iconst (v := 1) dX12_oneTick_304 (by decide) ?_
                  refine J.iadd dX12_oneTick_305 ?_
                  refine J.goto (tgt := 310) dX12_oneTick_306 (by decide) ?_
                  refine J.istore_n (ls' := [some (.ref 79), some (.int v1), some (.int (v2 + 1)), some (.int (v3 + 1)), some (.int (jX12_takes I v3 (-1)))]) dX12_oneTick_310 rfl rfl rfl ?_
                  refine J.goto (tgt := 179) dX12_oneTick_311 (by decide) ?_
                  exact J.weaken (ls' := [some (.ref 79), some (.int v1), some (.int (v2 + 1)), some (.int (v3 + 1)), none]) (And.intro rfl (And.intro rfl (And.intro rfl (And.intro rfl trivial)))) (hK179 v1 (v2 + 1) (v3 + 1) I h)
              · have h := h.2 hc18
                refine J.aload_n dX12_oneTick_259 rfl rfl ?_
                refine J.iload dX12_oneTick_260 rfl ?_
                obtain ⟨hp20, h⟩ := h
                refine J.callVP (k := 79) (as := [.int (jX12_takes I v3 (-1))]) (rest := []) dX12_oneTick_262 kX12_leftIn vX12_leftIn lX12_338 (hT.k 79 rfl) rfl rfl rfl rfl rfl (by omega) (Nat.le_refl _) (Nat.le_refl _) (qX12_leftIn (d + 1) hT (jX12_takes I v3 (-1)) hp20) ?_
                refine J.if_le (tgt := 293) dX12_oneTick_265 (by decide) (fun hc21 => ?_) (fun hc21 => ?_)
                · have h := h.1 hc21
                  refine J.iload_n dX12_oneTick_293 rfl rfl ?_
                  refine J.iconst (v := 1) dX12_oneTick_294 (by decide) ?_
                  refine J.iadd dX12_oneTick_295 ?_
                  refine J.aload_n dX12_oneTick_296 rfl rfl ?_
                  refine J.getI dX12_oneTick_297 fX12_196 (hT.k 79 rfl) rfl ?_
                  refine J.icmp_ge (tgt := 309) dX12_oneTick_300 (by decide) (fun hc22 => ?_) (fun hc22 => ?_)
                  · have h := h.1 hc22
                    refine J.iconst (v := 0) dX12_oneTick_309 (by decide) ?_
                    refine J.istore_n (ls' := [some (.ref 79), some (.int v1), some (.int (v2 + 1)), some (.int 0), some (.int (jX12_takes I v3 (-1)))]) dX12_oneTick_310 rfl rfl rfl ?_
                    refine J.goto (tgt := 179) dX12_oneTick_311 (by decide) ?_
                    exact J.weaken (ls' := [some (.ref 79), some (.int v1), some (.int (v2 + 1)), some (.int 0), none]) (And.intro rfl (And.intro rfl (And.intro rfl (And.intro rfl trivial)))) (hK179 v1 (v2 + 1) 0 I h)
                  · have h := h.2 hc22
                    refine J.iload_n dX12_oneTick_303 rfl rfl ?_
                    refine J.iconst (v := 1) dX12_oneTick_304 (by decide) ?_
                    refine J.iadd dX12_oneTick_305 ?_
                    refine J.goto (tgt := 310) dX12_oneTick_306 (by decide) ?_
                    refine J.istore_n (ls' := [some (.ref 79), some (.int v1), some (.int (v2 + 1)), some (.int (v3 + 1)), some (.int (jX12_takes I v3 (-1)))]) dX12_oneTick_310 rfl rfl rfl ?_
                    refine J.goto (tgt := 179) dX12_oneTick_311 (by decide) ?_
                    exact J.weaken (ls' := [some (.ref 79), some (.int v1), some (.int (v2 + 1)), some (.int (v3 + 1)), none]) (And.intro rfl (And.intro rfl (And.intro rfl (And.intro rfl trivial)))) (hK179 v1 (v2 + 1) (v3 + 1) I h)
                · have h := h.2 hc21
                  refine J.aload_n dX12_oneTick_268 rfl rfl ?_
                  refine J.iload_n dX12_oneTick_269 rfl rfl ?_
                  refine J.iload dX12_oneTick_270 rfl ?_
                  refine J.iconst (v := 1) dX12_oneTick_272 (by decide) ?_
                  obtain ⟨hp23, h⟩ := h
                  refine J.callVD (k := 79) (as := [.int v3, .int (jX12_takes I v3 (-1)), .int 1]) (rest := []) dX12_oneTick_273 kX12_passes vX12_passes lX12_341 (hT.k 79 rfl) rfl rfl rfl rfl rfl (by omega) (Nat.le_refl _) (Nat.le_refl _) (qX12_passes (d + 1) hT v3 (jX12_takes I v3 (-1)) 1 hp23) ?_
                  refine J.aload_n dX12_oneTick_276 rfl rfl ?_
                  refine J.getR (r := 103) dX12_oneTick_277 fX12_84 (hT.k 79 rfl) rfl (hT.r 79 32 rfl rfl) ?_
                  refine J.iload_n dX12_oneTick_280 rfl rfl ?_
                  refine J.dup2 dX12_oneTick_281 rfl rfl ?_
                  obtain ⟨hs24, h⟩ := h
                  refine J.iald dX12_oneTick_282 (hT.k 103 rfl) (hT.l 103 rfl) hs24 ?_
                  refine J.iconst (v := 1) dX12_oneTick_283 (by decide) ?_
                  refine J.iadd dX12_oneTick_284 ?_
                  obtain ⟨hs25, h⟩ := h
                  refine J.iast dX12_oneTick_285 (hT.k 103 rfl) (hT.l 103 rfl) hs25 ?_
                  refine J.aload_n dX12_oneTick_286 rfl rfl ?_
                  refine J.iload_n dX12_oneTick_287 rfl rfl ?_
                  refine J.putI dX12_oneTick_288 fX12_7 (hT.k 79 rfl) rfl ?_
                  refine J.iconst (v := 0) dX12_oneTick_291 (by decide) ?_
                  refine J.istore_n (ls' := [some (.ref 79), some (.int v1), some (.int 0), some (.int v3), some (.int (jX12_takes I v3 (-1)))]) dX12_oneTick_292 rfl rfl rfl ?_
                  refine J.iload_n dX12_oneTick_293 rfl rfl ?_
                  refine J.iconst (v := 1) dX12_oneTick_294 (by decide) ?_
                  refine J.atpc (pc' := 295) rfl ?_
                  refine J.iadd dX12_oneTick_295 ?_
                  refine J.aload_n dX12_oneTick_296 rfl rfl ?_
                  refine J.getI dX12_oneTick_297 fX12_196 (hT.k 79 rfl) rfl ?_
                  refine J.topEq (y := ((jX12_passes I v3 (jX12_takes I v3 (-1)) 1) 79 2)) (Eq.trans (up2_sj _ _ _ (by decide)) (up2_o _ _ _ _ (by decide))) ?_
                  refine J.icmp_ge (tgt := 309) dX12_oneTick_300 (by decide) (fun hc26 => ?_) (fun hc26 => ?_)
                  · have h := h.1 hc26
                    refine J.iconst (v := 0) dX12_oneTick_309 (by decide) ?_
                    refine J.istore_n (ls' := [some (.ref 79), some (.int v1), some (.int 0), some (.int 0), some (.int (jX12_takes I v3 (-1)))]) dX12_oneTick_310 rfl rfl rfl ?_
                    refine J.goto (tgt := 179) dX12_oneTick_311 (by decide) ?_
                    exact J.weaken (ls' := [some (.ref 79), some (.int v1), some (.int 0), some (.int 0), none]) (And.intro rfl (And.intro rfl (And.intro rfl (And.intro rfl trivial)))) (hK179 v1 0 0 (up2 (up2 (jX12_passes I v3 (jX12_takes I v3 (-1)) 1) 103 v3.toNatClampNeg (((jX12_passes I v3 (jX12_takes I v3 (-1)) 1) 103 v3.toNatClampNeg) + 1)) 79 8 v3) h)
                  · have h := h.2 hc26
                    refine J.iload_n dX12_oneTick_303 rfl rfl ?_
                    refine J.iconst (v := 1) dX12_oneTick_304 (by decide) ?_
                    refine J.iadd dX12_oneTick_305 ?_
                    refine J.goto (tgt := 310) dX12_oneTick_306 (by decide) ?_
                    refine J.istore_n (ls' := [some (.ref 79), some (.int v1), some (.int 0), some (.int (v3 + 1)), some (.int (jX12_takes I v3 (-1)))]) dX12_oneTick_310 rfl rfl rfl ?_
                    refine J.goto (tgt := 179) dX12_oneTick_311 (by decide) ?_
                    exact J.weaken (ls' := [some (.ref 79), some (.int v1), some (.int 0), some (.int (v3 + 1)), none]) (And.intro rfl (And.intro rfl (And.intro rfl (And.intro rfl trivial)))) (hK179 v1 0 (v3 + 1) (up2 (up2 (jX12_passes I v3 (jX12_takes I v3 (-1)) 1) 103 v3.toNatClampNeg (((jX12_passes I v3 (jX12_takes I v3 (-1)) 1) 103 v3.toNatClampNeg) + 1)) 79 8 v3) h)
set_option maxHeartbeats 4000000 in
set_option maxRecDepth 100000 in
theorem wX12_oneTick (d : Nat) {T : Topo} (hT : Lay T)    {Q : Topo → IM → Prop} (V2 : Int32 → IM → Prop) (μ2 : Int32 → IM → Nat) (V25 : Int32 → IM → Prop) (μ25 : Int32 → IM → Nat) (V57 : Int32 → Int32 → IM → Prop) (μ57 : Int32 → Int32 → IM → Nat) (V179 : Int32 → Int32 → Int32 → IM → Prop) (μ179 : Int32 → Int32 → Int32 → IM → Nat) (vc2 : ∀ (v1 : Int32) (I : IM), V2 v1 I → fX12_oneTick_2 T  Q (fun w1 I_ => V2 w1 I_ ∧ μ2 w1 I_ < μ2 v1 I) (fun w1 I_ => V25 w1 I_ ∧ μ25 w1 I_ < μ2 v1 I) (fun w1 w2 I_ => V57 w1 w2 I_ ∧ μ57 w1 w2 I_ < μ2 v1 I) (fun w1 w2 w3 I_ => V179 w1 w2 w3 I_ ∧ μ179 w1 w2 w3 I_ < μ2 v1 I) v1 I) (vc25 : ∀ (v1 : Int32) (I : IM), V25 v1 I → fX12_oneTick_25 T  Q (fun w1 I_ => V2 w1 I_ ∧ μ2 w1 I_ < μ25 v1 I) (fun w1 I_ => V25 w1 I_ ∧ μ25 w1 I_ < μ25 v1 I) (fun w1 w2 I_ => V57 w1 w2 I_ ∧ μ57 w1 w2 I_ < μ25 v1 I) (fun w1 w2 w3 I_ => V179 w1 w2 w3 I_ ∧ μ179 w1 w2 w3 I_ < μ25 v1 I) v1 I) (vc57 : ∀ (v1 v2 : Int32) (I : IM), V57 v1 v2 I → fX12_oneTick_57 T  Q (fun w1 I_ => V2 w1 I_ ∧ μ2 w1 I_ < μ57 v1 v2 I) (fun w1 I_ => V25 w1 I_ ∧ μ25 w1 I_ < μ57 v1 v2 I) (fun w1 w2 I_ => V57 w1 w2 I_ ∧ μ57 w1 w2 I_ < μ57 v1 v2 I) (fun w1 w2 w3 I_ => V179 w1 w2 w3 I_ ∧ μ179 w1 w2 w3 I_ < μ57 v1 v2 I) v1 v2 I) (vc179 : ∀ (v1 v2 v3 : Int32) (I : IM), V179 v1 v2 v3 I → fX12_oneTick_179 T  Q (fun w1 I_ => V2 w1 I_ ∧ μ2 w1 I_ < μ179 v1 v2 v3 I) (fun w1 I_ => V25 w1 I_ ∧ μ25 w1 I_ < μ179 v1 v2 v3 I) (fun w1 w2 I_ => V57 w1 w2 I_ ∧ μ57 w1 w2 I_ < μ179 v1 v2 v3 I) (fun w1 w2 w3 I_ => V179 w1 w2 w3 I_ ∧ μ179 w1 w2 w3 I_ < μ179 v1 v2 v3 I) v1 v2 v3 I) {I : IM} (h : fX12_oneTick_0 T  Q V2 V25 V57 V179 I) : Ct (d + 3) mX12_oneTick [.ref 79] T I 0 0 (PV Q) := by
  have all : ∀ n : Nat, (∀ (v1 : Int32) (I : IM), V2 v1 I → μ2 v1 I < n → J (d + 3) mX12_oneTick (PV Q) 0 0 2 [some (.ref 79), some (.int v1), none, none, none] [] T I 0 0) ∧ (∀ (v1 : Int32) (I : IM), V25 v1 I → μ25 v1 I < n → J (d + 3) mX12_oneTick (PV Q) 0 0 25 [some (.ref 79), some (.int v1), none, none, none] [] T I 0 0) ∧ (∀ (v1 v2 : Int32) (I : IM), V57 v1 v2 I → μ57 v1 v2 I < n → J (d + 3) mX12_oneTick (PV Q) 0 0 57 [some (.ref 79), some (.int v1), some (.int v2), none, none] [] T I 0 0) ∧ (∀ (v1 v2 v3 : Int32) (I : IM), V179 v1 v2 v3 I → μ179 v1 v2 v3 I < n → J (d + 3) mX12_oneTick (PV Q) 0 0 179 [some (.ref 79), some (.int v1), some (.int v2), some (.int v3), none] [] T I 0 0) := by
    intro n
    induction n with
    | zero => exact ⟨fun _ _ _ hn => absurd hn (Nat.not_lt_zero _), fun _ _ _ hn => absurd hn (Nat.not_lt_zero _), fun _ _ _ _ hn => absurd hn (Nat.not_lt_zero _), fun _ _ _ _ _ hn => absurd hn (Nat.not_lt_zero _)⟩
    | succ n ih =>
      exact ⟨fun v1 I hv hn => sX12_oneTick_2 d hT    (fun w1 I_ hw => ih.1 w1 I_ hw.1 (by have := hw.2; omega)) (fun w1 I_ hw => ih.2.1 w1 I_ hw.1 (by have := hw.2; omega)) (fun w1 w2 I_ hw => ih.2.2.1 w1 w2 I_ hw.1 (by have := hw.2; omega)) (fun w1 w2 w3 I_ hw => ih.2.2.2 w1 w2 w3 I_ hw.1 (by have := hw.2; omega)) v1 I (vc2 v1 I hv), fun v1 I hv hn => sX12_oneTick_25 d hT    (fun w1 I_ hw => ih.1 w1 I_ hw.1 (by have := hw.2; omega)) (fun w1 I_ hw => ih.2.1 w1 I_ hw.1 (by have := hw.2; omega)) (fun w1 w2 I_ hw => ih.2.2.1 w1 w2 I_ hw.1 (by have := hw.2; omega)) (fun w1 w2 w3 I_ hw => ih.2.2.2 w1 w2 w3 I_ hw.1 (by have := hw.2; omega)) v1 I (vc25 v1 I hv), fun v1 v2 I hv hn => sX12_oneTick_57 d hT    (fun w1 I_ hw => ih.1 w1 I_ hw.1 (by have := hw.2; omega)) (fun w1 I_ hw => ih.2.1 w1 I_ hw.1 (by have := hw.2; omega)) (fun w1 w2 I_ hw => ih.2.2.1 w1 w2 I_ hw.1 (by have := hw.2; omega)) (fun w1 w2 w3 I_ hw => ih.2.2.2 w1 w2 w3 I_ hw.1 (by have := hw.2; omega)) v1 v2 I (vc57 v1 v2 I hv), fun v1 v2 v3 I hv hn => sX12_oneTick_179 d hT    (fun w1 I_ hw => ih.1 w1 I_ hw.1 (by have := hw.2; omega)) (fun w1 I_ hw => ih.2.1 w1 I_ hw.1 (by have := hw.2; omega)) (fun w1 w2 I_ hw => ih.2.2.1 w1 w2 I_ hw.1 (by have := hw.2; omega)) (fun w1 w2 w3 I_ hw => ih.2.2.2 w1 w2 w3 I_ hw.1 (by have := hw.2; omega)) v1 v2 v3 I (vc179 v1 v2 v3 I hv)⟩
  exact Ct.ofJ (by decide +kernel) rfl (by intro v hv; revert v hv; simp [Value.category]) rfl (sX12_oneTick_0 d hT    (fun w1 I_ hw => (all (μ2 w1 I_ + 1)).1 w1 I_ hw (Nat.lt_succ_self _)) (fun w1 I_ hw => (all (μ25 w1 I_ + 1)).2.1 w1 I_ hw (Nat.lt_succ_self _)) (fun w1 w2 I_ hw => (all (μ57 w1 w2 I_ + 1)).2.2.1 w1 w2 I_ hw (Nat.lt_succ_self _)) (fun w1 w2 w3 I_ hw => (all (μ179 w1 w2 w3 I_ + 1)).2.2.2 w1 w2 w3 I_ hw (Nat.lt_succ_self _)) I h)

def jX12_oneTickB2  (F : (Nat → Int32 → Int32 → Int32 → IM → IM)) (v1 v2 v3 : Int32) (I : IM) : IM := (if (I 79 1) ≤ v1 then (F 1 0 0 0 I) else (F 0 (v1 + 1) 0 0 (up2 I 87 v1.toNatClampNeg 0)))
def jX12_oneTickC2  (F : (Nat → Int32 → Int32 → Int32 → IM → Prop)) (v1 v2 v3 : Int32) (I : IM) : Prop := ((((I 79 1) ≤ v1) → (F 1 0 0 0 I)) ∧ ((¬ (I 79 1) ≤ v1) → (vp_in v1 9 ∧ (F 0 (v1 + 1) 0 0 (up2 I 87 v1.toNatClampNeg 0)))))
def jX12_oneTickB25  (F : (Nat → Int32 → Int32 → Int32 → IM → IM)) (v1 v2 v3 : Int32) (I : IM) : IM := (if (I 79 2) ≤ v1 then (F 2 (jX12_countingAt I (I 79 3)) 0 0 I) else (F 1 (v1 + 1) 0 0 (up2 I 105 v1.toNatClampNeg 0)))
def jX12_oneTickC25  (F : (Nat → Int32 → Int32 → Int32 → IM → Prop)) (v1 v2 v3 : Int32) (I : IM) : Prop := ((((I 79 2) ≤ v1) → (((jX12_countingAtK I (I 79 3))) ∧ (F 2 (jX12_countingAt I (I 79 3)) 0 0 I))) ∧ ((¬ (I 79 2) ≤ v1) → (vp_in v1 8 ∧ (F 1 (v1 + 1) 0 0 (up2 I 105 v1.toNatClampNeg 0)))))
def jX12_oneTickB57  (F : (Nat → Int32 → Int32 → Int32 → IM → IM)) (v1 v2 v3 : Int32) (I : IM) : IM := (if (I 79 2) ≤ v2 then (if (I 79 2) ≤ ((I 79 8) + 1) then (F 3 v1 0 0 I) else (F 3 v1 0 ((I 79 8) + 1) I)) else (if hs v1 v2 then (if (jX12_takes I v2 (-1)) = 0 then (F 2 v1 (v2 + 1) 0 I) else (if (jX12_need I v2) ≤ (I 101 v2.toNatClampNeg) then (if (jX12_need I v2) ≤ (jX12_leftIn I (jX12_takes I v2 (-1))) then (F 2 v1 (v2 + 1) 0 (jX12_passes I v2 (jX12_takes I v2 (-1)) (jX12_need I v2))) else (F 2 v1 (v2 + 1) 0 (jX12_passes I v2 (jX12_takes I v2 (-1)) (jX12_leftIn I (jX12_takes I v2 (-1)))))) else (if (I 101 v2.toNatClampNeg) ≤ (jX12_leftIn I (jX12_takes I v2 (-1))) then (F 2 v1 (v2 + 1) 0 (jX12_passes I v2 (jX12_takes I v2 (-1)) (I 101 v2.toNatClampNeg))) else (F 2 v1 (v2 + 1) 0 (jX12_passes I v2 (jX12_takes I v2 (-1)) (jX12_leftIn I (jX12_takes I v2 (-1)))))))) else (F 2 v1 (v2 + 1) 0 I)))
def jX12_oneTickC57  (F : (Nat → Int32 → Int32 → Int32 → IM → Prop)) (v1 v2 v3 : Int32) (I : IM) : Prop := ((((I 79 2) ≤ v2) → ((((I 79 2) ≤ ((I 79 8) + 1)) → (F 3 v1 0 0 I)) ∧ ((¬ (I 79 2) ≤ ((I 79 8) + 1)) → (F 3 v1 0 ((I 79 8) + 1) I)))) ∧ ((¬ (I 79 2) ≤ v2) → (((¬ (hs v1 v2)) → (F 2 v1 (v2 + 1) 0 I)) ∧ ((hs v1 v2) → (((jX12_takesK I v2 (-1))) ∧ (((¬ (jX12_takes I v2 (-1)) = 0) → (vp_in v2 8 ∧ (((jX12_needK I v2)) ∧ ((((jX12_need I v2) ≤ (I 101 v2.toNatClampNeg)) → (((jX12_needK I v2)) ∧ (((jX12_leftInK I (jX12_takes I v2 (-1)))) ∧ ((((jX12_need I v2) ≤ (jX12_leftIn I (jX12_takes I v2 (-1)))) → (((jX12_passesK I v2 (jX12_takes I v2 (-1)) (jX12_need I v2))) ∧ (F 2 v1 (v2 + 1) 0 (jX12_passes I v2 (jX12_takes I v2 (-1)) (jX12_need I v2))))) ∧ ((¬ (jX12_need I v2) ≤ (jX12_leftIn I (jX12_takes I v2 (-1)))) → (((jX12_leftInK I (jX12_takes I v2 (-1)))) ∧ (((jX12_passesK I v2 (jX12_takes I v2 (-1)) (jX12_leftIn I (jX12_takes I v2 (-1))))) ∧ (F 2 v1 (v2 + 1) 0 (jX12_passes I v2 (jX12_takes I v2 (-1)) (jX12_leftIn I (jX12_takes I v2 (-1)))))))))))) ∧ ((¬ (jX12_need I v2) ≤ (I 101 v2.toNatClampNeg)) → (vp_in v2 8 ∧ (((jX12_leftInK I (jX12_takes I v2 (-1)))) ∧ ((((I 101 v2.toNatClampNeg) ≤ (jX12_leftIn I (jX12_takes I v2 (-1)))) → (((jX12_passesK I v2 (jX12_takes I v2 (-1)) (I 101 v2.toNatClampNeg))) ∧ (F 2 v1 (v2 + 1) 0 (jX12_passes I v2 (jX12_takes I v2 (-1)) (I 101 v2.toNatClampNeg))))) ∧ ((¬ (I 101 v2.toNatClampNeg) ≤ (jX12_leftIn I (jX12_takes I v2 (-1)))) → (((jX12_leftInK I (jX12_takes I v2 (-1)))) ∧ (((jX12_passesK I v2 (jX12_takes I v2 (-1)) (jX12_leftIn I (jX12_takes I v2 (-1))))) ∧ (F 2 v1 (v2 + 1) 0 (jX12_passes I v2 (jX12_takes I v2 (-1)) (jX12_leftIn I (jX12_takes I v2 (-1)))))))))))))))) ∧ (((jX12_takes I v2 (-1)) = 0) → (F 2 v1 (v2 + 1) 0 I))))))))
def jX12_oneTickB179  (F : (Nat → Int32 → Int32 → Int32 → IM → IM)) (v1 v2 v3 : Int32) (I : IM) : IM := (if (I 79 2) ≤ v2 then (up2 I 79 3 (((I 79 3) + 1) - ((I 79 3) + 1) / 24 * 24)) else (if hs v1 v3 then (if (I 90 v3.toNatClampNeg) < 2 then (if (I 79 2) ≤ (v3 + 1) then (F 3 v1 (v2 + 1) 0 I) else (F 3 v1 (v2 + 1) (v3 + 1) I)) else (if 3 < (I 90 v3.toNatClampNeg) then (if (I 79 2) ≤ (v3 + 1) then (F 3 v1 (v2 + 1) 0 I) else (F 3 v1 (v2 + 1) (v3 + 1) I)) else (if (jX12_takes I v3 (-1)) = 0 then (if (I 79 2) ≤ (v3 + 1) then (F 3 v1 (v2 + 1) 0 I) else (F 3 v1 (v2 + 1) (v3 + 1) I)) else (if (I 101 v3.toNatClampNeg) ≤ 0 then (if (I 79 2) ≤ (v3 + 1) then (F 3 v1 (v2 + 1) 0 I) else (F 3 v1 (v2 + 1) (v3 + 1) I)) else (if (I 93 v3.toNatClampNeg) ≤ (I 105 v3.toNatClampNeg) then (if (I 79 2) ≤ (v3 + 1) then (F 3 v1 (v2 + 1) 0 I) else (F 3 v1 (v2 + 1) (v3 + 1) I)) else (if (jX12_leftIn I (jX12_takes I v3 (-1))) ≤ 0 then (if (I 79 2) ≤ (v3 + 1) then (F 3 v1 (v2 + 1) 0 I) else (F 3 v1 (v2 + 1) (v3 + 1) I)) else (if ((jX12_passes I v3 (jX12_takes I v3 (-1)) 1) 79 2) ≤ (v3 + 1) then (F 3 v1 0 0 (up2 (up2 (jX12_passes I v3 (jX12_takes I v3 (-1)) 1) 103 v3.toNatClampNeg (((jX12_passes I v3 (jX12_takes I v3 (-1)) 1) 103 v3.toNatClampNeg) + 1)) 79 8 v3)) else (F 3 v1 0 (v3 + 1) (up2 (up2 (jX12_passes I v3 (jX12_takes I v3 (-1)) 1) 103 v3.toNatClampNeg (((jX12_passes I v3 (jX12_takes I v3 (-1)) 1) 103 v3.toNatClampNeg) + 1)) 79 8 v3))))))))) else (if (I 79 2) ≤ (v3 + 1) then (F 3 v1 (v2 + 1) 0 I) else (F 3 v1 (v2 + 1) (v3 + 1) I))))
def jX12_oneTickC179  (F : (Nat → Int32 → Int32 → Int32 → IM → Prop)) (v1 v2 v3 : Int32) (I : IM) : Prop := ((((I 79 2) ≤ v2) → True) ∧ ((¬ (I 79 2) ≤ v2) → (((¬ (hs v1 v3)) → ((((I 79 2) ≤ (v3 + 1)) → (F 3 v1 (v2 + 1) 0 I)) ∧ ((¬ (I 79 2) ≤ (v3 + 1)) → (F 3 v1 (v2 + 1) (v3 + 1) I)))) ∧ ((hs v1 v3) → (vp_in v3 8 ∧ ((((I 90 v3.toNatClampNeg) < 2) → ((((I 79 2) ≤ (v3 + 1)) → (F 3 v1 (v2 + 1) 0 I)) ∧ ((¬ (I 79 2) ≤ (v3 + 1)) → (F 3 v1 (v2 + 1) (v3 + 1) I)))) ∧ ((¬ (I 90 v3.toNatClampNeg) < 2) → (vp_in v3 8 ∧ (((3 < (I 90 v3.toNatClampNeg)) → ((((I 79 2) ≤ (v3 + 1)) → (F 3 v1 (v2 + 1) 0 I)) ∧ ((¬ (I 79 2) ≤ (v3 + 1)) → (F 3 v1 (v2 + 1) (v3 + 1) I)))) ∧ ((¬ 3 < (I 90 v3.toNatClampNeg)) → (((jX12_takesK I v3 (-1))) ∧ ((((jX12_takes I v3 (-1)) = 0) → ((((I 79 2) ≤ (v3 + 1)) → (F 3 v1 (v2 + 1) 0 I)) ∧ ((¬ (I 79 2) ≤ (v3 + 1)) → (F 3 v1 (v2 + 1) (v3 + 1) I)))) ∧ ((¬ (jX12_takes I v3 (-1)) = 0) → (vp_in v3 8 ∧ ((((I 101 v3.toNatClampNeg) ≤ 0) → ((((I 79 2) ≤ (v3 + 1)) → (F 3 v1 (v2 + 1) 0 I)) ∧ ((¬ (I 79 2) ≤ (v3 + 1)) → (F 3 v1 (v2 + 1) (v3 + 1) I)))) ∧ ((¬ (I 101 v3.toNatClampNeg) ≤ 0) → (vp_in v3 8 ∧ (vp_in v3 8 ∧ ((((I 93 v3.toNatClampNeg) ≤ (I 105 v3.toNatClampNeg)) → ((((I 79 2) ≤ (v3 + 1)) → (F 3 v1 (v2 + 1) 0 I)) ∧ ((¬ (I 79 2) ≤ (v3 + 1)) → (F 3 v1 (v2 + 1) (v3 + 1) I)))) ∧ ((¬ (I 93 v3.toNatClampNeg) ≤ (I 105 v3.toNatClampNeg)) → (((jX12_leftInK I (jX12_takes I v3 (-1)))) ∧ ((((jX12_leftIn I (jX12_takes I v3 (-1))) ≤ 0) → ((((I 79 2) ≤ (v3 + 1)) → (F 3 v1 (v2 + 1) 0 I)) ∧ ((¬ (I 79 2) ≤ (v3 + 1)) → (F 3 v1 (v2 + 1) (v3 + 1) I)))) ∧ ((¬ (jX12_leftIn I (jX12_takes I v3 (-1))) ≤ 0) → (((jX12_passesK I v3 (jX12_takes I v3 (-1)) 1)) ∧ (vp_in v3 8 ∧ (vp_in v3 8 ∧ (((((jX12_passes I v3 (jX12_takes I v3 (-1)) 1) 79 2) ≤ (v3 + 1)) → (F 3 v1 0 0 (up2 (up2 (jX12_passes I v3 (jX12_takes I v3 (-1)) 1) 103 v3.toNatClampNeg (((jX12_passes I v3 (jX12_takes I v3 (-1)) 1) 103 v3.toNatClampNeg) + 1)) 79 8 v3))) ∧ ((¬ ((jX12_passes I v3 (jX12_takes I v3 (-1)) 1) 79 2) ≤ (v3 + 1)) → (F 3 v1 0 (v3 + 1) (up2 (up2 (jX12_passes I v3 (jX12_takes I v3 (-1)) 1) 103 v3.toNatClampNeg (((jX12_passes I v3 (jX12_takes I v3 (-1)) 1) 103 v3.toNatClampNeg) + 1)) 79 8 v3))))))))))))))))))))))))))))))
def jX12_oneTickI  : Nat → Nat → Int32 → Int32 → Int32 → IM → IM
  | 0 => fun _ _ _ _ I => I
  | n + 1 => fun tg v1 v2 v3 I => (if tg = 0 then jX12_oneTickB2  (jX12_oneTickI  n) v1 v2 v3 I else (if tg = 1 then jX12_oneTickB25  (jX12_oneTickI  n) v1 v2 v3 I else (if tg = 2 then jX12_oneTickB57  (jX12_oneTickI  n) v1 v2 v3 I else (if tg = 3 then jX12_oneTickB179  (jX12_oneTickI  n) v1 v2 v3 I else I))))
def jX12_oneTickO  : Nat → Nat → Int32 → Int32 → Int32 → IM → Prop
  | 0 => fun _ _ _ _ _ => False
  | n + 1 => fun tg v1 v2 v3 I => (if tg = 0 then jX12_oneTickC2  (jX12_oneTickO  n) v1 v2 v3 I else (if tg = 1 then jX12_oneTickC25  (jX12_oneTickO  n) v1 v2 v3 I else (if tg = 2 then jX12_oneTickC57  (jX12_oneTickO  n) v1 v2 v3 I else (if tg = 3 then jX12_oneTickC179  (jX12_oneTickO  n) v1 v2 v3 I else True))))
theorem jX12_oneTickI_2  (n : Nat) (v1 v2 v3 : Int32) (I : IM) : jX12_oneTickI  (n + 1) 0 v1 v2 v3 I = (if (I 79 1) ≤ v1 then (jX12_oneTickI  n 1 0 0 0 I) else (jX12_oneTickI  n 0 (v1 + 1) 0 0 (up2 I 87 v1.toNatClampNeg 0))) := by
  show (if (0 : Nat) = 0 then jX12_oneTickB2  (jX12_oneTickI  n) v1 v2 v3 I else (if (0 : Nat) = 1 then jX12_oneTickB25  (jX12_oneTickI  n) v1 v2 v3 I else (if (0 : Nat) = 2 then jX12_oneTickB57  (jX12_oneTickI  n) v1 v2 v3 I else (if (0 : Nat) = 3 then jX12_oneTickB179  (jX12_oneTickI  n) v1 v2 v3 I else I)))) = _
  rw [if_pos rfl]; rfl
theorem jX12_oneTickO_2  (n : Nat) (v1 v2 v3 : Int32) (I : IM) : jX12_oneTickO  (n + 1) 0 v1 v2 v3 I = ((((I 79 1) ≤ v1) → (jX12_oneTickO  n 1 0 0 0 I)) ∧ ((¬ (I 79 1) ≤ v1) → (vp_in v1 9 ∧ (jX12_oneTickO  n 0 (v1 + 1) 0 0 (up2 I 87 v1.toNatClampNeg 0))))) := by
  show (if (0 : Nat) = 0 then jX12_oneTickC2  (jX12_oneTickO  n) v1 v2 v3 I else (if (0 : Nat) = 1 then jX12_oneTickC25  (jX12_oneTickO  n) v1 v2 v3 I else (if (0 : Nat) = 2 then jX12_oneTickC57  (jX12_oneTickO  n) v1 v2 v3 I else (if (0 : Nat) = 3 then jX12_oneTickC179  (jX12_oneTickO  n) v1 v2 v3 I else True)))) = _
  rw [if_pos rfl]; rfl
theorem jX12_oneTickI_25  (n : Nat) (v1 v2 v3 : Int32) (I : IM) : jX12_oneTickI  (n + 1) 1 v1 v2 v3 I = (if (I 79 2) ≤ v1 then (jX12_oneTickI  n 2 (jX12_countingAt I (I 79 3)) 0 0 I) else (jX12_oneTickI  n 1 (v1 + 1) 0 0 (up2 I 105 v1.toNatClampNeg 0))) := by
  show (if (1 : Nat) = 0 then jX12_oneTickB2  (jX12_oneTickI  n) v1 v2 v3 I else (if (1 : Nat) = 1 then jX12_oneTickB25  (jX12_oneTickI  n) v1 v2 v3 I else (if (1 : Nat) = 2 then jX12_oneTickB57  (jX12_oneTickI  n) v1 v2 v3 I else (if (1 : Nat) = 3 then jX12_oneTickB179  (jX12_oneTickI  n) v1 v2 v3 I else I)))) = _
  rw [if_neg (by decide), if_pos rfl]; rfl
theorem jX12_oneTickO_25  (n : Nat) (v1 v2 v3 : Int32) (I : IM) : jX12_oneTickO  (n + 1) 1 v1 v2 v3 I = ((((I 79 2) ≤ v1) → (((jX12_countingAtK I (I 79 3))) ∧ (jX12_oneTickO  n 2 (jX12_countingAt I (I 79 3)) 0 0 I))) ∧ ((¬ (I 79 2) ≤ v1) → (vp_in v1 8 ∧ (jX12_oneTickO  n 1 (v1 + 1) 0 0 (up2 I 105 v1.toNatClampNeg 0))))) := by
  show (if (1 : Nat) = 0 then jX12_oneTickC2  (jX12_oneTickO  n) v1 v2 v3 I else (if (1 : Nat) = 1 then jX12_oneTickC25  (jX12_oneTickO  n) v1 v2 v3 I else (if (1 : Nat) = 2 then jX12_oneTickC57  (jX12_oneTickO  n) v1 v2 v3 I else (if (1 : Nat) = 3 then jX12_oneTickC179  (jX12_oneTickO  n) v1 v2 v3 I else True)))) = _
  rw [if_neg (by decide), if_pos rfl]; rfl
theorem jX12_oneTickI_57  (n : Nat) (v1 v2 v3 : Int32) (I : IM) : jX12_oneTickI  (n + 1) 2 v1 v2 v3 I = (if (I 79 2) ≤ v2 then (if (I 79 2) ≤ ((I 79 8) + 1) then (jX12_oneTickI  n 3 v1 0 0 I) else (jX12_oneTickI  n 3 v1 0 ((I 79 8) + 1) I)) else (if hs v1 v2 then (if (jX12_takes I v2 (-1)) = 0 then (jX12_oneTickI  n 2 v1 (v2 + 1) 0 I) else (if (jX12_need I v2) ≤ (I 101 v2.toNatClampNeg) then (if (jX12_need I v2) ≤ (jX12_leftIn I (jX12_takes I v2 (-1))) then (jX12_oneTickI  n 2 v1 (v2 + 1) 0 (jX12_passes I v2 (jX12_takes I v2 (-1)) (jX12_need I v2))) else (jX12_oneTickI  n 2 v1 (v2 + 1) 0 (jX12_passes I v2 (jX12_takes I v2 (-1)) (jX12_leftIn I (jX12_takes I v2 (-1)))))) else (if (I 101 v2.toNatClampNeg) ≤ (jX12_leftIn I (jX12_takes I v2 (-1))) then (jX12_oneTickI  n 2 v1 (v2 + 1) 0 (jX12_passes I v2 (jX12_takes I v2 (-1)) (I 101 v2.toNatClampNeg))) else (jX12_oneTickI  n 2 v1 (v2 + 1) 0 (jX12_passes I v2 (jX12_takes I v2 (-1)) (jX12_leftIn I (jX12_takes I v2 (-1)))))))) else (jX12_oneTickI  n 2 v1 (v2 + 1) 0 I))) := by
  show (if (2 : Nat) = 0 then jX12_oneTickB2  (jX12_oneTickI  n) v1 v2 v3 I else (if (2 : Nat) = 1 then jX12_oneTickB25  (jX12_oneTickI  n) v1 v2 v3 I else (if (2 : Nat) = 2 then jX12_oneTickB57  (jX12_oneTickI  n) v1 v2 v3 I else (if (2 : Nat) = 3 then jX12_oneTickB179  (jX12_oneTickI  n) v1 v2 v3 I else I)))) = _
  rw [if_neg (by decide), if_neg (by decide), if_pos rfl]; rfl
theorem jX12_oneTickO_57  (n : Nat) (v1 v2 v3 : Int32) (I : IM) : jX12_oneTickO  (n + 1) 2 v1 v2 v3 I = ((((I 79 2) ≤ v2) → ((((I 79 2) ≤ ((I 79 8) + 1)) → (jX12_oneTickO  n 3 v1 0 0 I)) ∧ ((¬ (I 79 2) ≤ ((I 79 8) + 1)) → (jX12_oneTickO  n 3 v1 0 ((I 79 8) + 1) I)))) ∧ ((¬ (I 79 2) ≤ v2) → (((¬ (hs v1 v2)) → (jX12_oneTickO  n 2 v1 (v2 + 1) 0 I)) ∧ ((hs v1 v2) → (((jX12_takesK I v2 (-1))) ∧ (((¬ (jX12_takes I v2 (-1)) = 0) → (vp_in v2 8 ∧ (((jX12_needK I v2)) ∧ ((((jX12_need I v2) ≤ (I 101 v2.toNatClampNeg)) → (((jX12_needK I v2)) ∧ (((jX12_leftInK I (jX12_takes I v2 (-1)))) ∧ ((((jX12_need I v2) ≤ (jX12_leftIn I (jX12_takes I v2 (-1)))) → (((jX12_passesK I v2 (jX12_takes I v2 (-1)) (jX12_need I v2))) ∧ (jX12_oneTickO  n 2 v1 (v2 + 1) 0 (jX12_passes I v2 (jX12_takes I v2 (-1)) (jX12_need I v2))))) ∧ ((¬ (jX12_need I v2) ≤ (jX12_leftIn I (jX12_takes I v2 (-1)))) → (((jX12_leftInK I (jX12_takes I v2 (-1)))) ∧ (((jX12_passesK I v2 (jX12_takes I v2 (-1)) (jX12_leftIn I (jX12_takes I v2 (-1))))) ∧ (jX12_oneTickO  n 2 v1 (v2 + 1) 0 (jX12_passes I v2 (jX12_takes I v2 (-1)) (jX12_leftIn I (jX12_takes I v2 (-1)))))))))))) ∧ ((¬ (jX12_need I v2) ≤ (I 101 v2.toNatClampNeg)) → (vp_in v2 8 ∧ (((jX12_leftInK I (jX12_takes I v2 (-1)))) ∧ ((((I 101 v2.toNatClampNeg) ≤ (jX12_leftIn I (jX12_takes I v2 (-1)))) → (((jX12_passesK I v2 (jX12_takes I v2 (-1)) (I 101 v2.toNatClampNeg))) ∧ (jX12_oneTickO  n 2 v1 (v2 + 1) 0 (jX12_passes I v2 (jX12_takes I v2 (-1)) (I 101 v2.toNatClampNeg))))) ∧ ((¬ (I 101 v2.toNatClampNeg) ≤ (jX12_leftIn I (jX12_takes I v2 (-1)))) → (((jX12_leftInK I (jX12_takes I v2 (-1)))) ∧ (((jX12_passesK I v2 (jX12_takes I v2 (-1)) (jX12_leftIn I (jX12_takes I v2 (-1))))) ∧ (jX12_oneTickO  n 2 v1 (v2 + 1) 0 (jX12_passes I v2 (jX12_takes I v2 (-1)) (jX12_leftIn I (jX12_takes I v2 (-1)))))))))))))))) ∧ (((jX12_takes I v2 (-1)) = 0) → (jX12_oneTickO  n 2 v1 (v2 + 1) 0 I)))))))) := by
  show (if (2 : Nat) = 0 then jX12_oneTickC2  (jX12_oneTickO  n) v1 v2 v3 I else (if (2 : Nat) = 1 then jX12_oneTickC25  (jX12_oneTickO  n) v1 v2 v3 I else (if (2 : Nat) = 2 then jX12_oneTickC57  (jX12_oneTickO  n) v1 v2 v3 I else (if (2 : Nat) = 3 then jX12_oneTickC179  (jX12_oneTickO  n) v1 v2 v3 I else True)))) = _
  rw [if_neg (by decide), if_neg (by decide), if_pos rfl]; rfl
theorem jX12_oneTickI_179  (n : Nat) (v1 v2 v3 : Int32) (I : IM) : jX12_oneTickI  (n + 1) 3 v1 v2 v3 I = (if (I 79 2) ≤ v2 then (up2 I 79 3 (((I 79 3) + 1) - ((I 79 3) + 1) / 24 * 24)) else (if hs v1 v3 then (if (I 90 v3.toNatClampNeg) < 2 then (if (I 79 2) ≤ (v3 + 1) then (jX12_oneTickI  n 3 v1 (v2 + 1) 0 I) else (jX12_oneTickI  n 3 v1 (v2 + 1) (v3 + 1) I)) else (if 3 < (I 90 v3.toNatClampNeg) then (if (I 79 2) ≤ (v3 + 1) then (jX12_oneTickI  n 3 v1 (v2 + 1) 0 I) else (jX12_oneTickI  n 3 v1 (v2 + 1) (v3 + 1) I)) else (if (jX12_takes I v3 (-1)) = 0 then (if (I 79 2) ≤ (v3 + 1) then (jX12_oneTickI  n 3 v1 (v2 + 1) 0 I) else (jX12_oneTickI  n 3 v1 (v2 + 1) (v3 + 1) I)) else (if (I 101 v3.toNatClampNeg) ≤ 0 then (if (I 79 2) ≤ (v3 + 1) then (jX12_oneTickI  n 3 v1 (v2 + 1) 0 I) else (jX12_oneTickI  n 3 v1 (v2 + 1) (v3 + 1) I)) else (if (I 93 v3.toNatClampNeg) ≤ (I 105 v3.toNatClampNeg) then (if (I 79 2) ≤ (v3 + 1) then (jX12_oneTickI  n 3 v1 (v2 + 1) 0 I) else (jX12_oneTickI  n 3 v1 (v2 + 1) (v3 + 1) I)) else (if (jX12_leftIn I (jX12_takes I v3 (-1))) ≤ 0 then (if (I 79 2) ≤ (v3 + 1) then (jX12_oneTickI  n 3 v1 (v2 + 1) 0 I) else (jX12_oneTickI  n 3 v1 (v2 + 1) (v3 + 1) I)) else (if ((jX12_passes I v3 (jX12_takes I v3 (-1)) 1) 79 2) ≤ (v3 + 1) then (jX12_oneTickI  n 3 v1 0 0 (up2 (up2 (jX12_passes I v3 (jX12_takes I v3 (-1)) 1) 103 v3.toNatClampNeg (((jX12_passes I v3 (jX12_takes I v3 (-1)) 1) 103 v3.toNatClampNeg) + 1)) 79 8 v3)) else (jX12_oneTickI  n 3 v1 0 (v3 + 1) (up2 (up2 (jX12_passes I v3 (jX12_takes I v3 (-1)) 1) 103 v3.toNatClampNeg (((jX12_passes I v3 (jX12_takes I v3 (-1)) 1) 103 v3.toNatClampNeg) + 1)) 79 8 v3))))))))) else (if (I 79 2) ≤ (v3 + 1) then (jX12_oneTickI  n 3 v1 (v2 + 1) 0 I) else (jX12_oneTickI  n 3 v1 (v2 + 1) (v3 + 1) I)))) := by
  show (if (3 : Nat) = 0 then jX12_oneTickB2  (jX12_oneTickI  n) v1 v2 v3 I else (if (3 : Nat) = 1 then jX12_oneTickB25  (jX12_oneTickI  n) v1 v2 v3 I else (if (3 : Nat) = 2 then jX12_oneTickB57  (jX12_oneTickI  n) v1 v2 v3 I else (if (3 : Nat) = 3 then jX12_oneTickB179  (jX12_oneTickI  n) v1 v2 v3 I else I)))) = _
  rw [if_neg (by decide), if_neg (by decide), if_neg (by decide), if_pos rfl]; rfl
theorem jX12_oneTickO_179  (n : Nat) (v1 v2 v3 : Int32) (I : IM) : jX12_oneTickO  (n + 1) 3 v1 v2 v3 I = ((((I 79 2) ≤ v2) → True) ∧ ((¬ (I 79 2) ≤ v2) → (((¬ (hs v1 v3)) → ((((I 79 2) ≤ (v3 + 1)) → (jX12_oneTickO  n 3 v1 (v2 + 1) 0 I)) ∧ ((¬ (I 79 2) ≤ (v3 + 1)) → (jX12_oneTickO  n 3 v1 (v2 + 1) (v3 + 1) I)))) ∧ ((hs v1 v3) → (vp_in v3 8 ∧ ((((I 90 v3.toNatClampNeg) < 2) → ((((I 79 2) ≤ (v3 + 1)) → (jX12_oneTickO  n 3 v1 (v2 + 1) 0 I)) ∧ ((¬ (I 79 2) ≤ (v3 + 1)) → (jX12_oneTickO  n 3 v1 (v2 + 1) (v3 + 1) I)))) ∧ ((¬ (I 90 v3.toNatClampNeg) < 2) → (vp_in v3 8 ∧ (((3 < (I 90 v3.toNatClampNeg)) → ((((I 79 2) ≤ (v3 + 1)) → (jX12_oneTickO  n 3 v1 (v2 + 1) 0 I)) ∧ ((¬ (I 79 2) ≤ (v3 + 1)) → (jX12_oneTickO  n 3 v1 (v2 + 1) (v3 + 1) I)))) ∧ ((¬ 3 < (I 90 v3.toNatClampNeg)) → (((jX12_takesK I v3 (-1))) ∧ ((((jX12_takes I v3 (-1)) = 0) → ((((I 79 2) ≤ (v3 + 1)) → (jX12_oneTickO  n 3 v1 (v2 + 1) 0 I)) ∧ ((¬ (I 79 2) ≤ (v3 + 1)) → (jX12_oneTickO  n 3 v1 (v2 + 1) (v3 + 1) I)))) ∧ ((¬ (jX12_takes I v3 (-1)) = 0) → (vp_in v3 8 ∧ ((((I 101 v3.toNatClampNeg) ≤ 0) → ((((I 79 2) ≤ (v3 + 1)) → (jX12_oneTickO  n 3 v1 (v2 + 1) 0 I)) ∧ ((¬ (I 79 2) ≤ (v3 + 1)) → (jX12_oneTickO  n 3 v1 (v2 + 1) (v3 + 1) I)))) ∧ ((¬ (I 101 v3.toNatClampNeg) ≤ 0) → (vp_in v3 8 ∧ (vp_in v3 8 ∧ ((((I 93 v3.toNatClampNeg) ≤ (I 105 v3.toNatClampNeg)) → ((((I 79 2) ≤ (v3 + 1)) → (jX12_oneTickO  n 3 v1 (v2 + 1) 0 I)) ∧ ((¬ (I 79 2) ≤ (v3 + 1)) → (jX12_oneTickO  n 3 v1 (v2 + 1) (v3 + 1) I)))) ∧ ((¬ (I 93 v3.toNatClampNeg) ≤ (I 105 v3.toNatClampNeg)) → (((jX12_leftInK I (jX12_takes I v3 (-1)))) ∧ ((((jX12_leftIn I (jX12_takes I v3 (-1))) ≤ 0) → ((((I 79 2) ≤ (v3 + 1)) → (jX12_oneTickO  n 3 v1 (v2 + 1) 0 I)) ∧ ((¬ (I 79 2) ≤ (v3 + 1)) → (jX12_oneTickO  n 3 v1 (v2 + 1) (v3 + 1) I)))) ∧ ((¬ (jX12_leftIn I (jX12_takes I v3 (-1))) ≤ 0) → (((jX12_passesK I v3 (jX12_takes I v3 (-1)) 1)) ∧ (vp_in v3 8 ∧ (vp_in v3 8 ∧ (((((jX12_passes I v3 (jX12_takes I v3 (-1)) 1) 79 2) ≤ (v3 + 1)) → (jX12_oneTickO  n 3 v1 0 0 (up2 (up2 (jX12_passes I v3 (jX12_takes I v3 (-1)) 1) 103 v3.toNatClampNeg (((jX12_passes I v3 (jX12_takes I v3 (-1)) 1) 103 v3.toNatClampNeg) + 1)) 79 8 v3))) ∧ ((¬ ((jX12_passes I v3 (jX12_takes I v3 (-1)) 1) 79 2) ≤ (v3 + 1)) → (jX12_oneTickO  n 3 v1 0 (v3 + 1) (up2 (up2 (jX12_passes I v3 (jX12_takes I v3 (-1)) 1) 103 v3.toNatClampNeg (((jX12_passes I v3 (jX12_takes I v3 (-1)) 1) 103 v3.toNatClampNeg) + 1)) 79 8 v3)))))))))))))))))))))))))))))) := by
  show (if (3 : Nat) = 0 then jX12_oneTickC2  (jX12_oneTickO  n) v1 v2 v3 I else (if (3 : Nat) = 1 then jX12_oneTickC25  (jX12_oneTickO  n) v1 v2 v3 I else (if (3 : Nat) = 2 then jX12_oneTickC57  (jX12_oneTickO  n) v1 v2 v3 I else (if (3 : Nat) = 3 then jX12_oneTickC179  (jX12_oneTickO  n) v1 v2 v3 I else True)))) = _
  rw [if_neg (by decide), if_neg (by decide), if_neg (by decide), if_pos rfl]; rfl
def jX12_oneTick (I : IM)  : IM := (jX12_oneTickI  FU 0 0 0 0 I)
def jX12_oneTickK (I : IM)  : Prop := (jX12_oneTickO  FU 0 0 0 0 I)
set_option maxRecDepth 10000 in
set_option maxHeartbeats 1000000 in
theorem uX12_oneTick (d : Nat) {T : Topo} (hT : Lay T)    {R : IM} : ∀ n : Nat, (∀ (v1 : Int32) (I : IM), jX12_oneTickO  n 0 v1 0 0 I → jX12_oneTickI  n 0 v1 0 0 I = R → J (d + 3) mX12_oneTick (PV (fun T' I' => T' = T ∧ I' = R)) 0 0 2 [some (.ref 79), some (.int v1), none, none, none] [] T I 0 0) ∧ (∀ (v1 : Int32) (I : IM), jX12_oneTickO  n 1 v1 0 0 I → jX12_oneTickI  n 1 v1 0 0 I = R → J (d + 3) mX12_oneTick (PV (fun T' I' => T' = T ∧ I' = R)) 0 0 25 [some (.ref 79), some (.int v1), none, none, none] [] T I 0 0) ∧ (∀ (v1 v2 : Int32) (I : IM), jX12_oneTickO  n 2 v1 v2 0 I → jX12_oneTickI  n 2 v1 v2 0 I = R → J (d + 3) mX12_oneTick (PV (fun T' I' => T' = T ∧ I' = R)) 0 0 57 [some (.ref 79), some (.int v1), some (.int v2), none, none] [] T I 0 0) ∧ (∀ (v1 v2 v3 : Int32) (I : IM), jX12_oneTickO  n 3 v1 v2 v3 I → jX12_oneTickI  n 3 v1 v2 v3 I = R → J (d + 3) mX12_oneTick (PV (fun T' I' => T' = T ∧ I' = R)) 0 0 179 [some (.ref 79), some (.int v1), some (.int v2), some (.int v3), none] [] T I 0 0) := by
  intro n
  induction n with
  | zero => exact ⟨fun _ _ hz => hz.elim, fun _ _ hz => hz.elim, fun _ _ _ hz => hz.elim, fun _ _ _ _ hz => hz.elim⟩
  | succ n ih =>
    refine ⟨?_, ?_, ?_, ?_⟩
    · exact fun v1 I hok hit => by
        rw [jX12_oneTickO_2] at hok
        exact sX12_oneTick_2 d hT    (K2 := fun w1 I_ => (jX12_oneTickO  n 0 w1 0 0 I_ ∧ jX12_oneTickI  n 0 w1 0 0 I_ = R)) (K25 := fun w1 I_ => (jX12_oneTickO  n 1 w1 0 0 I_ ∧ jX12_oneTickI  n 1 w1 0 0 I_ = R)) (K57 := fun w1 w2 I_ => (jX12_oneTickO  n 2 w1 w2 0 I_ ∧ jX12_oneTickI  n 2 w1 w2 0 I_ = R)) (K179 := fun w1 w2 w3 I_ => (jX12_oneTickO  n 3 w1 w2 w3 I_ ∧ jX12_oneTickI  n 3 w1 w2 w3 I_ = R)) (fun w1 I_ hw => ih.1 w1 I_ hw.1 hw.2) (fun w1 I_ hw => ih.2.1 w1 I_ hw.1 hw.2) (fun w1 w2 I_ hw => ih.2.2.1 w1 w2 I_ hw.1 hw.2) (fun w1 w2 w3 I_ hw => ih.2.2.2 w1 w2 w3 I_ hw.1 hw.2) v1 I (by
          unfold fX12_oneTick_2
          exact ⟨fun hc1 => ⟨(hok).1 hc1, by rw [jX12_oneTickI_2, if_pos hc1] at hit; exact hit⟩, fun hc1 => ⟨((hok).2 hc1).1, ⟨((hok).2 hc1).2, by rw [jX12_oneTickI_2, if_neg hc1] at hit; exact hit⟩⟩⟩)
    · exact fun v1 I hok hit => by
        rw [jX12_oneTickO_25] at hok
        exact sX12_oneTick_25 d hT    (K2 := fun w1 I_ => (jX12_oneTickO  n 0 w1 0 0 I_ ∧ jX12_oneTickI  n 0 w1 0 0 I_ = R)) (K25 := fun w1 I_ => (jX12_oneTickO  n 1 w1 0 0 I_ ∧ jX12_oneTickI  n 1 w1 0 0 I_ = R)) (K57 := fun w1 w2 I_ => (jX12_oneTickO  n 2 w1 w2 0 I_ ∧ jX12_oneTickI  n 2 w1 w2 0 I_ = R)) (K179 := fun w1 w2 w3 I_ => (jX12_oneTickO  n 3 w1 w2 w3 I_ ∧ jX12_oneTickI  n 3 w1 w2 w3 I_ = R)) (fun w1 I_ hw => ih.1 w1 I_ hw.1 hw.2) (fun w1 I_ hw => ih.2.1 w1 I_ hw.1 hw.2) (fun w1 w2 I_ hw => ih.2.2.1 w1 w2 I_ hw.1 hw.2) (fun w1 w2 w3 I_ hw => ih.2.2.2 w1 w2 w3 I_ hw.1 hw.2) v1 I (by
          unfold fX12_oneTick_25
          exact ⟨fun hc1 => ⟨((hok).1 hc1).1, ⟨((hok).1 hc1).2, by rw [jX12_oneTickI_25, if_pos hc1] at hit; exact hit⟩⟩, fun hc1 => ⟨((hok).2 hc1).1, ⟨((hok).2 hc1).2, by rw [jX12_oneTickI_25, if_neg hc1] at hit; exact hit⟩⟩⟩)
    · exact fun v1 v2 I hok hit => by
        rw [jX12_oneTickO_57] at hok
        exact sX12_oneTick_57 d hT    (K2 := fun w1 I_ => (jX12_oneTickO  n 0 w1 0 0 I_ ∧ jX12_oneTickI  n 0 w1 0 0 I_ = R)) (K25 := fun w1 I_ => (jX12_oneTickO  n 1 w1 0 0 I_ ∧ jX12_oneTickI  n 1 w1 0 0 I_ = R)) (K57 := fun w1 w2 I_ => (jX12_oneTickO  n 2 w1 w2 0 I_ ∧ jX12_oneTickI  n 2 w1 w2 0 I_ = R)) (K179 := fun w1 w2 w3 I_ => (jX12_oneTickO  n 3 w1 w2 w3 I_ ∧ jX12_oneTickI  n 3 w1 w2 w3 I_ = R)) (fun w1 I_ hw => ih.1 w1 I_ hw.1 hw.2) (fun w1 I_ hw => ih.2.1 w1 I_ hw.1 hw.2) (fun w1 w2 I_ hw => ih.2.2.1 w1 w2 I_ hw.1 hw.2) (fun w1 w2 w3 I_ hw => ih.2.2.2 w1 w2 w3 I_ hw.1 hw.2) v1 v2 I (by
          unfold fX12_oneTick_57
          exact ⟨fun hc1 => ⟨fun hc2 => ⟨((hok).1 hc1).1 hc2, by rw [jX12_oneTickI_57, if_pos hc1, if_pos hc2] at hit; exact hit⟩, fun hc2 => ⟨((hok).1 hc1).2 hc2, by rw [jX12_oneTickI_57, if_pos hc1, if_neg hc2] at hit; exact hit⟩⟩, fun hc1 => ⟨fun hc3 => ⟨((hok).2 hc1).1 hc3, by rw [jX12_oneTickI_57, if_neg hc1, if_neg hc3] at hit; exact hit⟩, fun hc3 => ⟨(((hok).2 hc1).2 hc3).1, ⟨fun hc4 => ⟨(((((hok).2 hc1).2 hc3).2).1 hc4).1, ⟨((((((hok).2 hc1).2 hc3).2).1 hc4).2).1, ⟨fun hc5 => ⟨((((((((hok).2 hc1).2 hc3).2).1 hc4).2).2).1 hc5).1, ⟨(((((((((hok).2 hc1).2 hc3).2).1 hc4).2).2).1 hc5).2).1, ⟨fun hc6 => ⟨(((((((((((hok).2 hc1).2 hc3).2).1 hc4).2).2).1 hc5).2).2).1 hc6).1, ⟨(((((((((((hok).2 hc1).2 hc3).2).1 hc4).2).2).1 hc5).2).2).1 hc6).2, by rw [jX12_oneTickI_57, if_neg hc1, if_pos hc3, if_neg hc4, if_pos hc5, if_pos hc6] at hit; exact hit⟩⟩, fun hc6 => ⟨(((((((((((hok).2 hc1).2 hc3).2).1 hc4).2).2).1 hc5).2).2).2 hc6).1, ⟨((((((((((((hok).2 hc1).2 hc3).2).1 hc4).2).2).1 hc5).2).2).2 hc6).2).1, ⟨((((((((((((hok).2 hc1).2 hc3).2).1 hc4).2).2).1 hc5).2).2).2 hc6).2).2, by rw [jX12_oneTickI_57, if_neg hc1, if_pos hc3, if_neg hc4, if_pos hc5, if_neg hc6] at hit; exact hit⟩⟩⟩⟩⟩⟩, fun hc5 => ⟨((((((((hok).2 hc1).2 hc3).2).1 hc4).2).2).2 hc5).1, ⟨(((((((((hok).2 hc1).2 hc3).2).1 hc4).2).2).2 hc5).2).1, ⟨fun hc7 => ⟨(((((((((((hok).2 hc1).2 hc3).2).1 hc4).2).2).2 hc5).2).2).1 hc7).1, ⟨(((((((((((hok).2 hc1).2 hc3).2).1 hc4).2).2).2 hc5).2).2).1 hc7).2, by rw [jX12_oneTickI_57, if_neg hc1, if_pos hc3, if_neg hc4, if_neg hc5, if_pos hc7] at hit; exact hit⟩⟩, fun hc7 => ⟨(((((((((((hok).2 hc1).2 hc3).2).1 hc4).2).2).2 hc5).2).2).2 hc7).1, ⟨((((((((((((hok).2 hc1).2 hc3).2).1 hc4).2).2).2 hc5).2).2).2 hc7).2).1, ⟨((((((((((((hok).2 hc1).2 hc3).2).1 hc4).2).2).2 hc5).2).2).2 hc7).2).2, by rw [jX12_oneTickI_57, if_neg hc1, if_pos hc3, if_neg hc4, if_neg hc5, if_neg hc7] at hit; exact hit⟩⟩⟩⟩⟩⟩⟩⟩⟩, fun hc4 => ⟨((((hok).2 hc1).2 hc3).2).2 hc4, by rw [jX12_oneTickI_57, if_neg hc1, if_pos hc3, if_pos hc4] at hit; exact hit⟩⟩⟩⟩⟩)
    · exact fun v1 v2 v3 I hok hit => by
        rw [jX12_oneTickO_179] at hok
        exact sX12_oneTick_179 d hT    (K2 := fun w1 I_ => (jX12_oneTickO  n 0 w1 0 0 I_ ∧ jX12_oneTickI  n 0 w1 0 0 I_ = R)) (K25 := fun w1 I_ => (jX12_oneTickO  n 1 w1 0 0 I_ ∧ jX12_oneTickI  n 1 w1 0 0 I_ = R)) (K57 := fun w1 w2 I_ => (jX12_oneTickO  n 2 w1 w2 0 I_ ∧ jX12_oneTickI  n 2 w1 w2 0 I_ = R)) (K179 := fun w1 w2 w3 I_ => (jX12_oneTickO  n 3 w1 w2 w3 I_ ∧ jX12_oneTickI  n 3 w1 w2 w3 I_ = R)) (fun w1 I_ hw => ih.1 w1 I_ hw.1 hw.2) (fun w1 I_ hw => ih.2.1 w1 I_ hw.1 hw.2) (fun w1 w2 I_ hw => ih.2.2.1 w1 w2 I_ hw.1 hw.2) (fun w1 w2 w3 I_ hw => ih.2.2.2 w1 w2 w3 I_ hw.1 hw.2) v1 v2 v3 I (by
          unfold fX12_oneTick_179
          exact ⟨fun hc1 => ⟨rfl, by rw [jX12_oneTickI_179, if_pos hc1] at hit; exact hit⟩, fun hc1 => ⟨fun hc2 => ⟨fun hc3 => ⟨(((hok).2 hc1).1 hc2).1 hc3, by rw [jX12_oneTickI_179, if_neg hc1, if_neg hc2, if_pos hc3] at hit; exact hit⟩, fun hc3 => ⟨(((hok).2 hc1).1 hc2).2 hc3, by rw [jX12_oneTickI_179, if_neg hc1, if_neg hc2, if_neg hc3] at hit; exact hit⟩⟩, fun hc2 => ⟨(((hok).2 hc1).2 hc2).1, ⟨fun hc4 => ⟨fun hc5 => ⟨(((((hok).2 hc1).2 hc2).2).1 hc4).1 hc5, by rw [jX12_oneTickI_179, if_neg hc1, if_pos hc2, if_pos hc4, if_pos hc5] at hit; exact hit⟩, fun hc5 => ⟨(((((hok).2 hc1).2 hc2).2).1 hc4).2 hc5, by rw [jX12_oneTickI_179, if_neg hc1, if_pos hc2, if_pos hc4, if_neg hc5] at hit; exact hit⟩⟩, fun hc4 => ⟨(((((hok).2 hc1).2 hc2).2).2 hc4).1, ⟨fun hc6 => ⟨fun hc7 => ⟨(((((((hok).2 hc1).2 hc2).2).2 hc4).2).1 hc6).1 hc7, by rw [jX12_oneTickI_179, if_neg hc1, if_pos hc2, if_neg hc4, if_pos hc6, if_pos hc7] at hit; exact hit⟩, fun hc7 => ⟨(((((((hok).2 hc1).2 hc2).2).2 hc4).2).1 hc6).2 hc7, by rw [jX12_oneTickI_179, if_neg hc1, if_pos hc2, if_neg hc4, if_pos hc6, if_neg hc7] at hit; exact hit⟩⟩, fun hc6 => ⟨(((((((hok).2 hc1).2 hc2).2).2 hc4).2).2 hc6).1, ⟨fun hc8 => ⟨fun hc9 => ⟨(((((((((hok).2 hc1).2 hc2).2).2 hc4).2).2 hc6).2).1 hc8).1 hc9, by rw [jX12_oneTickI_179, if_neg hc1, if_pos hc2, if_neg hc4, if_neg hc6, if_pos hc8, if_pos hc9] at hit; exact hit⟩, fun hc9 => ⟨(((((((((hok).2 hc1).2 hc2).2).2 hc4).2).2 hc6).2).1 hc8).2 hc9, by rw [jX12_oneTickI_179, if_neg hc1, if_pos hc2, if_neg hc4, if_neg hc6, if_pos hc8, if_neg hc9] at hit; exact hit⟩⟩, fun hc8 => ⟨(((((((((hok).2 hc1).2 hc2).2).2 hc4).2).2 hc6).2).2 hc8).1, ⟨fun hc10 => ⟨fun hc11 => ⟨(((((((((((hok).2 hc1).2 hc2).2).2 hc4).2).2 hc6).2).2 hc8).2).1 hc10).1 hc11, by rw [jX12_oneTickI_179, if_neg hc1, if_pos hc2, if_neg hc4, if_neg hc6, if_neg hc8, if_pos hc10, if_pos hc11] at hit; exact hit⟩, fun hc11 => ⟨(((((((((((hok).2 hc1).2 hc2).2).2 hc4).2).2 hc6).2).2 hc8).2).1 hc10).2 hc11, by rw [jX12_oneTickI_179, if_neg hc1, if_pos hc2, if_neg hc4, if_neg hc6, if_neg hc8, if_pos hc10, if_neg hc11] at hit; exact hit⟩⟩, fun hc10 => ⟨(((((((((((hok).2 hc1).2 hc2).2).2 hc4).2).2 hc6).2).2 hc8).2).2 hc10).1, ⟨((((((((((((hok).2 hc1).2 hc2).2).2 hc4).2).2 hc6).2).2 hc8).2).2 hc10).2).1, ⟨fun hc12 => ⟨fun hc13 => ⟨((((((((((((((hok).2 hc1).2 hc2).2).2 hc4).2).2 hc6).2).2 hc8).2).2 hc10).2).2).1 hc12).1 hc13, by rw [jX12_oneTickI_179, if_neg hc1, if_pos hc2, if_neg hc4, if_neg hc6, if_neg hc8, if_neg hc10, if_pos hc12, if_pos hc13] at hit; exact hit⟩, fun hc13 => ⟨((((((((((((((hok).2 hc1).2 hc2).2).2 hc4).2).2 hc6).2).2 hc8).2).2 hc10).2).2).1 hc12).2 hc13, by rw [jX12_oneTickI_179, if_neg hc1, if_pos hc2, if_neg hc4, if_neg hc6, if_neg hc8, if_neg hc10, if_pos hc12, if_neg hc13] at hit; exact hit⟩⟩, fun hc12 => ⟨((((((((((((((hok).2 hc1).2 hc2).2).2 hc4).2).2 hc6).2).2 hc8).2).2 hc10).2).2).2 hc12).1, ⟨fun hc14 => ⟨fun hc15 => ⟨((((((((((((((((hok).2 hc1).2 hc2).2).2 hc4).2).2 hc6).2).2 hc8).2).2 hc10).2).2).2 hc12).2).1 hc14).1 hc15, by rw [jX12_oneTickI_179, if_neg hc1, if_pos hc2, if_neg hc4, if_neg hc6, if_neg hc8, if_neg hc10, if_neg hc12, if_pos hc14, if_pos hc15] at hit; exact hit⟩, fun hc15 => ⟨((((((((((((((((hok).2 hc1).2 hc2).2).2 hc4).2).2 hc6).2).2 hc8).2).2 hc10).2).2).2 hc12).2).1 hc14).2 hc15, by rw [jX12_oneTickI_179, if_neg hc1, if_pos hc2, if_neg hc4, if_neg hc6, if_neg hc8, if_neg hc10, if_neg hc12, if_pos hc14, if_neg hc15] at hit; exact hit⟩⟩, fun hc14 => ⟨((((((((((((((((hok).2 hc1).2 hc2).2).2 hc4).2).2 hc6).2).2 hc8).2).2 hc10).2).2).2 hc12).2).2 hc14).1, ⟨(((((((((((((((((hok).2 hc1).2 hc2).2).2 hc4).2).2 hc6).2).2 hc8).2).2 hc10).2).2).2 hc12).2).2 hc14).2).1, ⟨((((((((((((((((((hok).2 hc1).2 hc2).2).2 hc4).2).2 hc6).2).2 hc8).2).2 hc10).2).2).2 hc12).2).2 hc14).2).2).1, ⟨fun hc16 => ⟨(((((((((((((((((((hok).2 hc1).2 hc2).2).2 hc4).2).2 hc6).2).2 hc8).2).2 hc10).2).2).2 hc12).2).2 hc14).2).2).2).1 hc16, by rw [jX12_oneTickI_179, if_neg hc1, if_pos hc2, if_neg hc4, if_neg hc6, if_neg hc8, if_neg hc10, if_neg hc12, if_neg hc14, if_pos hc16] at hit; exact hit⟩, fun hc16 => ⟨(((((((((((((((((((hok).2 hc1).2 hc2).2).2 hc4).2).2 hc6).2).2 hc8).2).2 hc10).2).2).2 hc12).2).2 hc14).2).2).2).2 hc16, by rw [jX12_oneTickI_179, if_neg hc1, if_pos hc2, if_neg hc4, if_neg hc6, if_neg hc8, if_neg hc10, if_neg hc12, if_neg hc14, if_neg hc16] at hit; exact hit⟩⟩⟩⟩⟩⟩⟩⟩⟩⟩⟩⟩⟩⟩⟩⟩⟩⟩⟩⟩)
set_option maxRecDepth 10000 in
set_option maxHeartbeats 1000000 in
theorem qX12_oneTick (d : Nat) {T : Topo} {I : IM} (hT : Lay T)   (hp : (jX12_oneTickK I)) : CtV (d + 3) mX12_oneTick [.ref 79] T I (fun J_ => J_ = (jX12_oneTick I)) := by
  unfold jX12_oneTickK at hp
  exact Ct.ofJ (by decide +kernel) rfl (by intro v hv; revert v hv; simp [Value.category]) rfl (sX12_oneTick_0 d hT    (K2 := fun w1 I_ => (jX12_oneTickO  FU 0 w1 0 0 I_ ∧ jX12_oneTickI  FU 0 w1 0 0 I_ = (jX12_oneTick I ))) (K25 := fun w1 I_ => (jX12_oneTickO  FU 1 w1 0 0 I_ ∧ jX12_oneTickI  FU 1 w1 0 0 I_ = (jX12_oneTick I ))) (K57 := fun w1 w2 I_ => (jX12_oneTickO  FU 2 w1 w2 0 I_ ∧ jX12_oneTickI  FU 2 w1 w2 0 I_ = (jX12_oneTick I ))) (K179 := fun w1 w2 w3 I_ => (jX12_oneTickO  FU 3 w1 w2 w3 I_ ∧ jX12_oneTickI  FU 3 w1 w2 w3 I_ = (jX12_oneTick I ))) (fun w1 I_ hw => (uX12_oneTick d hT    FU).1 w1 I_ hw.1 hw.2) (fun w1 I_ hw => (uX12_oneTick d hT    FU).2.1 w1 I_ hw.1 hw.2) (fun w1 w2 I_ hw => (uX12_oneTick d hT    FU).2.2.1 w1 w2 I_ hw.1 hw.2) (fun w1 w2 w3 I_ hw => (uX12_oneTick d hT    FU).2.2.2 w1 w2 w3 I_ hw.1 hw.2) I (by
    unfold fX12_oneTick_0
    exact ⟨hp, rfl⟩))

def fX12_run_0 (T : Topo) (a1 : Int32) (Q : Int32 → Topo → IM → Prop) (K24 : Int32 → Int32 → IM → Prop) (I : IM) : Prop :=
  ((((wi a1 1 24) → K24 (I 79 6) 0 I) ∧ ((¬ (wi a1 1 24)) → (Q (jX12_finds (-1000001)) T (jX12_findsM I)))))
def fX12_run_24 (T : Topo) (a1 : Int32) (Q : Int32 → Topo → IM → Prop) (K24 : Int32 → Int32 → IM → Prop) (v2 v3 : Int32) (I : IM) : Prop :=
  (((a1 ≤ v3) → Q ((I 79 6) - v2) T I) ∧ ((¬ a1 ≤ v3) → (((jX12_oneTickK I)) ∧ K24 v2 (v3 + 1) (jX12_oneTick I))))
set_option maxHeartbeats 4000000 in
set_option maxRecDepth 100000 in
theorem sX12_run_0 (d : Nat) {T : Topo} (hT : Lay T) (a1 : Int32)    {Q : Int32 → Topo → IM → Prop} {K24 : Int32 → Int32 → IM → Prop} (hK24 : ∀ (v2 v3 : Int32) (I : IM), K24 v2 v3 I → J (d + 4) mX12_run (PI Q) 0 0 24 [some (.ref 79), some (.int a1), some (.int v2), some (.int v3)] [] T I 0 0) (I : IM) (h : fX12_run_0 T a1 Q K24 I) : J (d + 4) mX12_run (PI Q) 0 0 0 [some (.ref 79), some (.int a1), none, none] [] T I 0 0 := by
  unfold fX12_run_0 at h
  refine J.iload_n dX12_run_0 rfl rfl ?_
  refine J.iconst (v := 1) dX12_run_1 (by decide) ?_
  refine J.bipush (v := 24) dX12_run_2 (by decide) ?_
  refine J.callSP (as := [.int a1, .int 1, .int 24]) (rest := []) dX12_run_4 kX12_in vX12_in lX12_189 rfl rfl rfl (by omega) (Nat.le_refl _) (Nat.le_refl _) (qX12_in (d + 3) hT a1 1 24 ) ?_
  refine J.bz_ne (tgt := 17) dX12_run_7 (by decide) (fun hc1 => ?_) (fun hc1 => ?_)
  · have h := h.1 hc1
    refine J.aload_n dX12_run_17 rfl rfl ?_
    refine J.getI dX12_run_18 fX12_329 (hT.k 79 rfl) rfl ?_
    refine J.istore_n (ls' := [some (.ref 79), some (.int a1), some (.int (I 79 6)), none]) dX12_run_21 rfl rfl rfl ?_
    refine J.iconst (v := 0) dX12_run_22 (by decide) ?_
    refine J.istore_n (ls' := [some (.ref 79), some (.int a1), some (.int (I 79 6)), some (.int 0)]) dX12_run_23 rfl rfl rfl ?_
    exact J.weaken (ls' := [some (.ref 79), some (.int a1), some (.int (I 79 6)), some (.int 0)]) (And.intro rfl (And.intro rfl (And.intro rfl (And.intro rfl trivial)))) (hK24 (I 79 6) 0 I h)
  · have h := h.2 hc1
    refine J.aload_n dX12_run_10 rfl rfl ?_
    refine J.ldc (v := (-1000001)) dX12_run_11 kcX12_199 ?_
    refine J.callVE (k := 79) (as := [.int (-1000001)]) (rest := []) dX12_run_13 kX12_finds vX12_finds lX12_200 (hT.k 79 rfl) rfl rfl rfl rfl rfl (by omega) (Nat.le_refl _) (Nat.le_refl _) (qX12_finds (d + 3) hT (-1000001) ) ?_
    exact J.iretQ dX12_run_16 rfl (Nat.le_refl _) (Nat.le_refl _) h
set_option maxHeartbeats 4000000 in
set_option maxRecDepth 100000 in
theorem sX12_run_24 (d : Nat) {T : Topo} (hT : Lay T) (a1 : Int32)    {Q : Int32 → Topo → IM → Prop} {K24 : Int32 → Int32 → IM → Prop} (hK24 : ∀ (v2 v3 : Int32) (I : IM), K24 v2 v3 I → J (d + 4) mX12_run (PI Q) 0 0 24 [some (.ref 79), some (.int a1), some (.int v2), some (.int v3)] [] T I 0 0) (v2 v3 : Int32) (I : IM) (h : fX12_run_24 T a1 Q K24 v2 v3 I) : J (d + 4) mX12_run (PI Q) 0 0 24 [some (.ref 79), some (.int a1), some (.int v2), some (.int v3)] [] T I 0 0 := by
  unfold fX12_run_24 at h
  refine J.iload_n dX12_run_24 rfl rfl ?_
  refine J.iload_n dX12_run_25 rfl rfl ?_
  refine J.icmp_ge (tgt := 39) dX12_run_26 (by decide) (fun hc1 => ?_) (fun hc1 => ?_)
  · have h := h.1 hc1
    refine J.aload_n dX12_run_39 rfl rfl ?_
    refine J.getI dX12_run_40 fX12_329 (hT.k 79 rfl) rfl ?_
    refine J.iload_n dX12_run_43 rfl rfl ?_
    refine J.isub dX12_run_44 ?_
    exact J.iretQ dX12_run_45 rfl (Nat.le_refl _) (Nat.le_refl _) h
  · have h := h.2 hc1
    refine J.aload_n dX12_run_29 rfl rfl ?_
    obtain ⟨hp2, h⟩ := h
    refine J.callVD (k := 79) (as := []) (rest := []) dX12_run_30 kX12_oneTick vX12_oneTick lX12_344 (hT.k 79 rfl) rfl rfl rfl rfl rfl (by omega) (Nat.le_refl _) (Nat.le_refl _) (qX12_oneTick (d + 0) hT  hp2) ?_
    refine J.iinc (v := (v3 + 1)) (ls' := [some (.ref 79), some (.int a1), some (.int v2), some (.int (v3 + 1))]) dX12_run_33 rfl (by rfl) rfl ?_
    refine J.goto (tgt := 24) dX12_run_36 (by decide) ?_
    exact J.weaken (ls' := [some (.ref 79), some (.int a1), some (.int v2), some (.int (v3 + 1))]) (And.intro rfl (And.intro rfl (And.intro rfl (And.intro rfl trivial)))) (hK24 v2 (v3 + 1) (jX12_oneTick I) h)
set_option maxHeartbeats 4000000 in
set_option maxRecDepth 100000 in
theorem wX12_run (d : Nat) {T : Topo} (hT : Lay T) (a1 : Int32)   {Q : Int32 → Topo → IM → Prop} (V24 : Int32 → Int32 → IM → Prop) (μ24 : Int32 → Int32 → IM → Nat) (vc24 : ∀ (v2 v3 : Int32) (I : IM), V24 v2 v3 I → fX12_run_24 T a1 Q (fun w2 w3 I_ => V24 w2 w3 I_ ∧ μ24 w2 w3 I_ < μ24 v2 v3 I) v2 v3 I) {I : IM} (h : fX12_run_0 T a1 Q V24 I) : Ct (d + 4) mX12_run [.ref 79, .int a1] T I 0 0 (PI Q) := by
  have all : ∀ n : Nat, (∀ (v2 v3 : Int32) (I : IM), V24 v2 v3 I → μ24 v2 v3 I < n → J (d + 4) mX12_run (PI Q) 0 0 24 [some (.ref 79), some (.int a1), some (.int v2), some (.int v3)] [] T I 0 0) := by
    intro n
    induction n with
    | zero => exact fun _ _ _ _ hn => absurd hn (Nat.not_lt_zero _)
    | succ n ih =>
      exact fun v2 v3 I hv hn => sX12_run_24 d hT a1   (fun w2 w3 I_ hw => ih w2 w3 I_ hw.1 (by have := hw.2; omega)) v2 v3 I (vc24 v2 v3 I hv)
  exact Ct.ofJ (by decide +kernel) rfl (by intro v hv; revert v hv; simp [Value.category]) rfl (sX12_run_0 d hT a1   (fun w2 w3 I_ hw => (all (μ24 w2 w3 I_ + 1)) w2 w3 I_ hw (Nat.lt_succ_self _)) I h)

def jX12_runI (a1 : Int32) : Nat → Int32 → Int32 → IM → Int32 × IM
  | 0 => fun _ _ I => (0, I)
  | n + 1 => fun v2 v3 I => (if a1 ≤ v3 then (((I 79 6) - v2), I) else (jX12_runI a1 n v2 (v3 + 1) (jX12_oneTick I)))
def jX12_runO (a1 : Int32) : Nat → Int32 → Int32 → IM → Prop
  | 0 => fun _ _ _ => False
  | n + 1 => fun v2 v3 I => (((a1 ≤ v3) → True) ∧ ((¬ a1 ≤ v3) → (((jX12_oneTickK I)) ∧ (jX12_runO a1 n v2 (v3 + 1) (jX12_oneTick I)))))
theorem jX12_runI_24 (a1 : Int32) (n : Nat) (v2 v3 : Int32) (I : IM) : jX12_runI a1 (n + 1) v2 v3 I = (if a1 ≤ v3 then (((I 79 6) - v2), I) else (jX12_runI a1 n v2 (v3 + 1) (jX12_oneTick I))) := rfl
theorem jX12_runO_24 (a1 : Int32) (n : Nat) (v2 v3 : Int32) (I : IM) : jX12_runO a1 (n + 1) v2 v3 I = (((a1 ≤ v3) → True) ∧ ((¬ a1 ≤ v3) → (((jX12_oneTickK I)) ∧ (jX12_runO a1 n v2 (v3 + 1) (jX12_oneTick I))))) := rfl
def jX12_run (I : IM) (a1 : Int32) : Int32 × IM := (if wi a1 1 24 then (jX12_runI a1 FU (I 79 6) 0 I) else ((jX12_finds (-1000001)), (jX12_findsM I)))
def jX12_runK (I : IM) (a1 : Int32) : Prop := (((wi a1 1 24) → (jX12_runO a1 FU (I 79 6) 0 I)) ∧ ((¬ (wi a1 1 24)) → True))
set_option maxRecDepth 10000 in
set_option maxHeartbeats 1000000 in
theorem uX12_run (d : Nat) {T : Topo} (hT : Lay T) (a1 : Int32)   {R : Int32 × IM} : ∀ n : Nat, (∀ (v2 v3 : Int32) (I : IM), jX12_runO a1 n v2 v3 I → jX12_runI a1 n v2 v3 I = R → J (d + 4) mX12_run (PI (fun x T' I' => T' = T ∧ x = R.1 ∧ I' = R.2)) 0 0 24 [some (.ref 79), some (.int a1), some (.int v2), some (.int v3)] [] T I 0 0) := by
  intro n
  induction n with
  | zero => exact fun _ _ _ hz => hz.elim
  | succ n ih =>
    exact fun v2 v3 I hok hit => by
        rw [jX12_runO_24] at hok
        exact sX12_run_24 d hT a1   (K24 := fun w2 w3 I_ => (jX12_runO a1 n w2 w3 I_ ∧ jX12_runI a1 n w2 w3 I_ = R)) (fun w2 w3 I_ hw => ih w2 w3 I_ hw.1 hw.2) v2 v3 I (by
          unfold fX12_run_24
          exact ⟨fun hc1 => (by rw [jX12_runI_24, if_pos hc1] at hit; exact ⟨rfl, by rw [← hit], by rw [← hit]⟩), fun hc1 => ⟨((hok).2 hc1).1, ⟨((hok).2 hc1).2, by rw [jX12_runI_24, if_neg hc1] at hit; exact hit⟩⟩⟩)
set_option maxRecDepth 10000 in
set_option maxHeartbeats 1000000 in
theorem qX12_run (d : Nat) {T : Topo} {I : IM} (hT : Lay T) (a1 : Int32)  (hp : (jX12_runK I a1)) : CtI (d + 4) mX12_run [.ref 79, .int a1] T I (fun x_ J_ => x_ = (jX12_run I a1).1 ∧ J_ = (jX12_run I a1).2) := by
  unfold jX12_runK at hp
  exact Ct.ofJ (by decide +kernel) rfl (by intro v hv; revert v hv; simp [Value.category]) rfl (sX12_run_0 d hT a1   (K24 := fun w2 w3 I_ => (jX12_runO a1 FU w2 w3 I_ ∧ jX12_runI a1 FU w2 w3 I_ = (jX12_run I a1))) (fun w2 w3 I_ hw => uX12_run d hT a1   FU w2 w3 I_ hw.1 hw.2) I (by
    unfold fX12_run_0
    exact ⟨fun hc1 => ⟨(hp).1 hc1, by unfold jX12_run; rw [if_pos hc1]⟩, fun hc1 => ⟨rfl, by unfold jX12_run; rw [if_neg hc1], by unfold jX12_run; rw [if_neg hc1]⟩⟩))

def fX12_lays_0 (T : Topo) (a1 : Int32) (Q : Int32 → Topo → IM → Prop) (K2 : Int32 → IM → Prop) (K41 : Int32 → IM → Prop) (I : IM) : Prop :=
  K2 0 I
def fX12_lays_2 (T : Topo) (a1 : Int32) (Q : Int32 → Topo → IM → Prop) (K2 : Int32 → IM → Prop) (K41 : Int32 → IM → Prop) (v2 : Int32) (I : IM) : Prop :=
  (((8 ≤ v2) → (((jX12_afterK I a1 (-1))) ∧ ((((I 79 2) ≤ (jX12_after I a1 (-1))) → K41 (jX12_after I a1 (-1)) I) ∧ ((¬ (I 79 2) ≤ (jX12_after I a1 (-1))) → (((jX12_startK I (jX12_after I a1 (-1)))) ∧ K41 (jX12_after I a1 (-1)) (jX12_startM I (jX12_after I a1 (-1)))))))) ∧ ((¬ 8 ≤ v2) → (vp_in v2 8 ∧ K2 (v2 + 1) (up2 I 106 v2.toNatClampNeg 0))))
def fX12_lays_41 (T : Topo) (a1 : Int32) (Q : Int32 → Topo → IM → Prop) (K2 : Int32 → IM → Prop) (K41 : Int32 → IM → Prop) (v2 : Int32) (I : IM) : Prop :=
  ((((I 79 2) ≤ v2) → Q 1 T I) ∧ ((¬ (I 79 2) ≤ v2) → (((jX12_comesInK I v2)) ∧ (((¬ ((jX12_comesIn I v2).1) = (-1000006)) → (((¬ ((jX12_comesIn I v2).1) = 1) → (((jX12_beforeK (jX12_comesIn I v2).2 a1 v2)) ∧ (((0 ≤ (jX12_before (jX12_comesIn I v2).2 a1 v2)) → K41 (jX12_before (jX12_comesIn I v2).2 a1 v2) (jX12_comesIn I v2).2) ∧ ((¬ 0 ≤ (jX12_before (jX12_comesIn I v2).2 a1 v2)) → Q 0 T (jX12_comesIn I v2).2)))) ∧ ((((jX12_comesIn I v2).1) = 1) → (((jX12_afterK (jX12_comesIn I v2).2 a1 v2)) ∧ (((((jX12_comesIn I v2).2 79 2) ≤ (jX12_after (jX12_comesIn I v2).2 a1 v2)) → K41 (jX12_after (jX12_comesIn I v2).2 a1 v2) (jX12_comesIn I v2).2) ∧ ((¬ ((jX12_comesIn I v2).2 79 2) ≤ (jX12_after (jX12_comesIn I v2).2 a1 v2)) → (((jX12_startK (jX12_comesIn I v2).2 (jX12_after (jX12_comesIn I v2).2 a1 v2))) ∧ K41 (jX12_after (jX12_comesIn I v2).2 a1 v2) (jX12_startM (jX12_comesIn I v2).2 (jX12_after (jX12_comesIn I v2).2 a1 v2))))))))) ∧ ((((jX12_comesIn I v2).1) = (-1000006)) → Q (-1000006) T (jX12_comesIn I v2).2)))))
set_option maxHeartbeats 4000000 in
set_option maxRecDepth 100000 in
theorem sX12_lays_0 (d : Nat) {T : Topo} (hT : Lay T) (a1 : Int32)    {Q : Int32 → Topo → IM → Prop} {K2 : Int32 → IM → Prop} {K41 : Int32 → IM → Prop} (hK2 : ∀ (v2 : Int32) (I : IM), K2 v2 I → J (d + 5) mX12_lays (PI Q) 0 0 2 [some (.ref 79), some (.int a1), some (.int v2), none] [] T I 0 0) (hK41 : ∀ (v2 : Int32) (I : IM), K41 v2 I → J (d + 5) mX12_lays (PI Q) 0 0 41 [some (.ref 79), some (.int a1), some (.int v2), none] [] T I 0 0) (I : IM) (h : fX12_lays_0 T a1 Q K2 K41 I) : J (d + 5) mX12_lays (PI Q) 0 0 0 [some (.ref 79), some (.int a1), none, none] [] T I 0 0 := by
  unfold fX12_lays_0 at h
  refine J.iconst (v := 0) dX12_lays_0 (by decide) ?_
  refine J.istore_n (ls' := [some (.ref 79), some (.int a1), some (.int 0), none]) dX12_lays_1 rfl rfl rfl ?_
  exact J.weaken (ls' := [some (.ref 79), some (.int a1), some (.int 0), none]) (And.intro rfl (And.intro rfl (And.intro rfl trivial))) (hK2 0 I h)
set_option maxHeartbeats 4000000 in
set_option maxRecDepth 100000 in
theorem sX12_lays_2 (d : Nat) {T : Topo} (hT : Lay T) (a1 : Int32)    {Q : Int32 → Topo → IM → Prop} {K2 : Int32 → IM → Prop} {K41 : Int32 → IM → Prop} (hK2 : ∀ (v2 : Int32) (I : IM), K2 v2 I → J (d + 5) mX12_lays (PI Q) 0 0 2 [some (.ref 79), some (.int a1), some (.int v2), none] [] T I 0 0) (hK41 : ∀ (v2 : Int32) (I : IM), K41 v2 I → J (d + 5) mX12_lays (PI Q) 0 0 41 [some (.ref 79), some (.int a1), some (.int v2), none] [] T I 0 0) (v2 : Int32) (I : IM) (h : fX12_lays_2 T a1 Q K2 K41 v2 I) : J (d + 5) mX12_lays (PI Q) 0 0 2 [some (.ref 79), some (.int a1), some (.int v2), none] [] T I 0 0 := by
  unfold fX12_lays_2 at h
  refine J.iload_n dX12_lays_2 rfl rfl ?_
  refine J.bipush (v := 8) dX12_lays_3 (by decide) ?_
  refine J.icmp_ge (tgt := 21) dX12_lays_5 (by decide) (fun hc1 => ?_) (fun hc1 => ?_)
  · have h := h.1 hc1
    refine J.aload_n dX12_lays_21 rfl rfl ?_
    refine J.iload_n dX12_lays_22 rfl rfl ?_
    refine J.iconst (v := (-1)) dX12_lays_23 (by decide) ?_
    obtain ⟨hp2, h⟩ := h
    refine J.callVP (k := 79) (as := [.int a1, .int (-1)]) (rest := []) dX12_lays_24 kX12_after vX12_after lX12_305 (hT.k 79 rfl) rfl rfl rfl rfl rfl (by omega) (Nat.le_refl _) (Nat.le_refl _) (qX12_after (d + 3) hT a1 (-1) hp2) ?_
    refine J.istore_n (ls' := [some (.ref 79), some (.int a1), some (.int (jX12_after I a1 (-1))), none]) dX12_lays_27 rfl rfl rfl ?_
    refine J.iload_n dX12_lays_28 rfl rfl ?_
    refine J.aload_n dX12_lays_29 rfl rfl ?_
    refine J.getI dX12_lays_30 fX12_196 (hT.k 79 rfl) rfl ?_
    refine J.icmp_ge (tgt := 41) dX12_lays_33 (by decide) (fun hc3 => ?_) (fun hc3 => ?_)
    · have h := h.1 hc3
      exact J.weaken (ls' := [some (.ref 79), some (.int a1), some (.int (jX12_after I a1 (-1))), none]) (And.intro rfl (And.intro rfl (And.intro rfl trivial))) (hK41 (jX12_after I a1 (-1)) I h)
    · have h := h.2 hc3
      refine J.aload_n dX12_lays_36 rfl rfl ?_
      refine J.iload_n dX12_lays_37 rfl rfl ?_
      obtain ⟨hp4, h⟩ := h
      refine J.callVD (k := 79) (as := [.int (jX12_after I a1 (-1))]) (rest := []) dX12_lays_38 kX12_start vX12_start lX12_284 (hT.k 79 rfl) rfl rfl rfl rfl rfl (by omega) (Nat.le_refl _) (Nat.le_refl _) (qX12_start (d + 1) hT (jX12_after I a1 (-1)) hp4) ?_
      exact J.weaken (ls' := [some (.ref 79), some (.int a1), some (.int (jX12_after I a1 (-1))), none]) (And.intro rfl (And.intro rfl (And.intro rfl trivial))) (hK41 (jX12_after I a1 (-1)) (jX12_startM I (jX12_after I a1 (-1))) h)
  · have h := h.2 hc1
    refine J.aload_n dX12_lays_8 rfl rfl ?_
    refine J.getR (r := 106) dX12_lays_9 fX12_93 (hT.k 79 rfl) rfl (hT.r 79 35 rfl rfl) ?_
    refine J.iload_n dX12_lays_12 rfl rfl ?_
    refine J.iconst (v := 0) dX12_lays_13 (by decide) ?_
    obtain ⟨hs5, h⟩ := h
    refine J.bast dX12_lays_14 (hT.k 106 rfl) (hT.l 106 rfl) hs5 (Or.inl rfl) ?_
    refine J.iinc (v := (v2 + 1)) (ls' := [some (.ref 79), some (.int a1), some (.int (v2 + 1)), none]) dX12_lays_15 rfl (by rfl) rfl ?_
    refine J.goto (tgt := 2) dX12_lays_18 (by decide) ?_
    exact J.weaken (ls' := [some (.ref 79), some (.int a1), some (.int (v2 + 1)), none]) (And.intro rfl (And.intro rfl (And.intro rfl trivial))) (hK2 (v2 + 1) (up2 I 106 v2.toNatClampNeg 0) h)
set_option maxHeartbeats 4000000 in
set_option maxRecDepth 100000 in
theorem sX12_lays_41 (d : Nat) {T : Topo} (hT : Lay T) (a1 : Int32)    {Q : Int32 → Topo → IM → Prop} {K2 : Int32 → IM → Prop} {K41 : Int32 → IM → Prop} (hK2 : ∀ (v2 : Int32) (I : IM), K2 v2 I → J (d + 5) mX12_lays (PI Q) 0 0 2 [some (.ref 79), some (.int a1), some (.int v2), none] [] T I 0 0) (hK41 : ∀ (v2 : Int32) (I : IM), K41 v2 I → J (d + 5) mX12_lays (PI Q) 0 0 41 [some (.ref 79), some (.int a1), some (.int v2), none] [] T I 0 0) (v2 : Int32) (I : IM) (h : fX12_lays_41 T a1 Q K2 K41 v2 I) : J (d + 5) mX12_lays (PI Q) 0 0 41 [some (.ref 79), some (.int a1), some (.int v2), none] [] T I 0 0 := by
  unfold fX12_lays_41 at h
  refine J.iload_n dX12_lays_41 rfl rfl ?_
  refine J.aload_n dX12_lays_42 rfl rfl ?_
  refine J.getI dX12_lays_43 fX12_196 (hT.k 79 rfl) rfl ?_
  refine J.icmp_ge (tgt := 110) dX12_lays_46 (by decide) (fun hc1 => ?_) (fun hc1 => ?_)
  · have h := h.1 hc1
    refine J.iconst (v := 1) dX12_lays_110 (by decide) ?_
    exact J.iretQ dX12_lays_111 rfl (Nat.le_refl _) (Nat.le_refl _) h
  · have h := h.2 hc1
    refine J.aload_n dX12_lays_49 rfl rfl ?_
    refine J.iload_n dX12_lays_50 rfl rfl ?_
    obtain ⟨hp2, h⟩ := h
    refine J.callVE (k := 79) (as := [.int v2]) (rest := []) dX12_lays_51 kX12_comesIn vX12_comesIn lX12_308 (hT.k 79 rfl) rfl rfl rfl rfl rfl (by omega) (Nat.le_refl _) (Nat.le_refl _) (qX12_comesIn (d + 0) hT v2 hp2) ?_
    refine J.istore_n (ls' := [some (.ref 79), some (.int a1), some (.int v2), some (.int ((jX12_comesIn I v2).1))]) dX12_lays_54 rfl rfl rfl ?_
    refine J.iload_n dX12_lays_55 rfl rfl ?_
    refine J.ldcw (v := (-1000006)) dX12_lays_56 kcX12_304 ?_
    refine J.icmp_ne (tgt := 66) dX12_lays_59 (by decide) (fun hc3 => ?_) (fun hc3 => ?_)
    · have h := h.1 hc3
      refine J.iload_n dX12_lays_66 rfl rfl ?_
      refine J.iconst (v := 1) dX12_lays_67 (by decide) ?_
      refine J.icmp_ne (tgt := 94) dX12_lays_68 (by decide) (fun hc4 => ?_) (fun hc4 => ?_)
      · have h := h.1 hc4
        refine J.aload_n dX12_lays_94 rfl rfl ?_
        refine J.iload_n dX12_lays_95 rfl rfl ?_
        refine J.iload_n dX12_lays_96 rfl rfl ?_
        obtain ⟨hp5, h⟩ := h
        refine J.callVP (k := 79) (as := [.int a1, .int v2]) (rest := []) dX12_lays_97 kX12_before vX12_before lX12_311 (hT.k 79 rfl) rfl rfl rfl rfl rfl (by omega) (Nat.le_refl _) (Nat.le_refl _) (qX12_before (d + 3) hT a1 v2 hp5) ?_
        refine J.istore_n (ls' := [some (.ref 79), some (.int a1), some (.int (jX12_before (jX12_comesIn I v2).2 a1 v2)), some (.int ((jX12_comesIn I v2).1))]) dX12_lays_100 rfl rfl rfl ?_
        refine J.iload_n dX12_lays_101 rfl rfl ?_
        refine J.if_ge (tgt := 107) dX12_lays_102 (by decide) (fun hc6 => ?_) (fun hc6 => ?_)
        · have h := h.1 hc6
          refine J.goto (tgt := 41) dX12_lays_107 (by decide) ?_
          exact J.weaken (ls' := [some (.ref 79), some (.int a1), some (.int (jX12_before (jX12_comesIn I v2).2 a1 v2)), none]) (And.intro rfl (And.intro rfl (And.intro rfl trivial))) (hK41 (jX12_before (jX12_comesIn I v2).2 a1 v2) (jX12_comesIn I v2).2 h)
        · have h := h.2 hc6
          refine J.iconst (v := 0) dX12_lays_105 (by decide) ?_
          exact J.iretQ dX12_lays_106 rfl (Nat.le_refl _) (Nat.le_refl _) h
      · have h := h.2 hc4
        refine J.aload_n dX12_lays_71 rfl rfl ?_
        refine J.iload_n dX12_lays_72 rfl rfl ?_
        refine J.iload_n dX12_lays_73 rfl rfl ?_
        obtain ⟨hp7, h⟩ := h
        refine J.callVP (k := 79) (as := [.int a1, .int v2]) (rest := []) dX12_lays_74 kX12_after vX12_after lX12_305 (hT.k 79 rfl) rfl rfl rfl rfl rfl (by omega) (Nat.le_refl _) (Nat.le_refl _) (qX12_after (d + 3) hT a1 v2 hp7) ?_
        refine J.istore_n (ls' := [some (.ref 79), some (.int a1), some (.int (jX12_after (jX12_comesIn I v2).2 a1 v2)), some (.int ((jX12_comesIn I v2).1))]) dX12_lays_77 rfl rfl rfl ?_
        refine J.iload_n dX12_lays_78 rfl rfl ?_
        refine J.aload_n dX12_lays_79 rfl rfl ?_
        refine J.getI dX12_lays_80 fX12_196 (hT.k 79 rfl) rfl ?_
        refine J.icmp_ge (tgt := 107) dX12_lays_83 (by decide) (fun hc8 => ?_) (fun hc8 => ?_)
        · have h := h.1 hc8
          refine J.goto (tgt := 41) dX12_lays_107 (by decide) ?_
          exact J.weaken (ls' := [some (.ref 79), some (.int a1), some (.int (jX12_after (jX12_comesIn I v2).2 a1 v2)), none]) (And.intro rfl (And.intro rfl (And.intro rfl trivial))) (hK41 (jX12_after (jX12_comesIn I v2).2 a1 v2) (jX12_comesIn I v2).2 h)
        · have h := h.2 hc8
          refine J.aload_n dX12_lays_86 rfl rfl ?_
          refine J.iload_n dX12_lays_87 rfl rfl ?_
          obtain ⟨hp9, h⟩ := h
          refine J.callVD (k := 79) (as := [.int (jX12_after (jX12_comesIn I v2).2 a1 v2)]) (rest := []) dX12_lays_88 kX12_start vX12_start lX12_284 (hT.k 79 rfl) rfl rfl rfl rfl rfl (by omega) (Nat.le_refl _) (Nat.le_refl _) (qX12_start (d + 1) hT (jX12_after (jX12_comesIn I v2).2 a1 v2) hp9) ?_
          refine J.goto (tgt := 107) dX12_lays_91 (by decide) ?_
          refine J.goto (tgt := 41) dX12_lays_107 (by decide) ?_
          exact J.weaken (ls' := [some (.ref 79), some (.int a1), some (.int (jX12_after (jX12_comesIn I v2).2 a1 v2)), none]) (And.intro rfl (And.intro rfl (And.intro rfl trivial))) (hK41 (jX12_after (jX12_comesIn I v2).2 a1 v2) (jX12_startM (jX12_comesIn I v2).2 (jX12_after (jX12_comesIn I v2).2 a1 v2)) h)
    · have h := h.2 hc3
      refine J.ldcw (v := (-1000006)) dX12_lays_62 kcX12_304 ?_
      exact J.iretQ dX12_lays_65 rfl (Nat.le_refl _) (Nat.le_refl _) h
set_option maxHeartbeats 4000000 in
set_option maxRecDepth 100000 in
theorem wX12_lays (d : Nat) {T : Topo} (hT : Lay T) (a1 : Int32)   {Q : Int32 → Topo → IM → Prop} (V2 : Int32 → IM → Prop) (μ2 : Int32 → IM → Nat) (V41 : Int32 → IM → Prop) (μ41 : Int32 → IM → Nat) (vc2 : ∀ (v2 : Int32) (I : IM), V2 v2 I → fX12_lays_2 T a1 Q (fun w2 I_ => V2 w2 I_ ∧ μ2 w2 I_ < μ2 v2 I) (fun w2 I_ => V41 w2 I_ ∧ μ41 w2 I_ < μ2 v2 I) v2 I) (vc41 : ∀ (v2 : Int32) (I : IM), V41 v2 I → fX12_lays_41 T a1 Q (fun w2 I_ => V2 w2 I_ ∧ μ2 w2 I_ < μ41 v2 I) (fun w2 I_ => V41 w2 I_ ∧ μ41 w2 I_ < μ41 v2 I) v2 I) {I : IM} (h : fX12_lays_0 T a1 Q V2 V41 I) : Ct (d + 5) mX12_lays [.ref 79, .int a1] T I 0 0 (PI Q) := by
  have all : ∀ n : Nat, (∀ (v2 : Int32) (I : IM), V2 v2 I → μ2 v2 I < n → J (d + 5) mX12_lays (PI Q) 0 0 2 [some (.ref 79), some (.int a1), some (.int v2), none] [] T I 0 0) ∧ (∀ (v2 : Int32) (I : IM), V41 v2 I → μ41 v2 I < n → J (d + 5) mX12_lays (PI Q) 0 0 41 [some (.ref 79), some (.int a1), some (.int v2), none] [] T I 0 0) := by
    intro n
    induction n with
    | zero => exact ⟨fun _ _ _ hn => absurd hn (Nat.not_lt_zero _), fun _ _ _ hn => absurd hn (Nat.not_lt_zero _)⟩
    | succ n ih =>
      exact ⟨fun v2 I hv hn => sX12_lays_2 d hT a1   (fun w2 I_ hw => ih.1 w2 I_ hw.1 (by have := hw.2; omega)) (fun w2 I_ hw => ih.2 w2 I_ hw.1 (by have := hw.2; omega)) v2 I (vc2 v2 I hv), fun v2 I hv hn => sX12_lays_41 d hT a1   (fun w2 I_ hw => ih.1 w2 I_ hw.1 (by have := hw.2; omega)) (fun w2 I_ hw => ih.2 w2 I_ hw.1 (by have := hw.2; omega)) v2 I (vc41 v2 I hv)⟩
  exact Ct.ofJ (by decide +kernel) rfl (by intro v hv; revert v hv; simp [Value.category]) rfl (sX12_lays_0 d hT a1   (fun w2 I_ hw => (all (μ2 w2 I_ + 1)).1 w2 I_ hw (Nat.lt_succ_self _)) (fun w2 I_ hw => (all (μ41 w2 I_ + 1)).2 w2 I_ hw (Nat.lt_succ_self _)) I h)

def jX12_laysB2 (a1 : Int32) (F : (Nat → Int32 → IM → Int32 × IM)) (v2 : Int32) (I : IM) : Int32 × IM := (if 8 ≤ v2 then (if (I 79 2) ≤ (jX12_after I a1 (-1)) then (F 1 (jX12_after I a1 (-1)) I) else (F 1 (jX12_after I a1 (-1)) (jX12_startM I (jX12_after I a1 (-1))))) else (F 0 (v2 + 1) (up2 I 106 v2.toNatClampNeg 0)))
def jX12_laysC2 (a1 : Int32) (F : (Nat → Int32 → IM → Prop)) (v2 : Int32) (I : IM) : Prop := (((8 ≤ v2) → (((jX12_afterK I a1 (-1))) ∧ ((((I 79 2) ≤ (jX12_after I a1 (-1))) → (F 1 (jX12_after I a1 (-1)) I)) ∧ ((¬ (I 79 2) ≤ (jX12_after I a1 (-1))) → (((jX12_startK I (jX12_after I a1 (-1)))) ∧ (F 1 (jX12_after I a1 (-1)) (jX12_startM I (jX12_after I a1 (-1))))))))) ∧ ((¬ 8 ≤ v2) → (vp_in v2 8 ∧ (F 0 (v2 + 1) (up2 I 106 v2.toNatClampNeg 0)))))
def jX12_laysB41 (a1 : Int32) (F : (Nat → Int32 → IM → Int32 × IM)) (v2 : Int32) (I : IM) : Int32 × IM := (if (I 79 2) ≤ v2 then (1, I) else (if ((jX12_comesIn I v2).1) = (-1000006) then ((-1000006), (jX12_comesIn I v2).2) else (if ((jX12_comesIn I v2).1) = 1 then (if ((jX12_comesIn I v2).2 79 2) ≤ (jX12_after (jX12_comesIn I v2).2 a1 v2) then (F 1 (jX12_after (jX12_comesIn I v2).2 a1 v2) ((jX12_comesIn I v2).2)) else (F 1 (jX12_after (jX12_comesIn I v2).2 a1 v2) (jX12_startM (jX12_comesIn I v2).2 (jX12_after (jX12_comesIn I v2).2 a1 v2)))) else (if 0 ≤ (jX12_before (jX12_comesIn I v2).2 a1 v2) then (F 1 (jX12_before (jX12_comesIn I v2).2 a1 v2) ((jX12_comesIn I v2).2)) else (0, (jX12_comesIn I v2).2)))))
def jX12_laysC41 (a1 : Int32) (F : (Nat → Int32 → IM → Prop)) (v2 : Int32) (I : IM) : Prop := ((((I 79 2) ≤ v2) → True) ∧ ((¬ (I 79 2) ≤ v2) → (((jX12_comesInK I v2)) ∧ (((¬ ((jX12_comesIn I v2).1) = (-1000006)) → (((¬ ((jX12_comesIn I v2).1) = 1) → (((jX12_beforeK (jX12_comesIn I v2).2 a1 v2)) ∧ (((0 ≤ (jX12_before (jX12_comesIn I v2).2 a1 v2)) → (F 1 (jX12_before (jX12_comesIn I v2).2 a1 v2) ((jX12_comesIn I v2).2))) ∧ ((¬ 0 ≤ (jX12_before (jX12_comesIn I v2).2 a1 v2)) → True)))) ∧ ((((jX12_comesIn I v2).1) = 1) → (((jX12_afterK (jX12_comesIn I v2).2 a1 v2)) ∧ (((((jX12_comesIn I v2).2 79 2) ≤ (jX12_after (jX12_comesIn I v2).2 a1 v2)) → (F 1 (jX12_after (jX12_comesIn I v2).2 a1 v2) ((jX12_comesIn I v2).2))) ∧ ((¬ ((jX12_comesIn I v2).2 79 2) ≤ (jX12_after (jX12_comesIn I v2).2 a1 v2)) → (((jX12_startK (jX12_comesIn I v2).2 (jX12_after (jX12_comesIn I v2).2 a1 v2))) ∧ (F 1 (jX12_after (jX12_comesIn I v2).2 a1 v2) (jX12_startM (jX12_comesIn I v2).2 (jX12_after (jX12_comesIn I v2).2 a1 v2)))))))))) ∧ ((((jX12_comesIn I v2).1) = (-1000006)) → True)))))
def jX12_laysI (a1 : Int32) : Nat → Nat → Int32 → IM → Int32 × IM
  | 0 => fun _ _ I => (0, I)
  | n + 1 => fun tg v2 I => (if tg = 0 then jX12_laysB2 a1 (jX12_laysI a1 n) v2 I else (if tg = 1 then jX12_laysB41 a1 (jX12_laysI a1 n) v2 I else (0, I)))
def jX12_laysO (a1 : Int32) : Nat → Nat → Int32 → IM → Prop
  | 0 => fun _ _ _ => False
  | n + 1 => fun tg v2 I => (if tg = 0 then jX12_laysC2 a1 (jX12_laysO a1 n) v2 I else (if tg = 1 then jX12_laysC41 a1 (jX12_laysO a1 n) v2 I else True))
theorem jX12_laysI_2 (a1 : Int32) (n : Nat) (v2 : Int32) (I : IM) : jX12_laysI a1 (n + 1) 0 v2 I = (if 8 ≤ v2 then (if (I 79 2) ≤ (jX12_after I a1 (-1)) then (jX12_laysI a1 n 1 (jX12_after I a1 (-1)) I) else (jX12_laysI a1 n 1 (jX12_after I a1 (-1)) (jX12_startM I (jX12_after I a1 (-1))))) else (jX12_laysI a1 n 0 (v2 + 1) (up2 I 106 v2.toNatClampNeg 0))) := by
  show (if (0 : Nat) = 0 then jX12_laysB2 a1 (jX12_laysI a1 n) v2 I else (if (0 : Nat) = 1 then jX12_laysB41 a1 (jX12_laysI a1 n) v2 I else (0, I))) = _
  rw [if_pos rfl]; rfl
theorem jX12_laysO_2 (a1 : Int32) (n : Nat) (v2 : Int32) (I : IM) : jX12_laysO a1 (n + 1) 0 v2 I = (((8 ≤ v2) → (((jX12_afterK I a1 (-1))) ∧ ((((I 79 2) ≤ (jX12_after I a1 (-1))) → (jX12_laysO a1 n 1 (jX12_after I a1 (-1)) I)) ∧ ((¬ (I 79 2) ≤ (jX12_after I a1 (-1))) → (((jX12_startK I (jX12_after I a1 (-1)))) ∧ (jX12_laysO a1 n 1 (jX12_after I a1 (-1)) (jX12_startM I (jX12_after I a1 (-1))))))))) ∧ ((¬ 8 ≤ v2) → (vp_in v2 8 ∧ (jX12_laysO a1 n 0 (v2 + 1) (up2 I 106 v2.toNatClampNeg 0))))) := by
  show (if (0 : Nat) = 0 then jX12_laysC2 a1 (jX12_laysO a1 n) v2 I else (if (0 : Nat) = 1 then jX12_laysC41 a1 (jX12_laysO a1 n) v2 I else True)) = _
  rw [if_pos rfl]; rfl
theorem jX12_laysI_41 (a1 : Int32) (n : Nat) (v2 : Int32) (I : IM) : jX12_laysI a1 (n + 1) 1 v2 I = (if (I 79 2) ≤ v2 then (1, I) else (if ((jX12_comesIn I v2).1) = (-1000006) then ((-1000006), (jX12_comesIn I v2).2) else (if ((jX12_comesIn I v2).1) = 1 then (if ((jX12_comesIn I v2).2 79 2) ≤ (jX12_after (jX12_comesIn I v2).2 a1 v2) then (jX12_laysI a1 n 1 (jX12_after (jX12_comesIn I v2).2 a1 v2) ((jX12_comesIn I v2).2)) else (jX12_laysI a1 n 1 (jX12_after (jX12_comesIn I v2).2 a1 v2) (jX12_startM (jX12_comesIn I v2).2 (jX12_after (jX12_comesIn I v2).2 a1 v2)))) else (if 0 ≤ (jX12_before (jX12_comesIn I v2).2 a1 v2) then (jX12_laysI a1 n 1 (jX12_before (jX12_comesIn I v2).2 a1 v2) ((jX12_comesIn I v2).2)) else (0, (jX12_comesIn I v2).2))))) := by
  show (if (1 : Nat) = 0 then jX12_laysB2 a1 (jX12_laysI a1 n) v2 I else (if (1 : Nat) = 1 then jX12_laysB41 a1 (jX12_laysI a1 n) v2 I else (0, I))) = _
  rw [if_neg (by decide), if_pos rfl]; rfl
theorem jX12_laysO_41 (a1 : Int32) (n : Nat) (v2 : Int32) (I : IM) : jX12_laysO a1 (n + 1) 1 v2 I = ((((I 79 2) ≤ v2) → True) ∧ ((¬ (I 79 2) ≤ v2) → (((jX12_comesInK I v2)) ∧ (((¬ ((jX12_comesIn I v2).1) = (-1000006)) → (((¬ ((jX12_comesIn I v2).1) = 1) → (((jX12_beforeK (jX12_comesIn I v2).2 a1 v2)) ∧ (((0 ≤ (jX12_before (jX12_comesIn I v2).2 a1 v2)) → (jX12_laysO a1 n 1 (jX12_before (jX12_comesIn I v2).2 a1 v2) ((jX12_comesIn I v2).2))) ∧ ((¬ 0 ≤ (jX12_before (jX12_comesIn I v2).2 a1 v2)) → True)))) ∧ ((((jX12_comesIn I v2).1) = 1) → (((jX12_afterK (jX12_comesIn I v2).2 a1 v2)) ∧ (((((jX12_comesIn I v2).2 79 2) ≤ (jX12_after (jX12_comesIn I v2).2 a1 v2)) → (jX12_laysO a1 n 1 (jX12_after (jX12_comesIn I v2).2 a1 v2) ((jX12_comesIn I v2).2))) ∧ ((¬ ((jX12_comesIn I v2).2 79 2) ≤ (jX12_after (jX12_comesIn I v2).2 a1 v2)) → (((jX12_startK (jX12_comesIn I v2).2 (jX12_after (jX12_comesIn I v2).2 a1 v2))) ∧ (jX12_laysO a1 n 1 (jX12_after (jX12_comesIn I v2).2 a1 v2) (jX12_startM (jX12_comesIn I v2).2 (jX12_after (jX12_comesIn I v2).2 a1 v2)))))))))) ∧ ((((jX12_comesIn I v2).1) = (-1000006)) → True))))) := by
  show (if (1 : Nat) = 0 then jX12_laysC2 a1 (jX12_laysO a1 n) v2 I else (if (1 : Nat) = 1 then jX12_laysC41 a1 (jX12_laysO a1 n) v2 I else True)) = _
  rw [if_neg (by decide), if_pos rfl]; rfl
def jX12_lays (I : IM) (a1 : Int32) : Int32 × IM := (jX12_laysI a1 FU 0 0 I)
def jX12_laysK (I : IM) (a1 : Int32) : Prop := (jX12_laysO a1 FU 0 0 I)
set_option maxRecDepth 10000 in
set_option maxHeartbeats 1000000 in
theorem uX12_lays (d : Nat) {T : Topo} (hT : Lay T) (a1 : Int32)   {R : Int32 × IM} : ∀ n : Nat, (∀ (v2 : Int32) (I : IM), jX12_laysO a1 n 0 v2 I → jX12_laysI a1 n 0 v2 I = R → J (d + 5) mX12_lays (PI (fun x T' I' => T' = T ∧ x = R.1 ∧ I' = R.2)) 0 0 2 [some (.ref 79), some (.int a1), some (.int v2), none] [] T I 0 0) ∧ (∀ (v2 : Int32) (I : IM), jX12_laysO a1 n 1 v2 I → jX12_laysI a1 n 1 v2 I = R → J (d + 5) mX12_lays (PI (fun x T' I' => T' = T ∧ x = R.1 ∧ I' = R.2)) 0 0 41 [some (.ref 79), some (.int a1), some (.int v2), none] [] T I 0 0) := by
  intro n
  induction n with
  | zero => exact ⟨fun _ _ hz => hz.elim, fun _ _ hz => hz.elim⟩
  | succ n ih =>
    refine ⟨?_, ?_⟩
    · exact fun v2 I hok hit => by
        rw [jX12_laysO_2] at hok
        exact sX12_lays_2 d hT a1   (K2 := fun w2 I_ => (jX12_laysO a1 n 0 w2 I_ ∧ jX12_laysI a1 n 0 w2 I_ = R)) (K41 := fun w2 I_ => (jX12_laysO a1 n 1 w2 I_ ∧ jX12_laysI a1 n 1 w2 I_ = R)) (fun w2 I_ hw => ih.1 w2 I_ hw.1 hw.2) (fun w2 I_ hw => ih.2 w2 I_ hw.1 hw.2) v2 I (by
          unfold fX12_lays_2
          exact ⟨fun hc1 => ⟨((hok).1 hc1).1, ⟨fun hc2 => ⟨(((hok).1 hc1).2).1 hc2, by rw [jX12_laysI_2, if_pos hc1, if_pos hc2] at hit; exact hit⟩, fun hc2 => ⟨((((hok).1 hc1).2).2 hc2).1, ⟨((((hok).1 hc1).2).2 hc2).2, by rw [jX12_laysI_2, if_pos hc1, if_neg hc2] at hit; exact hit⟩⟩⟩⟩, fun hc1 => ⟨((hok).2 hc1).1, ⟨((hok).2 hc1).2, by rw [jX12_laysI_2, if_neg hc1] at hit; exact hit⟩⟩⟩)
    · exact fun v2 I hok hit => by
        rw [jX12_laysO_41] at hok
        exact sX12_lays_41 d hT a1   (K2 := fun w2 I_ => (jX12_laysO a1 n 0 w2 I_ ∧ jX12_laysI a1 n 0 w2 I_ = R)) (K41 := fun w2 I_ => (jX12_laysO a1 n 1 w2 I_ ∧ jX12_laysI a1 n 1 w2 I_ = R)) (fun w2 I_ hw => ih.1 w2 I_ hw.1 hw.2) (fun w2 I_ hw => ih.2 w2 I_ hw.1 hw.2) v2 I (by
          unfold fX12_lays_41
          exact ⟨fun hc1 => (by rw [jX12_laysI_41, if_pos hc1] at hit; exact ⟨rfl, by rw [← hit], by rw [← hit]⟩), fun hc1 => ⟨((hok).2 hc1).1, ⟨fun hc2 => ⟨fun hc3 => ⟨(((((hok).2 hc1).2).1 hc2).1 hc3).1, ⟨fun hc4 => ⟨((((((hok).2 hc1).2).1 hc2).1 hc3).2).1 hc4, by rw [jX12_laysI_41, if_neg hc1, if_neg hc2, if_neg hc3, if_pos hc4] at hit; exact hit⟩, fun hc4 => (by rw [jX12_laysI_41, if_neg hc1, if_neg hc2, if_neg hc3, if_neg hc4] at hit; exact ⟨rfl, by rw [← hit], by rw [← hit]⟩)⟩⟩, fun hc3 => ⟨(((((hok).2 hc1).2).1 hc2).2 hc3).1, ⟨fun hc5 => ⟨((((((hok).2 hc1).2).1 hc2).2 hc3).2).1 hc5, by rw [jX12_laysI_41, if_neg hc1, if_neg hc2, if_pos hc3, if_pos hc5] at hit; exact hit⟩, fun hc5 => ⟨(((((((hok).2 hc1).2).1 hc2).2 hc3).2).2 hc5).1, ⟨(((((((hok).2 hc1).2).1 hc2).2 hc3).2).2 hc5).2, by rw [jX12_laysI_41, if_neg hc1, if_neg hc2, if_pos hc3, if_neg hc5] at hit; exact hit⟩⟩⟩⟩⟩, fun hc2 => (by rw [jX12_laysI_41, if_neg hc1, if_pos hc2] at hit; exact ⟨rfl, by rw [← hit], by rw [← hit]⟩)⟩⟩⟩)
set_option maxRecDepth 10000 in
set_option maxHeartbeats 1000000 in
theorem qX12_lays (d : Nat) {T : Topo} {I : IM} (hT : Lay T) (a1 : Int32)  (hp : (jX12_laysK I a1)) : CtI (d + 5) mX12_lays [.ref 79, .int a1] T I (fun x_ J_ => x_ = (jX12_lays I a1).1 ∧ J_ = (jX12_lays I a1).2) := by
  unfold jX12_laysK at hp
  exact Ct.ofJ (by decide +kernel) rfl (by intro v hv; revert v hv; simp [Value.category]) rfl (sX12_lays_0 d hT a1   (K2 := fun w2 I_ => (jX12_laysO a1 FU 0 w2 I_ ∧ jX12_laysI a1 FU 0 w2 I_ = (jX12_lays I a1))) (K41 := fun w2 I_ => (jX12_laysO a1 FU 1 w2 I_ ∧ jX12_laysI a1 FU 1 w2 I_ = (jX12_lays I a1))) (fun w2 I_ hw => (uX12_lays d hT a1   FU).1 w2 I_ hw.1 hw.2) (fun w2 I_ hw => (uX12_lays d hT a1   FU).2 w2 I_ hw.1 hw.2) I (by
    unfold fX12_lays_0
    exact ⟨hp, rfl⟩))

end
