noncomputable section
section CM
variable {S : St} {M : IM} {s : Nat} {P : Nat → Nat}
def FrC (s : Nat) (M M' : IM) : Prop := ∀ a b, ¬ (106 ≤ a ∧ a ≤ 111 ∧ b = s) → ¬ (124 ≤ a ∧ a ≤ 127 ∧ b = s) → ¬ (a = 79 ∧ b = 5) → M' a b = M a b
theorem FrC.trans {A B C : IM} (h : FrC s A B) (h2 : FrC s B C) : FrC s A C := fun a b q1 q2 q3 => (h2 a b q1 q2 q3).trans (h a b q1 q2 q3)
theorem mNet.frc (h : mNet S M) {M' : IM} (f : FrC s M M') : mNet S M' := h.of (f _ _ (by omega) (by omega) (by omega)) (f _ _ (by omega) (by omega) (by omega)) fun k q => funext fun j => f k j (by omega) (by omega) (by omega)
theorem mSl.frc (h : mSl S M) {M' : IM} (f : FrC s M M') : mSl S M' := h.of (f _ _ (by omega) (by omega) (by omega)) fun k q1 q2 => funext fun j => f k j (by omega) (by omega) (by omega)
theorem MB.fr5 (h : MB S P M) {M' : IM} (f : ∀ k j, ¬ (k = 79 ∧ j = 5) → M' k j = M k j) : MB S P M' := by
  obtain ⟨h1, h2, h3, h4, h5, h6⟩ := h
  exact ⟨h1, h2, h3, h4.of (f _ _ (by omega)) (f _ _ (by omega)) fun k q => funext fun j => f k j (by omega), h5.of (f _ _ (by omega)) fun k q1 q2 => funext fun j => f k j (by omega), h6.of fun k q1 q2 => funext fun j => f k j (by omega)⟩
/-- the reference's scan -/
theorem comesIn_M (hN : S.netOk) (hsl : S.slOk) (hss : s < S.ns) (hP : S.plOk P) (h0 : P s = 0) : ∀ (L : List Nat) (k q : Nat) (M : IM), q ≤ 2000 → mNet S M → mSl S M → mPl S P M → M 79 5 = nI q → Cur S s M L k → ∀ X, scan (S.hold P s) (L.filter fun p => gB (S.up' p)) q = X →
    ∃ M', FrC s M M' ∧ M' 79 5 = nI X.2.2.2 ∧ (X.1 = 0 → mPl S P M' ∧ Ends (fun n (I : IM) => jX12_comesInI (nI s) n I) (fun n I => jX12_comesInO (nI s) n I) (L.length + 1) M (0, M')) ∧
      (X.1 = 1 → mPl S (put P s X.2.1) M' ∧ (∃ L' k', Cur S s M' L' k' ∧ L'.filter (fun p => gB (S.up' p)) = X.2.2.1 ∧ L'.length ≤ L.length) ∧ Ends (fun n (I : IM) => jX12_comesInI (nI s) n I) (fun n I => jX12_comesInO (nI s) n I) (L.length + 1) M (1, M')) ∧
      (X.1 = 2 → Ends (fun n (I : IM) => jX12_comesInI (nI s) n I) (fun n I => jX12_comesInO (nI s) n I) (L.length + 1) M (-1000006, M'))
  | [], k, q, M, hq, m1, m2, m3, m5, hc, X, hX => by
    have h8 := hsl.1
    obtain ⟨a1, a2, -⟩ := advance_M hN hsl hss hc
    obtain ⟨A, b1, b2⟩ := a2 rfl
    have hX' : (0, 0, [], q) = X := hX
    rw [← hX']
    refine ⟨A, fun a b _ q2 _ => b2 a b q2, by rw [b2 _ _ (by omega)]; exact m5, fun _ => ⟨m3.of fun k q1 q2 => funext fun j => b2 _ _ (by omega), Ends.one fun n => ?_⟩, fun q => absurd q (by decide : ¬ (0 : Nat) = 1), fun q => absurd q (by decide : ¬ (0 : Nat) = 2)⟩
    rw [jX12_comesInO_7, jX12_comesInI_7, b1]
    simp only [eq_true a1, ↓reduceIte, not_true_eq_false, not_false_eq_true, true_imp_iff, false_imp_iff, implies_true, and_true, true_and, eq_self]
  | p :: r, k, q, M, hq, m1, m2, m3, m5, hc, X, hX => by
    have h8 := hsl.1
    have h27 : S.wn s ≤ 27 := wayA_27 hN _ _
    have v8 : vp_in (nI s) 8 := (vp_nI (by omega)).mpr (by omega)
    have z10 : ¬ (1 : Int32) = 0 := by decide
    obtain ⟨t1, A, t2, t3, t4, t5, t6, t7, t8, t9, t10, t11, t12⟩ := try_M hN hsl hss hP h0 m1 m2 m3 hc
    have p5 : jX12_putsM A (nI s) 79 5 = nI q := by rw [t10 _ _ (by omega), t3 _ _ (by omega)]; exact m5
    have frp : FrC s M (jX12_putsM A (nI s)) := fun a b q1 q2 q3 => by rw [t10 a b (by omega)]; exact t3 a b q2
    have m106 : M 106 s = 0 := (m3 s (by omega)).1 h0
    by_cases u : S.up' p
    · have u' : jX12_puts A (nI s) = 1 := t6.resolve_left fun q => t7.mp q u
      have eX : scan (S.hold P s) (p :: r.filter fun p => gB (S.up' p)) q = X := by rw [← hX, List.filter_cons, if_pos (gB_iff.mpr u)]
      unfold scan at eX
      by_cases cq : q = 2000
      · rw [if_pos cq] at eX
        rw [← eX]
        refine ⟨jX12_putsM A (nI s), frp, p5, fun q => absurd q (by decide : ¬ (2 : Nat) = 0), fun q => absurd q (by decide : ¬ (2 : Nat) = 1), fun _ => Ends.le (Ends.one fun n => ?_) (by omega)⟩
        rw [jX12_comesInO_7, jX12_comesInI_7, t2]
        dsimp only
        rw [u', p5, cq]
        have z : (nI 2000 : Int32) = 2000 := rfl
        simp only [eq_true t1, eq_false z10, eq_true t5, eq_true z, ↓reduceIte, not_true_eq_false, not_false_eq_true, true_imp_iff, false_imp_iff, implies_true, and_true, true_and, eq_self]
      · rw [if_neg cq] at eX
        have z : ¬ nI q = 2000 := by rw [li2000]; exact fun e => cq ((nI_eq (by omega) (by omega)).mp e)
        have fr5 : ∀ v, FrC s M (up2 (up2 (jX12_putsM A (nI s)) 79 5 (nI (q + 1))) 106 s v) := fun v a b q1 q2 q3 => by rw [up2_ap, if_neg (by omega), up2_ap, if_neg (by omega)]; exact frp a b q1 q2 q3
        have mb : MB S (put P s p) (up2 (up2 (jX12_putsM A (nI s)) 79 5 (nI (q + 1))) 106 s 1) := t12.fr5 fun a b q1 => by
          rw [up2_ap, up2_ap, up2_ap, if_neg (show ¬ (a = 79 ∧ b = 5) from q1)]
        obtain ⟨ho1, ho2⟩ := holds_M mb (a1 := 0) (.inl rfl)
        have hall : (∀ t, t < 24 → S.linesOk (put P s p) S.does t ∧ ((0 : Int32) = 0 → S.worksOk (put P s p) S.does t)) ↔ S.lnP P S.does 24 s p ∧ S.wkP P S.does 24 s p := by
          constructor
          · intro q; exact ⟨fun t ht => (q t ht).1, fun t ht => (q t ht).2 rfl⟩
          · intro q t ht; exact ⟨q.1 t ht, fun _ => q.2 t ht⟩
        rw [hall] at ho2
        have curf : ∀ v w, Cur S s (up2 (up2 (up2 (jX12_putsM A (nI s)) 79 5 v) 106 s 1) 106 s w) r (k + 1) := fun v w => (t4.fr (fun a b q => by rw [up2_ap, if_neg (by omega), up2_ap, if_neg (by omega), up2_ap, if_neg (by omega), t10 a b (by omega)]) h27).cur
        by_cases lw : S.lnP P S.does 24 s p ∧ S.wkP P S.does 24 s p
        · have g : S.hold P s p = true := gB_iff.mpr lw
          have ho3 : ¬ jX12_holds (up2 (up2 (jX12_putsM A (nI s)) 79 5 (nI (q + 1))) 106 s 1) 0 = 0 := fun q => ho2.mp q lw
          rw [if_pos g] at eX
          rw [← eX]
          refine ⟨up2 (up2 (jX12_putsM A (nI s)) 79 5 (nI (q + 1))) 106 s 1, fr5 1, by rw [up2_ap, if_neg (by omega), up2_at], fun q => absurd q (by decide : ¬ (1 : Nat) = 0), fun _ => ⟨mb.2.2.2.2.2, ⟨r, k + 1, ?_, rfl, by simp⟩, Ends.le (Ends.one fun n => ?_) (by omega)⟩, fun q => absurd q (by decide : ¬ (1 : Nat) = 2)⟩
          · exact (t4.fr (fun a b q => by rw [up2_ap, if_neg (by omega), up2_ap, if_neg (by omega), t10 a b (by omega)]) h27).cur
          · rw [jX12_comesInO_7, jX12_comesInI_7, t2, nI_clamp (by omega)]
            dsimp only
            rw [u', p5, nI_1]
            simp only [eq_true t1, eq_false z10, eq_true t5, eq_true v8, eq_true ho1, eq_false ho3, eq_false z, ↓reduceIte, not_true_eq_false, not_false_eq_true, true_imp_iff, false_imp_iff, implies_true, and_true, true_and, eq_self]
        · have g : ¬ S.hold P s p = true := fun q => lw (gB_iff.mp q)
          have ho3 : jX12_holds (up2 (up2 (jX12_putsM A (nI s)) 79 5 (nI (q + 1))) 106 s 1) 0 = 0 := ho2.mpr lw
          rw [if_neg g] at eX
          have f1 : FrC s M (up2 (up2 (up2 (jX12_putsM A (nI s)) 79 5 (nI (q + 1))) 106 s 1) 106 s 0) := fun a b q1 q2 q3 => by rw [up2_ap, if_neg (by omega)]; exact fr5 1 a b q1 q2 q3
          obtain ⟨M', i1, i2, i3, i4, i5⟩ := comesIn_M hN hsl hss hP h0 r (k + 1) (q + 1) _ (by omega) (m1.frc f1) (m2.frc f1) (mPl_clear (s := s) m3 (fun a b q1 q2 q3 => f1 a b (by omega) (by omega) (by omega)) (up2_at _ _ _ _) h0) (by rw [up2_ap, if_neg (by omega), up2_ap, if_neg (by omega), up2_at]) (curf _ _) X eX
          have go : Go (fun n (I : IM) => jX12_comesInI (nI s) n I) (fun n I => jX12_comesInO (nI s) n I) 1 M (up2 (up2 (up2 (jX12_putsM A (nI s)) 79 5 (nI (q + 1))) 106 s 1) 106 s 0) := Go.one fun n => by
            rw [jX12_comesInO_7, jX12_comesInI_7, t2, nI_clamp (by omega)]
            dsimp only
            rw [u', p5, nI_1]
            simp only [eq_true t1, eq_false z10, eq_true t5, eq_true v8, eq_true ho1, eq_true ho3, eq_false z, ↓reduceIte, not_true_eq_false, not_false_eq_true, true_imp_iff, false_imp_iff, implies_true, and_true, true_and, eq_self]
            first | exact id | exact ⟨id, rfl⟩
          exact ⟨M', f1.trans i1, i2, fun c => ⟨(i3 c).1, Ends.le (go.ends (i3 c).2) (by simp; omega)⟩, fun c => ⟨(i4 c).1, (by obtain ⟨L', k', y1, y2, y3⟩ := (i4 c).2.1; exact ⟨L', k', y1, y2, by simp; omega⟩), Ends.le (go.ends (i4 c).2.2) (by simp; omega)⟩, fun c => Ends.le (go.ends (i5 c)) (by simp; omega)⟩
    · have u' : jX12_puts A (nI s) = 0 := t7.mpr u
      have eX : scan (S.hold P s) (r.filter fun p => gB (S.up' p)) q = X := by rw [← hX, List.filter_cons, if_neg (fun e => u (gB_iff.mp e))]
      obtain ⟨M', i1, i2, i3, i4, i5⟩ := comesIn_M hN hsl hss hP h0 r (k + 1) q _ hq (m1.frc frp) (m2.frc frp) (mPl_clear (s := s) m3 (fun a b q1 q2 q3 => frp a b (by omega) (by omega) (by omega)) (by rw [t10 _ _ (by omega), t3 _ _ (by omega)]; exact m106) h0) p5 (t4.fr (fun a b q => t10 a b (by omega)) h27).cur X eX
      have go : Go (fun n (I : IM) => jX12_comesInI (nI s) n I) (fun n I => jX12_comesInO (nI s) n I) 1 M (jX12_putsM A (nI s)) := Go.one fun n => by
        rw [jX12_comesInO_7, jX12_comesInI_7, t2]
        dsimp only
        rw [u']
        simp only [eq_true t1, eq_false z10, eq_true t5, ↓reduceIte, not_true_eq_false, not_false_eq_true, true_imp_iff, false_imp_iff, implies_true, and_true, true_and, eq_self]
        first | exact id | exact ⟨id, rfl⟩
      exact ⟨M', frp.trans i1, i2, fun c => ⟨(i3 c).1, Ends.le (go.ends (i3 c).2) (by simp; omega)⟩, fun c => ⟨(i4 c).1, (by obtain ⟨L', k', y1, y2, y3⟩ := (i4 c).2.1; exact ⟨L', k', y1, y2, by simp; omega⟩), Ends.le (go.ends (i4 c).2.2) (by simp; omega)⟩, fun c => Ends.le (go.ends (i5 c)) (by simp; omega)⟩
end CM
end
