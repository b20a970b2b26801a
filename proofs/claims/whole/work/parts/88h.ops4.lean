noncomputable section
theorem up2_up2 (I : IM) (k j : Nat) (x y : Int32) : up2 (up2 I k j x) k j y = up2 I k j y := by
  funext a c
  rw [up2_ap, up2_ap, up2_ap]
  by_cases h : a = k ∧ c = j
  · rw [if_pos h, if_pos h]
  · rw [if_neg h, if_neg h, if_neg h]
/-- the TICKS of a SPAN -/
def tkB (kd f l h : Nat) (t : Nat) : Bool := decide (f ≤ t) && decide (t ≤ l) && (decide (kd ≠ 4) || h.testBit (t % 6))
theorem setSpan_S {I : IM} {i kd f l h : Nat} (hk : I (17 + 4 * i) 0 = nI kd) (hkd : kd ≤ 4) (hfl : f ≤ l) (hl : l ≤ 23) (hh : h < 64) :
    jX8_setSpanK I i (nI f) (nI l) (nI h) ∧ jX8_setSpan I i (nI f) (nI l) (nI h) = up2 (up2 (up2 (up2 I (17 + 4 * i) 8 (nI f)) (17 + 4 * i) 9 (nI l)) (17 + 4 * i) 10 (nI h)) (17 + 4 * i) 11 (nI (bs (tkB kd f l h) 24)) := by
  unfold jX8_setSpanK jX8_setSpan
  obtain ⟨J, hJ⟩ : ∃ J, J = up2 (up2 (up2 I (17 + 4 * i) 8 (nI f)) (17 + 4 * i) 9 (nI l)) (17 + 4 * i) 10 (nI h) := ⟨_, rfl⟩
  rw [← hJ]
  have j0 : ∀ x, up2 J (17 + 4 * i) 11 x (17 + 4 * i) 0 = nI kd := fun x => by
    rw [hJ]; simp (disch := omega) only [up2_o, up2_at, up2_sj]; exact hk
  have j9 : ∀ x, up2 J (17 + 4 * i) 11 x (17 + 4 * i) 9 = nI l := fun x => by
    rw [hJ]; simp (disch := omega) only [up2_o, up2_at, up2_sj]
  have j10 : ∀ x, up2 J (17 + 4 * i) 11 x (17 + 4 * i) 10 = nI h := fun x => by
    rw [hJ]; simp (disch := omega) only [up2_o, up2_at, up2_sj]
  have g3 : (nI kd = 4) = (kd = 4) := propext (nI_eq (b := 4) (by omega) (by omega))
  have b0 : bs (tkB kd f l h) f = 0 := set_eq fun k => by
    rw [bs_bit, Nat.zero_testBit]
    by_cases c : k < f
    · simp [tkB, c, Nat.not_le.mpr c]
    · simp [c]
  have b1 : bs (tkB kd f l h) (l + 1) = bs (tkB kd f l h) 24 := set_eq fun k => by
    rw [bs_bit, bs_bit]
    by_cases c : k < l + 1
    · rw [decide_eq_true c, decide_eq_true (by omega)]
    · have : tkB kd f l h k = false := by unfold tkB; rw [decide_eq_false (show ¬ k ≤ l by omega)]; simp
      rw [this]; simp
  have E : Ends (fun n (s : Int32 × IM) => jX8_setSpanI i (nI f) (nI l) (nI h) n s.1 s.2) (fun n s => jX8_setSpanO i (nI f) (nI l) (nI h) n s.1 s.2) ((l + 1 - f) * 1 + 1) ((nI (f + 0), up2 J (17 + 4 * i) 11 (nI (bs (tkB kd f l h) (f + 0)))) : Int32 × IM) (up2 J (17 + 4 * i) 11 (nI (bs (tkB kd f l h) (f + (l + 1 - f))))) := by
    refine Go.ends (Go.loop (a := fun k => (nI (f + k), up2 J (17 + 4 * i) 11 (nI (bs (tkB kd f l h) (f + k))))) (l + 1 - f) fun k hk => Go.one fun n => ?_) (Ends.one fun n => ?_)
    · dsimp only
      have c0 : ¬ nI l < nI (f + k) := nI_nlt (by omega) (by omega)
      have c1 : ¬ (24 : Int32) ≤ nI (f + k) := by rw [li24]; exact nI_ge (by omega) (by omega)
      have hm := hs_nI (n := h) (k := (f + k) % 6) (by omega) (by omega)
      rw [jX8_setSpanO_26, jX8_setSpanI_26, j0, j9, j10, mod6 _ (by omega), nI_1, one_nI (by omega), up2_at, up2_up2, or_nI, ← Nat.add_assoc, bs]
      by_cases c2 : kd = 4
      · by_cases c3 : h.testBit ((f + k) % 6) = true
        · have c4 : tkB kd f l h (f + k) = true := by simp [tkB, c2, c3]; omega
          simp only [eq_false c0, eq_false c1, g3, eq_true c2, eq_true (hm.mpr c3), c4, ↓reduceIte, not_true_eq_false, not_false_eq_true, true_imp_iff, false_imp_iff, implies_true, and_true, true_and, eq_self]
          first | exact id | exact ⟨id, rfl⟩
        · have c4 : ¬ tkB kd f l h (f + k) = true := by simp [tkB, c2, c3]
          simp only [eq_false c0, eq_false c1, g3, eq_true c2, eq_false (mt hm.mp c3), c4, ↓reduceIte, not_true_eq_false, not_false_eq_true, true_imp_iff, false_imp_iff, implies_true, and_true, true_and, eq_self, Nat.or_zero, Bool.false_eq_true]
          first | exact id | exact ⟨id, rfl⟩
      · have c4 : tkB kd f l h (f + k) = true := by simp [tkB, c2]; omega
        simp only [eq_false c0, eq_false c1, g3, eq_false c2, c4, ↓reduceIte, not_true_eq_false, not_false_eq_true, true_imp_iff, false_imp_iff, implies_true, and_true, true_and, eq_self]
        first | exact id | exact ⟨id, rfl⟩
    · dsimp only
      have c0 : nI l < nI (f + (l + 1 - f)) := nI_lt (by omega) (by omega)
      rw [jX8_setSpanO_26, jX8_setSpanI_26, j9]
      simp only [eq_true c0, ↓reduceIte, not_true_eq_false, not_false_eq_true, true_imp_iff, false_imp_iff, implies_true, and_true, true_and, eq_self]
  obtain ⟨r1, r2⟩ := E.use (f := FU) (by rw [FU_eq]; omega)
  rw [show f + (l + 1 - f) = l + 1 by omega, b1] at r2
  rw [Nat.add_zero, b0] at r1 r2
  exact ⟨r1, r2⟩
def St.addS (S : St) (k a b r d : Nat) : St := ((((((S.s_ns (S.ns + 1)).s_kd (put S.kd S.ns k)).s_sa (put S.sa S.ns a)).s_sb (put S.sb S.ns b)).s_rt (put S.rt S.ns r)).s_bd (put S.bd S.ns d)).s_la (put S.la S.ns 23)
section SIM
variable {T : Topo} {S : St} {C M : IM}
theorem pl0 (hS : S.ok) : S.pl S.ns = 0 ∨ 8 ≤ S.ns := by
  by_cases h : S.ns < 8
  · by_cases c : S.pl S.ns = 0
    · exact .inl c
    · have := (hS.2.2.2.2.1 _ h c).1; omega
  · exact .inr (by omega)
theorem slice_step (hT : PlS T) (hS : S.ok) (hC : RC T S C) (hM : RM S M) (h8 : S.ns < 8) {k a b r d : Nat} (hk : k ≤ 4) (ha : a < S.nn) (hb : b < S.nn) (hab : a ≠ b) (hr : 1 ≤ r ∧ r ≤ 20) (hd : 1 ≤ d ∧ d ≤ 99) {X Y : IM}
    (hX : X = up2 (up2 (up2 (up2 (up2 (up2 (up2 (up2 (up2 (up2 C (17 + 4 * S.ns) 0 (nI k)) (17 + 4 * S.ns) 1 (nI a)) (17 + 4 * S.ns) 2 (nI b)) (17 + 4 * S.ns) 3 (nI r)) (17 + 4 * S.ns) 4 (nI d)) (17 + 4 * S.ns) 8 (nI 0)) (17 + 4 * S.ns) 9 (nI 23)) (17 + 4 * S.ns) 10 (nI 0)) (17 + 4 * S.ns) 11 (nI (bs (tkB k 0 23 0) 24))) 15 1 (nI (S.ns + 1)))
    (hY : Y = up2 (up2 (up2 (up2 (up2 (up2 (up2 M 90 S.ns (nI k)) 91 S.ns (nI a)) 92 S.ns (nI b)) 93 S.ns (nI r)) 94 S.ns (nI d)) 99 S.ns 23) 79 2 (nI (S.ns + 1))) :
    (S.addS k a b r d).ok ∧ RC T (S.addS k a b r d) X ∧ RM (S.addS k a b r d) Y := by
  have p0 : S.pl S.ns = 0 := (pl0 hS).resolve_right (by omega)
  have z := hS.2.1.2.2 S.ns h8 (Nat.le_refl _)
  have ne : ∀ s, s < 8 → S.pl s ≠ 0 → s ≠ S.ns := fun s _ c e => c (e ▸ p0)
  have hI : ∀ s w u h, s < S.ns → S.pl s ≠ 0 → S.isPl s w u h → (S.addS k a b r d).isPl s w u h := fun s w u h hs _ q => isPl_mono (S := S) (S' := S.addS k a b r d) (Nat.le_refl _) (fun _ _ _ => rfl) (Nat.le_refl _) (put_ne S.sa a (by omega)) (put_ne S.sb b (by omega)) (put_ne S.kd k (by omega)) q
  have e1 : ∀ s, s ≠ S.ns → (S.addS k a b r d).need s = S.need s := fun s c => by
    have q1 : (S.addS k a b r d).kd s = S.kd s := put_ne S.kd k c
    have q2 : (S.addS k a b r d).rt s = S.rt s := put_ne S.rt r c
    have q3 : (S.addS k a b r d).ls s = S.ls s := rfl
    unfold St.need
    rw [q1, q2, q3]
  have e2 : ∀ s t, s ≠ S.ns → (S.addS k a b r d).does s t = S.does s t := fun s t c => by
    have q1 : (S.addS k a b r d).kd s = S.kd s := put_ne S.kd k c
    have q2 : (S.addS k a b r d).la s = S.la s := put_ne S.la 23 c
    have q3 : (S.addS k a b r d).fi s = S.fi s := rfl
    have q4 : (S.addS k a b r d).ho s = S.ho s := rfl
    unfold St.does
    rw [q1, q2, q3, q4]
  have hlk : likeP S (S.addS k a b r d) S.pl S.does (S.addS k a b r d).does := ⟨hS.2.1.1, h8, fun s hs c => ⟨(hS.2.2.2.2.1 s hs c).1, Nat.lt_succ_of_lt (hS.2.2.2.2.1 s hs c).1, e1 s (ne s hs c), rfl, fun t => e2 s t (ne s hs c)⟩⟩
  refine ⟨?_, ?_, ?_⟩
  · obtain ⟨bn, ⟨c1, c2, c3⟩, dd, sh, f, g⟩ := id hS
    refine ⟨bn, ⟨h8, fun s hs => ?_, fun s q1 q2 => c3 s q1 (Nat.le_of_succ_le q2)⟩, dd, sh, plOk_mono (S := S) (S' := S.addS k a b r d) (Nat.le_succ _) hI f, likeP.allOk (S := S) (S' := S.addS k a b r d) (D := S.does) (D' := (S.addS k a b r d).does) hlk (fun l hl => .inl ⟨hl, rfl⟩) (fun x hx => .inl ⟨hx, rfl⟩) g⟩
    have hs' : s < S.ns + 1 := hs
    show put S.kd S.ns k s ≤ 4 ∧ put S.sa S.ns a s < S.nn ∧ put S.sb S.ns b s < S.nn ∧ put S.sa S.ns a s ≠ put S.sb S.ns b s ∧ 1 ≤ put S.rt S.ns r s ∧ put S.rt S.ns r s ≤ 20 ∧ 1 ≤ put S.bd S.ns d s ∧ put S.bd S.ns d s ≤ 99 ∧ S.ls s ≤ put S.rt S.ns r s ∧ S.wk s ≤ 20 ∧ S.wo s ≤ 1000 ∧ S.fi s ≤ put S.la S.ns 23 s ∧ put S.la S.ns 23 s ≤ 23 ∧ S.ho s < 64 ∧ S.wt s ≤ 1000 ∧ S.slt s ≤ 20
    by_cases q : s = S.ns
    · subst q
      rw [put_at, put_at, put_at, put_at, put_at, put_at]
      omega
    · rw [put_ne _ _ q, put_ne _ _ q, put_ne _ _ q, put_ne _ _ q, put_ne _ _ q, put_ne _ _ q]
      exact c2 s (by omega)
  · obtain ⟨h1, h2, h3, h4, h5, h6, h7, ⟨h8a, h8'⟩, g9, h10, h11, h12, h13, h14, h15⟩ := hC
    have F : ∀ k j, ¬ (k = 15 ∧ j = 1) → ¬ (k = 17 + 4 * S.ns ∧ (j < 5 ∨ 8 ≤ j ∧ j ≤ 11)) → X k j = C k j := fun k j q1 q2 => by
      rw [hX, up2_ap, if_neg q1, up2_ap, if_neg (by omega), up2_ap, if_neg (by omega), up2_ap, if_neg (by omega), up2_ap, if_neg (by omega), up2_ap, if_neg (by omega), up2_ap, if_neg (by omega), up2_ap, if_neg (by omega), up2_ap, if_neg (by omega), up2_ap, if_neg (by omega)]
    have F' : ∀ k, k ≠ 15 → k ≠ 17 + 4 * S.ns → X k = C k := fun k q1 q2 => funext fun j => F k j (by omega) (by omega)
    have G : X 15 1 = nI (S.ns + 1) ∧ X (17 + 4 * S.ns) 0 = nI k ∧ X (17 + 4 * S.ns) 1 = nI a ∧ X (17 + 4 * S.ns) 2 = nI b ∧ X (17 + 4 * S.ns) 3 = nI r ∧ X (17 + 4 * S.ns) 4 = nI d ∧ X (17 + 4 * S.ns) 8 = nI 0 ∧ X (17 + 4 * S.ns) 9 = nI 23 ∧ X (17 + 4 * S.ns) 10 = nI 0 ∧ X (17 + 4 * S.ns) 11 = nI (bs (tkB k 0 23 0) 24) := by
      rw [hX]
      refine ⟨?_, ?_, ?_, ?_, ?_, ?_, ?_, ?_, ?_, ?_⟩ <;> simp (disch := omega) only [up2_o, up2_at, up2_sj]
    obtain ⟨G0, G1, G2, G3, G4, G5, G6, G7, G8, G9⟩ := G
    have o := h4.2 S.ns h8
    refine ⟨h1.of fun k j q => F k j (by omega) (by omega), h2.of fun k j q1 q2 q3 => F k j (by omega) (by omega), h3.of (F _ _ (by omega) (by omega)), ⟨G0, fun s hs => ?_⟩, fun s hs => ?_, h6.of fun s hs => F _ _ (by omega) (by omega), h7.of fun s j hs q1 q2 => F _ _ (by omega) (by omega), ⟨by rw [F _ _ (by omega) (by omega)]; exact h8a, hlk.cBk (h8'.of fun k q1 q2 => F' k (by omega) (by omega))⟩, g9.of fun k q1 q2 => F' k (by omega) (by omega), cWays.congr (S := S) (S' := S.addS k a b r d) rfl rfl rfl rfl (Nat.le_refl _) (h10.of fun k q => F' k (by omega) (by omega)), ?_, h12.of (F' _ (by omega) (by omega)), h13.of (F _ _ (by omega) (by omega)), h14.of (F _ _ (by omega) (by omega)), h15.of fun k q1 q2 => F' k (by omega) (by omega)⟩
    · show X (17 + 4 * s) 0 = nI (put S.kd S.ns k s) ∧ X (17 + 4 * s) 1 = nI (put S.sa S.ns a s) ∧ X (17 + 4 * s) 2 = nI (put S.sb S.ns b s) ∧ X (17 + 4 * s) 3 = nI (put S.rt S.ns r s) ∧ X (17 + 4 * s) 4 = nI (put S.bd S.ns d s) ∧ X (17 + 4 * s) 5 = nI (S.ls s) ∧ X (17 + 4 * s) 6 = nI (S.wk s) ∧ X (17 + 4 * s) 7 = nI (S.wo s) ∧ X (17 + 4 * s) 8 = nI (S.fi s) ∧ X (17 + 4 * s) 9 = nI (put S.la S.ns 23 s) ∧ X (17 + 4 * s) 10 = nI (S.ho s)
      by_cases q : s = S.ns
      · subst q
        rw [put_at, put_at, put_at, put_at, put_at, put_at, z.1, z.2.1, F _ 5 (by omega) (by omega), F _ 6 (by omega) (by omega), F _ 7 (by omega) (by omega)]
        exact ⟨G1, G2, G3, G4, G5, o.2.2.2.2.2.1, o.2.2.2.2.2.2.1, o.2.2.2.2.2.2.2.1, G6, G7, G8⟩
      · rw [put_ne _ _ q, put_ne _ _ q, put_ne _ _ q, put_ne _ _ q, put_ne _ _ q, put_ne _ _ q, F' _ (by omega) (by omega)]
        exact h4.2 s hs
    · have hs' : s < S.ns + 1 := hs
      by_cases q : s = S.ns
      · subst q
        rw [G9]
        congr 1
        refine bs_congr fun t _ => ?_
        unfold tkB St.does
        rw [show (S.addS k a b r d).kd S.ns = k from put_at _ _ _, show (S.addS k a b r d).la S.ns = 23 from put_at _ _ _, show (S.addS k a b r d).fi S.ns = 0 from z.1, show (S.addS k a b r d).ho S.ns = 0 from z.2.1]
      · rw [F' _ (by omega) (by omega), h5 s (by omega)]
        congr 1
        exact bs_congr fun t _ => (e2 s t q).symm
    · have := h11.of (C' := X) hT fun i hi => ⟨F _ _ (by omega) (by omega), F _ _ (by omega) (by omega), F' _ (by have := (hT i hi).1; omega) (by have := (hT i hi).1; omega)⟩
      exact cPlc.congr (S := S) (S' := S.addS k a b r d) hS.1 hS.2.1 rfl rfl rfl rfl (Nat.le_refl _) (Nat.le_succ _) (fun s hs => ⟨put_ne S.sa a (by omega), put_ne S.sb b (by omega), put_ne S.kd k (by omega), put_ne S.bd d (by omega)⟩) this
  · obtain ⟨h1, h2, h3, h4, h5, h6, h7, h8a, h9'⟩ := hM
    have F : ∀ k j, ¬ (k = 79 ∧ j = 2) → ¬ ((90 ≤ k ∧ k ≤ 94 ∨ k = 99) ∧ j = S.ns) → Y k j = M k j := fun k j q1 q2 => by
      rw [hY, up2_ap, if_neg q1, up2_ap, if_neg (by omega), up2_ap, if_neg (by omega), up2_ap, if_neg (by omega), up2_ap, if_neg (by omega), up2_ap, if_neg (by omega), up2_ap, if_neg (by omega)]
    have F' : ∀ k, k ≠ 79 → k < 90 ∨ 94 < k → k ≠ 99 → Y k = M k := fun k q1 q2 q3 => funext fun j => F k j (by omega) (by omega)
    have G : Y 79 2 = nI (S.ns + 1) ∧ Y 90 S.ns = nI k ∧ Y 91 S.ns = nI a ∧ Y 92 S.ns = nI b ∧ Y 93 S.ns = nI r ∧ Y 94 S.ns = nI d ∧ Y 99 S.ns = 23 := by
      rw [hY]
      refine ⟨?_, ?_, ?_, ?_, ?_, ?_, ?_⟩ <;> simp (disch := omega) only [up2_o, up2_at, up2_sj]
    obtain ⟨G0, G1, G2, G3, G4, G5, G6⟩ := G
    refine ⟨h1.of (F _ _ (by omega) (by omega)) (F _ _ (by omega) (by omega)) fun k q => F' k (by omega) (by omega) (by omega), h2.of fun k q1 q2 => F' k (by omega) (by omega) (by omega), ⟨G0, fun s hs => ?_⟩, h4.of fun k q1 q2 => F' k (by omega) (by omega) (by omega), mPl_mono (S := S) (S' := S.addS k a b r d) hS.2.2.2.2.1 hI h5 (fun k q1 q2 => F' k (by omega) (by omega) (by omega)), h6.of fun j q => F _ _ (by omega) (by omega), h7.of (F _ _ (by omega) (by omega)), h8a.of (F _ _ (by omega) (by omega)), h9'.of fun k q1 q2 => F' k (by omega) (by omega) (by omega)⟩
    show Y 90 s = nI (put S.kd S.ns k s) ∧ Y 91 s = nI (put S.sa S.ns a s) ∧ Y 92 s = nI (put S.sb S.ns b s) ∧ Y 93 s = nI (put S.rt S.ns r s) ∧ Y 94 s = nI (put S.bd S.ns d s) ∧ Y 95 s = nI (S.ls s) ∧ Y 96 s = nI (S.wk s) ∧ Y 97 s = nI (S.wo s) ∧ Y 98 s = nI (S.fi s) ∧ Y 99 s = nI (put S.la S.ns 23 s) ∧ Y 100 s = nI (S.ho s)
    have o := h3.2 s hs
    rw [F' 95 (by omega) (by omega) (by omega), F' 96 (by omega) (by omega) (by omega), F' 97 (by omega) (by omega) (by omega), F' 98 (by omega) (by omega) (by omega), F' 100 (by omega) (by omega) (by omega)]
    by_cases q : s = S.ns
    · subst q
      rw [put_at, put_at, put_at, put_at, put_at, put_at]
      exact ⟨G1, G2, G3, G4, G5, o.2.2.2.2.2.1, o.2.2.2.2.2.2.1, o.2.2.2.2.2.2.2.1, o.2.2.2.2.2.2.2.2.1, G6, o.2.2.2.2.2.2.2.2.2.2⟩
    · rw [put_ne _ _ q, put_ne _ _ q, put_ne _ _ q, put_ne _ _ q, put_ne _ _ q, put_ne _ _ q, F 90 _ (by omega) (by omega), F 91 _ (by omega) (by omega), F 92 _ (by omega) (by omega), F 93 _ (by omega) (by omega), F 94 _ (by omega) (by omega), F 99 _ (by omega) (by omega)]
      exact o
theorem sim_slice (hT : PlS T) (hS : S.ok) (hC : RC T S C) (hM : RM S M) (a1 a2 a3 a4 a5 : Int32) : jX11_sliceK C a1 a2 a3 a4 a5 ∧ jX12_sliceK M a1 a2 a3 a4 a5 ∧ jX11_slice C a1 a2 a3 a4 a5 = jX12_slice M a1 a2 a3 a4 a5 ∧ ∃ S' : St, S'.ok ∧ RC T S' (jX11_sliceM C a1 a2 a3 a4 a5) ∧ RM S' (jX12_sliceM M a1 a2 a3 a4 a5) := by
  have h8 := hS.2.1.1
  unfold jX11_sliceK jX12_sliceK jX11_slice jX12_slice jX11_sliceM jX12_sliceM jX12_finds
  rw [hC.2.2.2.1.1, hM.2.2.1.1]
  have t1 := tw_CM hS hC hM a2 a3
  by_cases c0 : wi a1 0 4
  · by_cases c1 : tw C a2 a3
    · have c1' := t1.mp c1
      by_cases c3 : wi a4 1 20
      · by_cases c4 : wi a5 1 99
        · by_cases c6 : S.ns = 8
          · have d1 : ¬ nI S.ns < 8 := by rw [c6]; decide
            have d2 : nI S.ns = 8 := by rw [c6]; rfl
            simp only [eq_true c0, eq_true c1, eq_true c1', eq_true c3, eq_true c4, eq_false d1, eq_true d2, ↓reduceIte, not_true_eq_false, not_false_eq_true, true_imp_iff, false_imp_iff, implies_true, and_true, true_and, eq_self]
            exact bad hT hS hC hM
          · have d1 : nI S.ns < 8 := by rw [li8]; exact nI_lt (by omega) (by omega)
            have d2 : ¬ nI S.ns = 8 := by rw [li8]; exact fun q => c6 ((nI_eq (by omega) (by omega)).mp q)
            obtain ⟨k, -, hk, rfl⟩ := wi_nI (a := 0) (b := 4) (by omega) c0 (by omega)
            obtain ⟨a, b, ha, hb, hab, rfl, rfl⟩ := tw_of hS hC c1
            obtain ⟨r, hr1, hr2, rfl⟩ := wi_nI (a := 1) (b := 20) (by omega) c3 (by omega)
            obtain ⟨d, hd1, hd2, rfl⟩ := wi_nI (a := 1) (b := 99) (by omega) c4 (by omega)
            have vp : vp_in (nI S.ns) 8 := (vp_nI (by omega)).mpr (by omega)
            simp only [eq_true c0, eq_true c1, eq_true c1', eq_true c3, eq_true c4, eq_true d1, eq_false d2, eq_true vp, ↓reduceIte, not_true_eq_false, not_false_eq_true, true_imp_iff, false_imp_iff, implies_true, and_true, true_and, eq_self]
            unfold jX9_addK jX9_add jX9_addM
            rw [hC.2.2.2.1.1, nI_clamp (by omega)]
            obtain ⟨s1, s2⟩ := setSpan_S (I := up2 (up2 (up2 (up2 (up2 C (17 + 4 * S.ns) 0 (nI k)) (17 + 4 * S.ns) 1 (nI a)) (17 + 4 * S.ns) 2 (nI b)) (17 + 4 * S.ns) 3 (nI r)) (17 + 4 * S.ns) 4 (nI d)) (i := S.ns) (kd := k) (f := 0) (l := 23) (h := 0) (by simp (disch := omega) only [up2_o, up2_at, up2_sj]) hk (by omega) (by omega) (by omega)
            rw [li0, li23, s2]
            have e : up2 (up2 (up2 (up2 (up2 (up2 (up2 (up2 (up2 C (17 + 4 * S.ns) 0 (nI k)) (17 + 4 * S.ns) 1 (nI a)) (17 + 4 * S.ns) 2 (nI b)) (17 + 4 * S.ns) 3 (nI r)) (17 + 4 * S.ns) 4 (nI d)) (17 + 4 * S.ns) 8 (nI 0)) (17 + 4 * S.ns) 9 (nI 23)) (17 + 4 * S.ns) 10 (nI 0)) (17 + 4 * S.ns) 11 (nI (bs (tkB k 0 23 0) 24)) 15 1 = nI S.ns := by
              rw [up2_ap, if_neg (by omega), up2_ap, if_neg (by omega), up2_ap, if_neg (by omega), up2_ap, if_neg (by omega), up2_ap, if_neg (by omega), up2_ap, if_neg (by omega), up2_ap, if_neg (by omega), up2_ap, if_neg (by omega), up2_ap, if_neg (by omega)]
              exact hC.2.2.2.1.1
            rw [e, nI_1]
            refine ⟨⟨vp, s1⟩, rfl, S.addS k a b r d, slice_step hT hS hC hM (by omega) hk ha hb hab ⟨hr1, hr2⟩ ⟨hd1, hd2⟩ rfl rfl⟩
        · simp only [eq_true c0, eq_true c1, eq_true c1', eq_true c3, eq_false c4, ↓reduceIte, not_true_eq_false, not_false_eq_true, true_imp_iff, false_imp_iff, implies_true, and_true, true_and, eq_self]
          exact bad hT hS hC hM
      · simp only [eq_true c0, eq_true c1, eq_true c1', eq_false c3, ↓reduceIte, not_true_eq_false, not_false_eq_true, true_imp_iff, false_imp_iff, implies_true, and_true, true_and, eq_self]
        exact bad hT hS hC hM
    · have c1' := mt t1.mpr c1
      simp only [eq_true c0, eq_false c1, eq_false c1', ↓reduceIte, not_true_eq_false, not_false_eq_true, true_imp_iff, false_imp_iff, implies_true, and_true, true_and, eq_self]
      exact bad hT hS hC hM
  · simp only [eq_false c0, ↓reduceIte, not_true_eq_false, not_false_eq_true, true_imp_iff, false_imp_iff, implies_true, and_true, true_and, eq_self]
    exact bad hT hS hC hM
end SIM
end
