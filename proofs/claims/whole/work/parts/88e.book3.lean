noncomputable section
/-! one more, or one less -/
section MV
variable {S : St} {P : Nat → Nat} {D : Nat → Nat → Bool} {s p t : Nat}
theorem sm_put {f : Nat → Nat → Nat} {n s : Nat} (hs : s < n) (P : Nat → Nat) (p : Nat) (h0 : f s 0 = 0) : sm (fun i => f i (put P s p i)) n = sm (fun i => f i (put P s 0 i)) n + f s p := by
  have := sm_one (f := fun i => f i (put P s p i)) (g := fun i => f i (put P s 0 i)) (k := s) n hs (fun i _ hi => by rw [put_ne _ _ hi, put_ne _ _ hi])
  simp only [put_at, h0, Nat.add_zero] at this
  exact this
theorem put_self {P : Nat → Nat} {s : Nat} : put P s (P s) = P := funext fun a => by
  unfold put
  split
  · rename_i h; rw [h]
  · rfl
theorem put_put {α : Type} {P : Nat → α} {s : Nat} {v w : α} : put (put P s v) s w = put P s w := funext fun a => by
  unfold put
  split <;> rfl
theorem ld_put (hs : s < S.ns) (hp : p ≠ 0) (l : Nat) : S.ld (put P s p) D l t = S.ld (put P s 0) D l t + if D s t = true ∧ (wayN p).testBit l = true then S.need s else 0 := by
  unfold St.ld
  rw [sm_put (f := fun i q => if q ≠ 0 ∧ D i t = true ∧ (wayN q).testBit l = true then S.need i else 0) hs P p (if_neg fun q => q.1 rfl)]
  simp only [hp, ne_eq, not_false_eq_true, true_and]
theorem pa_put (hs : s < S.ns) (hp : p ≠ 0) (l f : Nat) : S.pa (put P s p) D l f t = S.pa (put P s 0) D l f t + if D s t = true ∧ (wayN p).testBit f = true ∧ (spaN p).testBit l = true then S.need s else 0 := by
  unfold St.pa
  rw [sm_put (f := fun i q => if q ≠ 0 ∧ D i t = true ∧ (wayN q).testBit f = true ∧ (spaN q).testBit l = true then S.need i else 0) hs P p (if_neg fun q => q.1 rfl)]
  simp only [hp, ne_eq, not_false_eq_true, true_and]
theorem wo_put (hs : s < S.ns) (hp : p ≠ 0) (a : Nat) : S.wo' (put P s p) D a t = S.wo' (put P s 0) D a t + if D s t = true ∧ hosN p = a then S.wk s else 0 := by
  unfold St.wo'
  rw [sm_put (f := fun i q => if q ≠ 0 ∧ D i t = true ∧ hosN q = a then S.wk i else 0) hs P p (if_neg fun q => q.1 rfl)]
  simp only [hp, ne_eq, not_false_eq_true, true_and]
theorem mv_in (hs : s < S.ns) (hp : p ≠ 0) (hD : D s t = true) : Mv S (put P s 0) (put P s p) D t (wayN p) (spaN p) (hosN p) (nI (S.need s) * 1) (nI (S.wk s) * 1) := by
  rw [Int32.mul_one, Int32.mul_one]
  refine ⟨fun l _ => ?_, fun l f _ _ => ?_, fun a _ => ?_⟩
  · rw [ld_put hs hp, nI_add]
    by_cases c : (wayN p).testBit l = true
    · rw [if_pos c, if_pos ⟨hD, c⟩]
    · rw [if_neg c, if_neg (fun q => c q.2), Nat.add_zero]
  · rw [pa_put hs hp, nI_add]
    by_cases c : (wayN p).testBit f = true ∧ (spaN p).testBit l = true
    · rw [if_pos c, if_pos ⟨hD, c⟩]
    · rw [if_neg c, if_neg (fun q => c q.2), Nat.add_zero]
  · rw [wo_put hs hp, nI_add]
    by_cases c : a = hosN p
    · rw [if_pos c, if_pos ⟨hD, c.symm⟩]
    · rw [if_neg c, if_neg (fun q => c q.2.symm), Nat.add_zero]
theorem mv_no (hs : s < S.ns) (hp : p ≠ 0) (hD : D s t = false) : Mv S (put P s 0) (put P s p) D t 0 0 6 0 0 ∧ Mv S (put P s p) (put P s 0) D t 0 0 6 0 0 := by
  have h1 : ∀ l, S.ld (put P s p) D l t = S.ld (put P s 0) D l t := fun l => by rw [ld_put hs hp, if_neg (fun q => by rw [hD] at q; exact absurd q.1 (by decide)), Nat.add_zero]
  have h2 : ∀ l f, S.pa (put P s p) D l f t = S.pa (put P s 0) D l f t := fun l f => by rw [pa_put hs hp, if_neg (fun q => by rw [hD] at q; exact absurd q.1 (by decide)), Nat.add_zero]
  have h3 : ∀ a, S.wo' (put P s p) D a t = S.wo' (put P s 0) D a t := fun a => by rw [wo_put hs hp, if_neg (fun q => by rw [hD] at q; exact absurd q.1 (by decide)), Nat.add_zero]
  refine ⟨⟨fun l _ => ?_, fun l f _ _ => ?_, fun a ha => ?_⟩, fun l _ => ?_, fun l f _ _ => ?_, fun a ha => ?_⟩
  · rw [if_neg (by simp), h1]
  · rw [if_neg (by simp), h2]
  · rw [if_neg (by omega), h3]
  · rw [if_neg (by simp), h1]
  · rw [if_neg (by simp), h2]
  · rw [if_neg (by omega), h3]
theorem back1 (a d : Int32) : a + d + d * (-1) = a := by
  rw [Int32.mul_neg, Int32.mul_one, Int32.add_assoc, Int32.add_right_neg, Int32.add_zero]
theorem mv_out (hs : s < S.ns) (hp : p ≠ 0) (hD : D s t = true) : Mv S (put P s p) (put P s 0) D t (wayN p) (spaN p) (hosN p) (nI (S.need s) * (-1)) (nI (S.wk s) * (-1)) := by
  refine ⟨fun l _ => ?_, fun l f _ _ => ?_, fun a _ => ?_⟩
  · rw [ld_put hs hp, ← nI_add]
    by_cases c : (wayN p).testBit l = true
    · rw [if_pos c, if_pos ⟨hD, c⟩, back1]
    · rw [if_neg c, if_neg (fun q => c q.2), nI_0, Int32.add_zero]
  · rw [pa_put hs hp, ← nI_add]
    by_cases c : (wayN p).testBit f = true ∧ (spaN p).testBit l = true
    · rw [if_pos c, if_pos ⟨hD, c⟩, back1]
    · rw [if_neg c, if_neg (fun q => c q.2), nI_0, Int32.add_zero]
  · rw [wo_put hs hp, ← nI_add]
    by_cases c : a = hosN p
    · rw [if_pos c, if_pos ⟨hD, c.symm⟩, back1]
    · rw [if_neg c, if_neg (fun q => c q.2.symm), nI_0, Int32.add_zero]
end MV
/-! whether LINES and HOST bear one more -/
section HOLD
variable {S : St} {P : Nat → Nat} {D : Nat → Nat → Bool} {C : IM} {b t : Nat}
theorem mx_max (f : Nat → Nat) (g : Nat → Bool) (d : Nat) : ∀ k, max (mx f k) (mx (fun i => if g i = true then f i + d else 0) k) = mx (fun i => f i + if g i = true then d else 0) k
  | 0 => rfl
  | k + 1 => by
    have := mx_max f g d k
    unfold mx
    by_cases c : g k = true
    · simp only [if_pos c]; omega
    · simp only [if_neg c]; omega
theorem fallWith_S (hs : S.slOk) (ht : t < 24) {l w d : Nat} (hl : l < 9) (hw : w < 512) (hd : d ≤ 20) (hC : bkT S P D b t C) : jX0_fallWithK C b (nI l) (nI w) (nI d) (nI t) ∧ jX0_fallWith C b (nI l) (nI w) (nI d) (nI t) = nI (mx (fun f => S.pa P D l f t + if w.testBit f = true then d else 0) 9) := by
  obtain ⟨k1, k2, k3⟩ := hC.1 l hl
  have b0 := fl_le (P := P) (D := D) hs l t
  unfold jX0_fallWithK jX0_fallWith
  rw [idx9, nI_clamp (by omega), k2]
  have vp : vp_in (nI (9 * t + l)) 216 := (vp_nI (by omega)).mpr (by omega)
  have b1 : ∀ k, mx (fun i => if w.testBit i = true then S.pa P D l i t + d else 0) k ≤ 180 := fun k => (mx_le k).mpr fun i _ => by
    have := pa_le (P := P) (D := D) hs l i t
    split <;> omega
  have E : Ends (fun n (s : Int32 × Int32) => jX0_fallWithI b (nI l) (nI w) (nI d) (nI t) n (nI (9 * t + l)) s.1 s.2 C) (fun n s => jX0_fallWithO b (nI l) (nI w) (nI d) (nI t) n (nI (9 * t + l)) s.1 s.2 C) (9 * 1 + 1) ((nI (S.fl P D l t), nI 0) : Int32 × Int32) (nI (mx (fun f => S.pa P D l f t + if w.testBit f = true then d else 0) 9)) := by
    refine Go.ends (s' := (nI (mx (fun f => S.pa P D l f t + if w.testBit f = true then d else 0) 9), nI 9)) ?_ (Ends.one fun n => ?_)
    · have := Go.loop (F := fun n (s : Int32 × Int32) => jX0_fallWithI b (nI l) (nI w) (nI d) (nI t) n (nI (9 * t + l)) s.1 s.2 C) (O := fun n s => jX0_fallWithO b (nI l) (nI w) (nI d) (nI t) n (nI (9 * t + l)) s.1 s.2 C) (B := 1) (a := fun k => (nI (max (S.fl P D l t) (mx (fun i => if w.testBit i = true then S.pa P D l i t + d else 0) k)), nI k)) 9 fun f hf => Go.one fun n => ?_
      · rw [show S.fl P D l t = mx (fun f => S.pa P D l f t) 9 from rfl, mx_max] at this
        rw [show (max (mx (fun f => S.pa P D l f t) 9) (mx (fun i => if w.testBit i = true then S.pa P D l i t + d else 0) 0)) = S.fl P D l t from Nat.max_zero _] at this
        exact this
      · dsimp only
        have := b1 f
        have := pa_le (P := P) (D := D) hs l f t
        have vp : vp_in (nI ((9 * t + l) * 9 + f)) 1944 := (vp_nI (by omega)).mpr (by omega)
        have c0 : ¬ (9 : Int32) ≤ nI f := by rw [li9]; exact nI_ge hf (by omega)
        rw [jX0_fallWithO_21, jX0_fallWithI_21, show nI (9 * t + l) * 9 + nI f = nI ((9 * t + l) * 9 + f) by rw [li9, nI_mul, nI_add], nI_clamp (by omega), k3 f hf, nI_add, nI_1, mx]
        by_cases c : w.testBit f = true
        · rw [if_pos c, ← Nat.max_assoc, ← max_nI (a := max _ _) (by omega) (by omega)]
          simp (disch := omega) only [hs_nI, eq_false c0, eq_true c, eq_true vp, ↓reduceIte, not_true_eq_false, not_false_eq_true, true_imp_iff, false_imp_iff, implies_true, and_true, true_and, eq_self]
          first | exact id | exact ⟨id, rfl⟩
        · rw [if_neg c, Nat.max_zero]
          simp (disch := omega) only [hs_nI, eq_false c0, eq_false c, ↓reduceIte, not_true_eq_false, not_false_eq_true, true_imp_iff, false_imp_iff, implies_true, and_true, true_and, eq_self, Bool.false_eq_true]
          first | exact id | exact ⟨id, rfl⟩
    · dsimp only
      have c0 : (9 : Int32) ≤ nI 9 := by decide
      rw [jX0_fallWithO_21, jX0_fallWithI_21]
      simp only [eq_true c0, ↓reduceIte, not_true_eq_false, not_false_eq_true, true_imp_iff, false_imp_iff, implies_true, and_true, true_and, eq_self]
  obtain ⟨r1, r2⟩ := E.use (f := FU) (by rw [FU_eq]; omega)
  exact ⟨⟨vp, r1⟩, r2⟩
/-- LINES of one TICK -/
theorem linesHoldAt_S (hs : S.slOk) (hN : S.netOk) (ht : t < 24) {p d : Nat} (hp : p < 2 ^ 31) (hd : d ≤ 20) (hw : wayN p < 2 ^ S.nl) (hdj : wayN p &&& spaN p = 0) (hc : cNet S C) (hC : bkT S P D b t C) (hL : S.linesOk P D t) :
    jX0_linesHoldAtK C b (nI p) (nI d) (nI t) ∧ (jX0_linesHoldAt C b (nI p) (nI d) (nI t) = 0 ↔ ¬ ∀ l, l < S.nl → (S.ld P D l t + if (wayN p).testBit l = true then d else 0) + mx (fun f => S.pa P D l f t + if (wayN p).testBit f = true ∧ (spaN p).testBit l = true then d else 0) 9 ≤ S.rm l) := by
  have h9 := hN.2.1
  have w9 : wayN p < 512 := Nat.mod_lt _ (by decide)
  have u9 : spaN p < 512 := Nat.mod_lt _ (by decide)
  unfold jX0_linesHoldAtK jX0_linesHoldAt
  rw [way_nI hp, spa_nI hp]
  have step : ∀ l, l < S.nl → vp_in (nI l) 9 ∧ jX0_loadAtK (nI l) (nI t) ∧ jX0_fallAtK (nI l) (nI t) ∧ jX0_fallWithK C b (nI l) (nI (wayN p)) (nI d) (nI t) ∧ (C (6 + l) 2 - jX0_loadAt C b (nI l) (nI t) = nI (S.rm l - S.ld P D l t)) ∧ jX0_fallAt C b (nI l) (nI t) = nI (S.fl P D l t) ∧ jX0_fallWith C b (nI l) (nI (wayN p)) (nI d) (nI t) = nI (mx (fun f => S.pa P D l f t + if (wayN p).testBit f = true then d else 0) 9) := by
    intro l hl
    obtain ⟨k1, k2, k3⟩ := hC.1 l (by omega)
    obtain ⟨f1, f2⟩ := fallWith_S (l := l) hs ht (by omega) w9 hd hC
    have vp : vp_in (nI (9 * t + l)) 216 := (vp_nI (by omega)).mpr (by omega)
    have := hL l hl
    refine ⟨(vp_nI (by omega)).mpr (by omega), ?_, ?_, f1, ?_, ?_, f2⟩
    · unfold jX0_loadAtK; rw [idx9]; exact vp
    · unfold jX0_fallAtK; rw [idx9]; exact vp
    · unfold jX0_loadAt
      rw [idx9, nI_clamp (by omega), k1, (hc.2.2.2 l (by omega)).2.2.1, nI_sub (by omega)]
    · unfold jX0_fallAt
      rw [idx9, nI_clamp (by omega), k2]
  have bm : ∀ l, mx (fun f => S.pa P D l f t + if (wayN p).testBit f = true then d else 0) 9 ≤ 180 := fun l => (mx_le 9).mpr fun f _ => by
    have := pa_le (P := P) (D := D) hs l f t
    split <;> omega
  obtain ⟨A, B⟩ := Go.loopX (F := fun n (s : Int32) => jX0_linesHoldAtI b (nI p) (nI d) (nI t) n (nI (wayN p)) (nI (spaN p)) s C) (O := fun n s => jX0_linesHoldAtO b (nI p) (nI d) (nI t) n (nI (wayN p)) (nI (spaN p)) s C) (B := 1) (a := fun k => nI k) (ok := fun l => ((wayN p).testBit l = true → d + S.fl P D l t ≤ S.rm l - S.ld P D l t) ∧ ((spaN p).testBit l = true → mx (fun f => S.pa P D l f t + if (wayN p).testBit f = true then d else 0) 9 ≤ S.rm l - S.ld P D l t)) (b0 := (0 : Int32)) (b1 := (1 : Int32)) S.nl S.nl 0 (by omega)
    (fun l hl c => Go.one fun n => by
      obtain ⟨s1, s2, s3, s4, s5, s6, s7⟩ := step l hl
      have c0 : ¬ S.nl ≤ l := by omega
      have := bm l
      have := fl_le (P := P) (D := D) hs l t
      have := (hN.2.2.2.2 l hl).2.2.2.2.1
      rw [jX0_linesHoldAtO_15, jX0_linesHoldAtI_15, hc.2.1, nI_clamp (by omega), s5, s6, s7, nI_add, nI_1]
      by_cases c1 : (wayN p).testBit l = true
      · by_cases c2 : (spaN p).testBit l = true
        · simp (disch := omega) only [nI_leI, hs_nI, eq_false c0, eq_true c1, eq_true c2, eq_true (c.1 c1), eq_true (c.2 c2), eq_true s1, eq_true s2, eq_true s3, eq_true s4, ↓reduceIte, not_true_eq_false, not_false_eq_true, true_imp_iff, false_imp_iff, implies_true, and_true, true_and, eq_self]
          first | exact id | exact ⟨id, rfl⟩
        · simp (disch := omega) only [nI_leI, hs_nI, eq_false c0, eq_true c1, eq_false c2, eq_true (c.1 c1), eq_true s1, eq_true s2, eq_true s3, eq_true s4, ↓reduceIte, not_true_eq_false, not_false_eq_true, true_imp_iff, false_imp_iff, implies_true, and_true, true_and, eq_self]
          first | exact id | exact ⟨id, rfl⟩
      · by_cases c2 : (spaN p).testBit l = true
        · simp (disch := omega) only [nI_leI, hs_nI, eq_false c0, eq_false c1, eq_true c2, eq_true (c.2 c2), eq_true s1, eq_true s2, eq_true s3, eq_true s4, ↓reduceIte, not_true_eq_false, not_false_eq_true, true_imp_iff, false_imp_iff, implies_true, and_true, true_and, eq_self]
          first | exact id | exact ⟨id, rfl⟩
        · simp (disch := omega) only [nI_leI, hs_nI, eq_false c0, eq_false c1, eq_false c2, eq_true s1, eq_true s2, eq_true s3, eq_true s4, ↓reduceIte, not_true_eq_false, not_false_eq_true, true_imp_iff, false_imp_iff, implies_true, and_true, true_and, eq_self]
          first | exact id | exact ⟨id, rfl⟩)
    (fun l hl c => Ends.one fun n => by
      obtain ⟨s1, s2, s3, s4, s5, s6, s7⟩ := step l hl
      have c0 : ¬ S.nl ≤ l := by omega
      have := bm l
      have := fl_le (P := P) (D := D) hs l t
      have := (hN.2.2.2.2 l hl).2.2.2.2.1
      rw [jX0_linesHoldAtO_15, jX0_linesHoldAtI_15, hc.2.1, nI_clamp (by omega), s5, s6, s7, nI_add, nI_1]
      by_cases c1 : (wayN p).testBit l = true
      · by_cases c3 : d + S.fl P D l t ≤ S.rm l - S.ld P D l t
        · have c2 : (spaN p).testBit l = true := by
            by_cases q : (spaN p).testBit l = true
            · exact q
            · exact absurd ⟨fun _ => c3, fun q' => absurd q' q⟩ c
          have c4 : ¬ mx (fun f => S.pa P D l f t + if (wayN p).testBit f = true then d else 0) 9 ≤ S.rm l - S.ld P D l t := fun q => c ⟨fun _ => c3, fun _ => q⟩
          simp (disch := omega) only [nI_leI, hs_nI, eq_false c0, eq_true c1, eq_true c2, eq_true c3, eq_false c4, eq_true s1, eq_true s2, eq_true s3, eq_true s4, ↓reduceIte, not_true_eq_false, not_false_eq_true, true_imp_iff, false_imp_iff, implies_true, and_true, true_and, eq_self]
        · simp (disch := omega) only [nI_leI, hs_nI, eq_false c0, eq_true c1, eq_false c3, eq_true s1, eq_true s2, eq_true s3, eq_true s4, ↓reduceIte, not_true_eq_false, not_false_eq_true, true_imp_iff, false_imp_iff, implies_true, and_true, true_and, eq_self]
      · have c2 : (spaN p).testBit l = true := by
          by_cases q : (spaN p).testBit l = true
          · exact q
          · exact absurd ⟨fun q' => absurd q' c1, fun q' => absurd q' q⟩ c
        have c4 : ¬ mx (fun f => S.pa P D l f t + if (wayN p).testBit f = true then d else 0) 9 ≤ S.rm l - S.ld P D l t := fun q => c ⟨fun q' => absurd q' c1, fun _ => q⟩
        simp (disch := omega) only [nI_leI, hs_nI, eq_false c0, eq_false c1, eq_true c2, eq_false c4, eq_true s1, eq_true s2, eq_true s3, eq_true s4, ↓reduceIte, not_true_eq_false, not_false_eq_true, true_imp_iff, false_imp_iff, implies_true, and_true, true_and, eq_self])
    (Ends.one fun n => by
      have c0 : S.nl ≤ S.nl := Nat.le_refl _
      rw [jX0_linesHoldAtO_15, jX0_linesHoldAtI_15, hc.2.1]
      simp (disch := omega) only [nI_leI, eq_true c0, ↓reduceIte, not_true_eq_false, not_false_eq_true, true_imp_iff, false_imp_iff, implies_true, and_true, true_and, eq_self])
  have key : ∀ l, l < S.nl → ((((wayN p).testBit l = true → d + S.fl P D l t ≤ S.rm l - S.ld P D l t) ∧ ((spaN p).testBit l = true → mx (fun f => S.pa P D l f t + if (wayN p).testBit f = true then d else 0) 9 ≤ S.rm l - S.ld P D l t)) ↔ (S.ld P D l t + if (wayN p).testBit l = true then d else 0) + mx (fun f => S.pa P D l f t + if (wayN p).testBit f = true ∧ (spaN p).testBit l = true then d else 0) 9 ≤ S.rm l) := by
    intro l hl
    have hl' := hL l hl
    by_cases c2 : (spaN p).testBit l = true
    · have c1 : ¬ (wayN p).testBit l = true := fun q => by
        have := congrArg (fun x => Nat.testBit x l) hdj
        simp only [Nat.testBit_and, q, c2, Nat.zero_testBit] at this
        exact absurd this (by decide)
      simp only [c1, c2, Bool.false_eq_true, false_imp_iff, true_imp_iff, true_and, and_true, if_false, Nat.add_zero]
      omega
    · have e : mx (fun f => S.pa P D l f t + if (wayN p).testBit f = true ∧ (spaN p).testBit l = true then d else 0) 9 = S.fl P D l t := mx_congr 9 fun f _ => by rw [if_neg (fun q => c2 q.2), Nat.add_zero]
      rw [e]
      by_cases c1 : (wayN p).testBit l = true
      · simp only [c1, c2, Bool.false_eq_true, false_imp_iff, true_imp_iff, true_and, and_true, if_true]
        omega
      · simp only [c1, c2, Bool.false_eq_true, false_imp_iff, true_imp_iff, true_and, and_true, if_false, Nat.add_zero, true_iff]
        exact hl'
  by_cases c : ∀ l, l < S.nl → (S.ld P D l t + if (wayN p).testBit l = true then d else 0) + mx (fun f => S.pa P D l f t + if (wayN p).testBit f = true ∧ (spaN p).testBit l = true then d else 0) 9 ≤ S.rm l
  · obtain ⟨r1, r2⟩ := (A fun j _ q => (key j q).mpr (c j q)).use (f := FU) (by rw [FU_eq]; omega)
    refine ⟨r1, ?_⟩
    rw [show jX0_linesHoldAtI b (nI p) (nI d) (nI t) FU (nI (wayN p)) (nI (spaN p)) 0 C = 1 from r2]
    exact ⟨fun q => absurd q (by decide), fun q => absurd c q⟩
  · obtain ⟨r1, r2⟩ := (B fun q => c fun j hj => (key j hj).mp (q j (Nat.zero_le _) hj)).use (f := FU) (by rw [FU_eq]; omega)
    refine ⟨r1, ?_⟩
    rw [show jX0_linesHoldAtI b (nI p) (nI d) (nI t) FU (nI (wayN p)) (nI (spaN p)) 0 C = 0 from r2]
    exact ⟨fun _ => c, fun _ => rfl⟩
end HOLD
end
