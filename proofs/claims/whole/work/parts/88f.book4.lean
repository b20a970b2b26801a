noncomputable section
section HOLD
variable {S : St} {P : Nat → Nat} {D : Nat → Nat → Bool} {C : IM} {b n s p wh : Nat}
theorem lines_put (hs : s < S.ns) (hp : p ≠ 0) (h0 : P s = 0) {t : Nat} (hD : D s t = true) : S.linesOk (put P s p) D t ↔ ∀ l, l < S.nl → (S.ld P D l t + if (wayN p).testBit l = true then S.need s else 0) + mx (fun f => S.pa P D l f t + if (wayN p).testBit f = true ∧ (spaN p).testBit l = true then S.need s else 0) 9 ≤ S.rm l := by
  have e : put P s 0 = P := by rw [← h0]; exact put_self
  unfold St.linesOk
  refine forall_congr' fun l => forall_congr' fun _ => ?_
  have e2 : S.fl (put P s p) D l t = mx (fun f => S.pa P D l f t + if (wayN p).testBit f = true ∧ (spaN p).testBit l = true then S.need s else 0) 9 := mx_congr 9 fun f _ => by rw [pa_put hs hp, e]; simp only [hD, true_and]
  rw [e2, ld_put hs hp, e]
  simp only [hD, true_and]
theorem lines_no (hs : s < S.ns) (hp : p ≠ 0) (h0 : P s = 0) {t : Nat} (hD : D s t = false) : S.linesOk (put P s p) D t ↔ S.linesOk P D t := by
  have e : put P s 0 = P := by rw [← h0]; exact put_self
  unfold St.linesOk
  refine forall_congr' fun l => forall_congr' fun _ => ?_
  have e2 : S.fl (put P s p) D l t = S.fl P D l t := mx_congr 9 fun f _ => by rw [pa_put hs hp, e]; simp [hD]
  rw [e2, ld_put hs hp, e]
  simp [hD]
theorem works_put (hs : s < S.ns) (hp : p ≠ 0) (h0 : P s = 0) {t : Nat} (hD : D s t = true) (hw : S.worksOk P D t) (hh : hosN p < S.nn) : S.worksOk (put P s p) D t ↔ S.wo' P D (hosN p) t + S.wk s ≤ S.wr (hosN p) := by
  have e : put P s 0 = P := by rw [← h0]; exact put_self
  unfold St.worksOk
  constructor
  · intro q
    have := q _ hh
    rw [wo_put hs hp, e, if_pos ⟨hD, rfl⟩] at this
    exact this
  · intro q a ha
    rw [wo_put hs hp, e]
    by_cases c : hosN p = a
    · rw [if_pos ⟨hD, c⟩, ← c]; exact q
    · rw [if_neg (fun q => c q.2), Nat.add_zero]; exact hw a ha
theorem works_no (hs : s < S.ns) (hp : p ≠ 0) (h0 : P s = 0) {t : Nat} (hD : D s t = false) : S.worksOk (put P s p) D t ↔ S.worksOk P D t := by
  have e : put P s 0 = P := by rw [← h0]; exact put_self
  unfold St.worksOk
  refine forall_congr' fun a => forall_congr' fun _ => ?_
  rw [wo_put hs hp, e]
  simp [hD]
theorem linesHold_S (hsl : S.slOk) (hN : S.netOk) (hn : n ≤ 24) (hs : s < S.ns) (h0 : P s = 0) (hp : p < 2 ^ 31) (hp0 : p ≠ 0) (hw : wayN p < 2 ^ S.nl) (hdj : wayN p &&& spaN p = 0) (hc : cNet S C) (hB : C b 4 = nI n) (hnd : jX8_needed C s = nI (S.need s)) (hwh : wh < 2 ^ 24) (hD : ∀ t, t < n → wh.testBit t = D s t) (hC : cBk S P D b n C) (hL : ∀ t, t < n → S.linesOk P D t) :
    jX0_linesHoldK C b s (nI p) (nI wh) ∧ (jX0_linesHold C b s (nI p) (nI wh) = 0 ↔ ¬ ∀ t, t < n → S.linesOk (put P s p) D t) := by
  unfold jX0_linesHoldK jX0_linesHold
  rw [hnd]
  have hd := need_le hsl hs
  obtain ⟨A, B⟩ := Go.loopX (F := fun m (k : Int32) => jX0_linesHoldI b s (nI p) (nI wh) m (nI (S.need s)) k C) (O := fun m k => jX0_linesHoldO b s (nI p) (nI wh) m (nI (S.need s)) k C) (B := 1) (a := fun k => nI k) (ok := fun t => S.linesOk (put P s p) D t) (b0 := (0 : Int32)) (b1 := (1 : Int32)) n n 0 (by omega)
    (fun t ht c => Go.one fun m => by
      have c0 : ¬ n ≤ t := by omega
      rw [jX0_linesHoldO_9, jX0_linesHoldI_9, hB, nI_1]
      by_cases c1 : wh.testBit t = true
      · obtain ⟨l1, l2⟩ := linesHoldAt_S hsl hN (show t < 24 by omega) hp hd hw hdj hc (hC t ht) (hL t ht)
        have c2 : ¬ jX0_linesHoldAt C b (nI p) (nI (S.need s)) (nI t) = 0 := fun q => l2.mp q ((lines_put hs hp0 h0 (by rw [← hD t ht]; exact c1)).mp c)
        simp (disch := omega) only [nI_leI, hs_nI, eq_false c0, eq_true c1, eq_false c2, eq_true l1, ↓reduceIte, not_true_eq_false, not_false_eq_true, true_imp_iff, false_imp_iff, implies_true, and_true, true_and, eq_self]
        first | exact id | exact ⟨id, rfl⟩
      · simp (disch := omega) only [nI_leI, hs_nI, eq_false c0, eq_false c1, ↓reduceIte, not_true_eq_false, not_false_eq_true, true_imp_iff, false_imp_iff, implies_true, and_true, true_and, eq_self]
        first | exact id | exact ⟨id, rfl⟩)
    (fun t ht c => Ends.one fun m => by
      have c0 : ¬ n ≤ t := by omega
      rw [jX0_linesHoldO_9, jX0_linesHoldI_9, hB, nI_1]
      have c1 : wh.testBit t = true := by
        by_cases q : wh.testBit t = true
        · exact q
        · exact absurd ((lines_no hs hp0 h0 (by rw [← hD t ht]; exact Bool.eq_false_iff.mpr q)).mpr (hL t ht)) c
      obtain ⟨l1, l2⟩ := linesHoldAt_S hsl hN (show t < 24 by omega) hp hd hw hdj hc (hC t ht) (hL t ht)
      have c2 : jX0_linesHoldAt C b (nI p) (nI (S.need s)) (nI t) = 0 := l2.mpr (mt (lines_put hs hp0 h0 (by rw [← hD t ht]; exact c1)).mpr c)
      simp (disch := omega) only [nI_leI, hs_nI, eq_false c0, eq_true c1, eq_true c2, eq_true l1, ↓reduceIte, not_true_eq_false, not_false_eq_true, true_imp_iff, false_imp_iff, implies_true, and_true, true_and, eq_self])
    (Ends.one fun m => by
      have c0 : n ≤ n := Nat.le_refl _
      rw [jX0_linesHoldO_9, jX0_linesHoldI_9, hB]
      simp (disch := omega) only [nI_leI, eq_true c0, ↓reduceIte, not_true_eq_false, not_false_eq_true, true_imp_iff, false_imp_iff, implies_true, and_true, true_and, eq_self])
  by_cases c : ∀ t, t < n → S.linesOk (put P s p) D t
  · obtain ⟨r1, r2⟩ := (A fun j _ q => c j q).use (f := FU) (by rw [FU_eq]; omega)
    refine ⟨r1, ?_⟩
    rw [show jX0_linesHoldI b s (nI p) (nI wh) FU (nI (S.need s)) 0 C = 1 from r2]
    exact ⟨fun q => absurd q (by decide), fun q => absurd c q⟩
  · obtain ⟨r1, r2⟩ := (B fun q => c fun j hj => q j (Nat.zero_le _) hj).use (f := FU) (by rw [FU_eq]; omega)
    refine ⟨r1, ?_⟩
    rw [show jX0_linesHoldI b s (nI p) (nI wh) FU (nI (S.need s)) 0 C = 0 from r2]
    exact ⟨fun _ => c, fun _ => rfl⟩
theorem hostHolds_S (hsl : S.slOk) (hN : S.netOk) (hn : n ≤ 24) (hs : s < S.ns) (h0 : P s = 0) (hp : p < 2 ^ 31) (hp0 : p ≠ 0) (hh : hosN p < S.nn) (hc : cNet S C) (hB : C b 4 = nI n) (hwk : C (17 + 4 * s) 6 = nI (S.wk s)) (hwh : wh < 2 ^ 24) (hD : ∀ t, t < n → wh.testBit t = D s t) (hC : cBk S P D b n C) (hW : ∀ t, t < n → S.worksOk P D t) :
    jX0_hostHoldsK C b s (nI p) (nI wh) ∧ (jX0_hostHolds C b s (nI p) (nI wh) = 0 ↔ ¬ ∀ t, t < n → S.worksOk (put P s p) D t) := by
  have h6 := hN.1
  have hk : S.wk s ≤ 20 := by have := hsl.2.1 s hs; omega
  have hr := hN.2.2.1 _ hh
  unfold jX0_hostHoldsK jX0_hostHolds jX5_workroomOfK jX5_workroomOf
  rw [hos_nI hp, nI_clamp (by omega), hwk, hc.2.2.1 _ (by omega)]
  have vp : vp_in (nI (hosN p)) 6 := (vp_nI (by omega)).mpr (by omega)
  have st : ∀ t, t < n → jX0_worksAtK (nI (hosN p)) (nI t) ∧ jX0_worksAt C b (nI (hosN p)) (nI t) = nI (S.wo' P D (hosN p) t) := fun t ht => by
    unfold jX0_worksAtK jX0_worksAt
    rw [idx6, nI_clamp (by omega), (hC t ht).2 _ (by omega)]
    exact ⟨(vp_nI (by omega)).mpr (by omega), rfl⟩
  obtain ⟨A, B⟩ := Go.loopX (F := fun m (k : Int32) => jX0_hostHoldsI b s (nI p) (nI wh) m (nI (hosN p)) (nI (S.wr (hosN p)) - nI (S.wk s)) k C) (O := fun m k => jX0_hostHoldsO b s (nI p) (nI wh) m (nI (hosN p)) (nI (S.wr (hosN p)) - nI (S.wk s)) k C) (B := 1) (a := fun k => nI k) (ok := fun t => S.worksOk (put P s p) D t) (b0 := (0 : Int32)) (b1 := (1 : Int32)) n n 0 (by omega)
    (fun t ht c => Go.one fun m => by
      obtain ⟨s1, s2⟩ := st t ht
      have c0 : ¬ n ≤ t := by omega
      have := wo_le (P := P) (D := D) hsl (hosN p) t
      rw [jX0_hostHoldsO_22, jX0_hostHoldsI_22, hB, nI_1, s2]
      by_cases c1 : wh.testBit t = true
      · have c2 : nI (S.wo' P D (hosN p) t) ≤ nI (S.wr (hosN p)) - nI (S.wk s) := (nI_le_sub (by omega) (by omega) (by omega)).mpr ((works_put hs hp0 h0 (by rw [← hD t ht]; exact c1) (hW t ht) hh).mp c)
        simp (disch := omega) only [nI_leI, hs_nI, eq_false c0, eq_true c1, eq_true c2, eq_true s1, ↓reduceIte, not_true_eq_false, not_false_eq_true, true_imp_iff, false_imp_iff, implies_true, and_true, true_and, eq_self]
        first | exact id | exact ⟨id, rfl⟩
      · simp (disch := omega) only [nI_leI, hs_nI, eq_false c0, eq_false c1, ↓reduceIte, not_true_eq_false, not_false_eq_true, true_imp_iff, false_imp_iff, implies_true, and_true, true_and, eq_self]
        first | exact id | exact ⟨id, rfl⟩)
    (fun t ht c => Ends.one fun m => by
      obtain ⟨s1, s2⟩ := st t ht
      have c0 : ¬ n ≤ t := by omega
      have := wo_le (P := P) (D := D) hsl (hosN p) t
      rw [jX0_hostHoldsO_22, jX0_hostHoldsI_22, hB, nI_1, s2]
      have c1 : wh.testBit t = true := by
        by_cases q : wh.testBit t = true
        · exact q
        · exact absurd ((works_no hs hp0 h0 (by rw [← hD t ht]; exact Bool.eq_false_iff.mpr q)).mpr (hW t ht)) c
      have c2 : ¬ nI (S.wo' P D (hosN p) t) ≤ nI (S.wr (hosN p)) - nI (S.wk s) := fun q => c ((works_put hs hp0 h0 (by rw [← hD t ht]; exact c1) (hW t ht) hh).mpr ((nI_le_sub (by omega) (by omega) (by omega)).mp q))
      simp (disch := omega) only [nI_leI, hs_nI, eq_false c0, eq_true c1, eq_false c2, eq_true s1, ↓reduceIte, not_true_eq_false, not_false_eq_true, true_imp_iff, false_imp_iff, implies_true, and_true, true_and, eq_self])
    (Ends.one fun m => by
      have c0 : n ≤ n := Nat.le_refl _
      rw [jX0_hostHoldsO_22, jX0_hostHoldsI_22, hB]
      simp (disch := omega) only [nI_leI, eq_true c0, ↓reduceIte, not_true_eq_false, not_false_eq_true, true_imp_iff, false_imp_iff, implies_true, and_true, true_and, eq_self])
  by_cases c : ∀ t, t < n → S.worksOk (put P s p) D t
  · obtain ⟨r1, r2⟩ := (A fun j _ q => c j q).use (f := FU) (by rw [FU_eq]; omega)
    refine ⟨⟨vp, r1⟩, ?_⟩
    rw [show jX0_hostHoldsI b s (nI p) (nI wh) FU (nI (hosN p)) (nI (S.wr (hosN p)) - nI (S.wk s)) 0 C = 1 from r2]
    exact ⟨fun q => absurd q (by decide), fun q => absurd c q⟩
  · obtain ⟨r1, r2⟩ := (B fun q => c fun j hj => q j (Nat.zero_le _) hj).use (f := FU) (by rw [FU_eq]; omega)
    refine ⟨⟨vp, r1⟩, ?_⟩
    rw [show jX0_hostHoldsI b s (nI p) (nI wh) FU (nI (hosN p)) (nI (S.wr (hosN p)) - nI (S.wk s)) 0 C = 0 from r2]
    exact ⟨fun _ => c, fun _ => rfl⟩
/-- a SLICE comes in -/
theorem come_S (hsl : S.slOk) (hN : S.netOk) (hn : n ≤ 24) (hs : s < S.ns) (h0 : P s = 0) (hb : b = 49 ∨ b = 57) (hp : p < 2 ^ 31) (hp0 : p ≠ 0) (hw : wayN p < 2 ^ S.nl) (hu : spaN p < 2 ^ S.nl) (hh : hosN p < 6) (hc : C 1 4 = nI S.nl) (hB : C b 4 = nI n) (hnd : jX8_needed C s = nI (S.need s)) (hwk : C (17 + 4 * s) 6 = nI (S.wk s)) (hwh : wh < 2 ^ 24) (hD : ∀ t, t < n → wh.testBit t = D s t) (hC : cBk S P D b n C) :
    jX0_enterK C b s (nI p) (nI wh) 1 ∧ cBk S (put P s p) D b n (jX0_enter C b s (nI p) (nI wh) 1) ∧ ∀ k, ¬ (b < k ∧ k < b + 5) → jX0_enter C b s (nI p) (nI wh) 1 k = C k := by
  have h8 := hsl.1
  have e : put P s 0 = P := by rw [← h0]; exact put_self
  refine enter_S (Q := P) hsl hN.2.1 hn (fun t ht q => ?_) (fun t ht q => ?_) hw hu hh hb (by omega) hc hB hwh hp rfl rfl rfl hC
  · have := mv_in (S := S) (P := P) (D := D) (t := t) hs hp0 (by rw [← hD t ht]; exact q)
    rw [e] at this
    rw [hnd, hwk]
    exact this
  · have := (mv_no (S := S) (P := P) (D := D) (t := t) hs hp0 (by rw [← hD t ht]; exact q)).1
    rw [e] at this
    exact this
/-- a SLICE goes out -/
theorem go_S (hsl : S.slOk) (hN : S.netOk) (hn : n ≤ 24) (hs : s < S.ns) (h0 : P s = p) (hb : b = 49 ∨ b = 57) (hp : p < 2 ^ 31) (hp0 : p ≠ 0) (hw : wayN p < 2 ^ S.nl) (hu : spaN p < 2 ^ S.nl) (hh : hosN p < 6) (hc : C 1 4 = nI S.nl) (hB : C b 4 = nI n) (hnd : jX8_needed C s = nI (S.need s)) (hwk : C (17 + 4 * s) 6 = nI (S.wk s)) (hwh : wh < 2 ^ 24) (hD : ∀ t, t < n → wh.testBit t = D s t) (hC : cBk S P D b n C) :
    jX0_enterK C b s (nI p) (nI wh) (-1) ∧ cBk S (put P s 0) D b n (jX0_enter C b s (nI p) (nI wh) (-1)) ∧ ∀ k, ¬ (b < k ∧ k < b + 5) → jX0_enter C b s (nI p) (nI wh) (-1) k = C k := by
  have h8 := hsl.1
  have e : put P s p = P := by rw [← h0]; exact put_self
  refine enter_S (Q := P) hsl hN.2.1 hn (fun t ht q => ?_) (fun t ht q => ?_) hw hu hh hb (by omega) hc hB hwh hp rfl rfl rfl hC
  · have := mv_out (S := S) (P := P) (D := D) (t := t) hs hp0 (by rw [← hD t ht]; exact q)
    rw [e] at this
    rw [hnd, hwk]
    exact this
  · have := (mv_no (S := S) (P := P) (D := D) (t := t) hs hp0 (by rw [← hD t ht]; exact q)).2
    rw [e] at this
    exact this
end HOLD
end
