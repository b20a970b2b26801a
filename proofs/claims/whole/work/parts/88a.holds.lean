noncomputable section
section MBS
variable {S : St} {P : Nat → Nat} {M : IM} {D : Nat → Nat → Bool}
/-- a SPARE has no LINE of its WAY, and LINES of the net alone -/
theorem pa_zero (hn : S.netOk) (h8 : S.ns ≤ 8) (hp : S.plOk P) {l f t : Nat} (h : f = l ∨ S.nl ≤ f) : S.pa P D l f t = 0 := by
  refine sm_zero _ fun s hsl => if_neg fun q => ?_
  obtain ⟨-, w, u, a, g, -, g1, g2, -, g3, g4, -⟩ := pl_parts hn hp (show s < 8 by omega) q.1
  have q3 := q.2.2.1
  have q4 := q.2.2.2
  rw [g1] at q3
  rw [g2] at q4
  rcases h with h | h
  · subst h
    by_cases c : S.kd s = 1
    · have := congrArg (fun x => Nat.testBit x f) (g.2.2.2 c).2
      simp only [Nat.testBit_and, q3, q4, Nat.zero_testBit] at this
      exact absurd this (by decide)
    · rw [g.2.2.1 c] at q4
      exact absurd q4 (by simp [setOf])
  · rw [bit_no g3 h] at q3
    exact absurd q3 (by decide)
theorem mx_pad {f : Nat → Nat} {n : Nat} : ∀ d, (∀ i, n ≤ i → i < n + d → f i = 0) → mx f (n + d) = mx f n
  | 0, _ => rfl
  | d + 1, h => by
    show max (mx f (n + d)) (f (n + d)) = _
    rw [mx_pad d (fun i h1 h2 => h i h1 (by omega)), h (n + d) (by omega) (by omega)]
    omega
theorem sure_of (hn : S.netOk) (hp : S.plOk P) {s l : Nat} (hsl : s < 8) (c : P s ≠ 0) (h : (spaN (P s)).testBit l = true) : S.kd s = 1 := by
  obtain ⟨-, w, u, a, g, -, g1, g2, -⟩ := pl_parts hn hp hsl c
  by_cases k : S.kd s = 1
  · exact k
  · rw [g2, g.2.2.1 k] at h
    exact absurd h (by simp [setOf])
theorem fall_M (h : MB S P M) {l t : Nat} (hl : l < 9) : jX12_fallOfK M (nI l) (nI (S.cn P S.does t)) ∧ jX12_fallOf M (nI l) (nI (S.cn P S.does t)) = nI (S.fl P S.does l t) := by
  obtain ⟨hn, hsl, hp, m1, m2, m3⟩ := h
  have h8 := hsl.1
  have h9 := hn.2.1
  have pb : ∀ f, S.pa P S.does l f t ≤ 8 * 20 := fun f => by
    refine Nat.le_trans (sm_le (B := 20) _ fun s q => ?_) (Nat.mul_le_mul_right _ h8)
    have := hsl.2.1 s q
    unfold St.need
    split <;> (try split) <;> (try split) <;> omega
  have mb : ∀ k, mx (fun f => S.pa P S.does l f t) k ≤ 8 * 20 := fun k => (mx_le k).mpr fun f _ => pb f
  unfold jX12_fallOfK jX12_fallOf
  have E : Ends (fun n (s : Nat × Int32 × Int32 × Int32 × Int32) => jX12_fallOfI (nI l) (nI (S.cn P S.does t)) n s.1 s.2.1 s.2.2.1 s.2.2.2.1 s.2.2.2.2 M) (fun n s => jX12_fallOfO (nI l) (nI (S.cn P S.does t)) n s.1 s.2.1 s.2.2.1 s.2.2.2.1 s.2.2.2.2 M) (S.nl * 11 + 1) ((0, nI 0, nI 0, nI 0, nI 0) : Nat × Int32 × Int32 × Int32 × Int32) (nI (S.fl P S.does l t)) := by
    refine Go.ends (Go.loop (a := fun k => (0, nI (mx (fun f => S.pa P S.does l f t) k), nI k, nI 0, nI 0)) S.nl fun f hf => ?_) (Ends.one fun n => ?_)
    · have c0 : ¬ S.nl ≤ f := by omega
      by_cases c : f = l
      · refine (Go.one fun n => ?_).le (by omega : 1 ≤ 11)
        dsimp only
        rw [jX12_fallOfO_5, jX12_fallOfI_5, m1.2.1, nI_1, mx, pa_zero hn h8 hp (.inl c), Nat.max_zero]
        simp (disch := omega) only [nI_eq, nI_leI, eq_false c0, eq_true c, ↓reduceIte, not_true_eq_false, not_false_eq_true, true_imp_iff, false_imp_iff, implies_true, and_true, true_and, eq_self]
        first | exact id | exact ⟨id, rfl⟩
      · refine Go.le (B := 1 + (S.ns * 1 + 1)) ?_ (by omega)
        refine Go.trans (s' := (1, nI (mx (fun f => S.pa P S.does l f t) f), nI f, nI 0, nI 0)) (Go.one fun n => ?_) (Go.trans (Go.loop (a := fun k => (1, nI (mx (fun f => S.pa P S.does l f t) f), nI f, nI (sm (fun s => if P s ≠ 0 ∧ S.does s t = true ∧ (wayN (P s)).testBit f = true ∧ (spaN (P s)).testBit l = true then S.need s else 0) k), nI k)) S.ns fun k hk => Go.one fun n => ?_) (Go.one fun n => ?_))
        · dsimp only
          rw [jX12_fallOfO_5, jX12_fallOfI_5, m1.2.1, ← li0]
          simp (disch := omega) only [nI_eq, nI_leI, eq_false c0, eq_false c, ↓reduceIte, not_true_eq_false, not_false_eq_true, true_imp_iff, false_imp_iff, implies_true, and_true, true_and, eq_self]
          first | exact id | exact ⟨id, rfl⟩
        · have v : vp_in (nI k) 8 := (vp_nI (by omega)).mpr (by omega)
          have nd := need_M0 h8 (fun j hj => (hsl.2.1 j hj).1) m2 hk
          have hc := has_cn (P := P) h8 hk (t := t) (D := S.does)
          obtain ⟨e0, -⟩ := m2.2 k (by omega)
          dsimp only
          have g3 : (nI (S.kd k) = 1) = (S.kd k = 1) := propext (nI_eq (b := 1) (by have := (hsl.2.1 k hk).1; omega) (by omega))
          rw [jX12_fallOfO_29, jX12_fallOfI_29, m2.1, nI_clamp (by omega), nI_1 k, nd.2, nI_add, Int32.add_zero, sm, e0]
          have c0 : ¬ S.ns ≤ k := by omega
          by_cases c1 : P k ≠ 0 ∧ S.does k t = true
          · have c1' := hc.mpr c1
            have w : hs (M 107 k) (nI f) ↔ (wayN (P k)).testBit f = true := by
              rw [((m3 k (by omega)).2 c1.1).2.1, hs_nI (by have : wayN (P k) < 512 := Nat.mod_lt _ (by decide); omega) (by omega)]
            have u : hs (M 108 k) (nI l) ↔ (spaN (P k)).testBit l = true := by
              rw [((m3 k (by omega)).2 c1.1).2.2.1, hs_nI (by have : spaN (P k) < 512 := Nat.mod_lt _ (by decide); omega) (by omega)]
            by_cases c3 : (spaN (P k)).testBit l = true
            · have c4 := sure_of hn hp (show k < 8 by omega) c1.1 c3
              by_cases c2 : (wayN (P k)).testBit f = true
              · simp (disch := omega) only [g3, nI_leI, eq_false c0, eq_true c1', eq_true (w.mpr c2), eq_true (u.mpr c3), eq_true c4, eq_true (show P k ≠ 0 ∧ S.does k t = true ∧ (wayN (P k)).testBit f = true ∧ (spaN (P k)).testBit l = true from ⟨c1.1, c1.2, c2, c3⟩), ↓reduceIte, not_true_eq_false, not_false_eq_true, true_imp_iff, false_imp_iff, implies_true, and_true, true_and, eq_self, eq_true v, eq_true nd.1]
                first | exact id | exact ⟨id, rfl⟩
              · simp (disch := omega) only [g3, nI_leI, eq_false c0, eq_true c1', eq_false (mt w.mp c2), eq_true (u.mpr c3), eq_true c4, eq_false (show ¬ (P k ≠ 0 ∧ S.does k t = true ∧ (wayN (P k)).testBit f = true ∧ (spaN (P k)).testBit l = true) from fun q => c2 q.2.2.1), ↓reduceIte, not_true_eq_false, not_false_eq_true, true_imp_iff, false_imp_iff, implies_true, and_true, true_and, eq_self, eq_true v, Nat.add_zero]
                first | exact id | exact ⟨id, rfl⟩
            · have g : ¬ (P k ≠ 0 ∧ S.does k t = true ∧ (wayN (P k)).testBit f = true ∧ (spaN (P k)).testBit l = true) := fun q => c3 q.2.2.2
              simp (disch := omega) only [g3, nI_leI, eq_false c0, eq_true c1', eq_false (mt u.mp c3), eq_false g, ↓reduceIte, not_true_eq_false, not_false_eq_true, true_imp_iff, false_imp_iff, implies_true, and_true, true_and, eq_self, eq_true v, Nat.add_zero]
              by_cases c4 : S.kd k = 1
              · by_cases c5 : hs (M 107 k) (nI f)
                · simp (disch := omega) only [g3, nI_leI, eq_true c4, eq_true c5, ↓reduceIte, not_true_eq_false, not_false_eq_true, true_imp_iff, false_imp_iff, implies_true, and_true, true_and, eq_self]
                  first | exact id | exact ⟨id, rfl⟩
                · simp (disch := omega) only [g3, nI_leI, eq_true c4, eq_false c5, ↓reduceIte, not_true_eq_false, not_false_eq_true, true_imp_iff, false_imp_iff, implies_true, and_true, true_and, eq_self]
                  first | exact id | exact ⟨id, rfl⟩
              · simp (disch := omega) only [g3, nI_leI, eq_false c4, ↓reduceIte, not_true_eq_false, not_false_eq_true, true_imp_iff, false_imp_iff, implies_true, and_true, true_and, eq_self]
                first | exact id | exact ⟨id, rfl⟩
          · simp (disch := omega) only [g3, nI_leI, eq_false c0, eq_false (mt hc.mp c1), eq_false (show ¬ (P k ≠ 0 ∧ S.does k t = true ∧ (wayN (P k)).testBit f = true ∧ (spaN (P k)).testBit l = true) from fun q => c1 ⟨q.1, q.2.1⟩), ↓reduceIte, not_true_eq_false, not_false_eq_true, true_imp_iff, false_imp_iff, implies_true, and_true, true_and, eq_self, Nat.add_zero]
            first | exact id | exact ⟨id, rfl⟩
        · have b1 := pb f
          have b2 := mb f
          have b3 : sm (fun s => if P s ≠ 0 ∧ S.does s t = true ∧ (wayN (P s)).testBit f = true ∧ (spaN (P s)).testBit l = true then S.need s else 0) S.ns = S.pa P S.does l f t := rfl
          dsimp only
          rw [jX12_fallOfO_29, jX12_fallOfI_29, m2.1, b3, nI_1, mx, ← li0]
          have c0 : S.ns ≤ S.ns := Nat.le_refl _
          by_cases c1 : S.pa P S.does l f t ≤ mx (fun f => S.pa P S.does l f t) f
          · rw [Nat.max_eq_left c1]
            simp (disch := omega) only [nI_leI, eq_true c0, eq_true c1, ↓reduceIte, not_true_eq_false, not_false_eq_true, true_imp_iff, false_imp_iff, implies_true, and_true, true_and, eq_self]
            first | exact id | exact ⟨id, rfl⟩
          · rw [Nat.max_eq_right (by omega)]
            simp (disch := omega) only [nI_leI, eq_true c0, eq_false c1, ↓reduceIte, not_true_eq_false, not_false_eq_true, true_imp_iff, false_imp_iff, implies_true, and_true, true_and, eq_self]
            first | exact id | exact ⟨id, rfl⟩
    · dsimp only
      rw [jX12_fallOfO_5, jX12_fallOfI_5, m1.2.1, if_pos (nI_le (Nat.le_refl _) (by omega))]
      refine ⟨⟨fun _ => trivial, fun q => absurd (nI_le (Nat.le_refl _) (by omega)) q⟩, ?_⟩
      unfold St.fl
      obtain ⟨d, hd⟩ : ∃ d, 9 = S.nl + d := ⟨9 - S.nl, by omega⟩
      rw [hd, mx_pad d fun i q1 q2 => pa_zero hn h8 hp (.inr q1)]
  exact E.use (by rw [FU_eq]; omega)
theorem need_le (hsl : S.slOk) {s : Nat} (q : s < S.ns) : S.need s ≤ 20 := by
  have := hsl.2.1 s q
  unfold St.need
  split <;> (try split) <;> omega
theorem ld_le (hsl : S.slOk) (l t : Nat) : S.ld P D l t ≤ 160 := by
  refine Nat.le_trans (sm_le (B := 20) _ fun s q => ?_) (Nat.mul_le_mul_right 20 hsl.1)
  have := need_le hsl q
  split <;> omega
theorem pa_le (hsl : S.slOk) (l f t : Nat) : S.pa P D l f t ≤ 160 := by
  refine Nat.le_trans (sm_le (B := 20) _ fun s q => ?_) (Nat.mul_le_mul_right 20 hsl.1)
  have := need_le hsl q
  split <;> omega
theorem fl_le (hsl : S.slOk) (l t : Nat) : S.fl P D l t ≤ 160 := (mx_le 9).mpr fun f _ => pa_le hsl l f t
theorem wo_le (hsl : S.slOk) (a t : Nat) : S.wo' P D a t ≤ 160 := by
  refine Nat.le_trans (sm_le (B := 20) _ fun s q => ?_) (Nat.mul_le_mul_right 20 hsl.1)
  have := hsl.2.1 s q
  split <;> omega
theorem linesHold_M (h : MB S P M) (t : Nat) : jX12_linesHoldK M (nI (S.cn P S.does t)) ∧ (jX12_linesHold M (nI (S.cn P S.does t)) = 0 ↔ ¬ S.linesOk P S.does t) := by
  obtain ⟨hn, hsl, hp, m1, m2, m3⟩ := id h
  have h9 := hn.2.1
  unfold jX12_linesHoldK jX12_linesHold
  obtain ⟨A, B⟩ := Go.loopX (F := fun n (s : Int32) => jX12_linesHoldI (nI (S.cn P S.does t)) n s M) (O := fun n s => jX12_linesHoldO (nI (S.cn P S.does t)) n s M) (B := 1) (a := fun k => nI k) (ok := fun l => S.ld P S.does l t + S.fl P S.does l t ≤ S.rm l) (b0 := (0 : Int32)) (b1 := (1 : Int32)) S.nl S.nl 0 (by omega)
    (fun l hl c => Go.one fun n => by
      have v : vp_in (nI l) 9 := (vp_nI (by omega)).mpr (by omega)
      have l1 := load_M h (l := l) (t := t) (by omega)
      have l2 := fall_M h (l := l) (t := t) (by omega)
      have k1 := ld_le (P := P) (D := S.does) hsl l t
      have k2 := fl_le (P := P) (D := S.does) hsl l t
      have k3 := hn.2.2.2.2 l hl
      obtain ⟨-, -, e3, -⟩ := m1.2.2.2.1 l (by omega)
      rw [jX12_linesHoldO_2, jX12_linesHoldI_2, m1.2.1, nI_clamp (by omega), nI_1, l1.2, l2.2, nI_add, e3]
      have c0 : ¬ S.nl ≤ l := by omega
      simp (disch := omega) only [nI_leI, eq_false c0, eq_true c, eq_true l1.1, eq_true l2.1, eq_true v, ↓reduceIte, not_true_eq_false, not_false_eq_true, true_imp_iff, false_imp_iff, implies_true, and_true, true_and, eq_self]
      first | exact id | exact ⟨id, rfl⟩)
    (fun l hl c => Ends.one fun n => by
      have v : vp_in (nI l) 9 := (vp_nI (by omega)).mpr (by omega)
      have l1 := load_M h (l := l) (t := t) (by omega)
      have l2 := fall_M h (l := l) (t := t) (by omega)
      have k1 := ld_le (P := P) (D := S.does) hsl l t
      have k2 := fl_le (P := P) (D := S.does) hsl l t
      have k3 := hn.2.2.2.2 l hl
      obtain ⟨-, -, e3, -⟩ := m1.2.2.2.1 l (by omega)
      rw [jX12_linesHoldO_2, jX12_linesHoldI_2, m1.2.1, nI_clamp (by omega), nI_1, l1.2, l2.2, nI_add, e3]
      have c0 : ¬ S.nl ≤ l := by omega
      simp (disch := omega) only [nI_leI, eq_false c0, eq_false c, eq_true l1.1, eq_true l2.1, eq_true v, ↓reduceIte, not_true_eq_false, not_false_eq_true, true_imp_iff, false_imp_iff, implies_true, and_true, true_and, eq_self])
    (Ends.one fun n => by
      rw [jX12_linesHoldO_2, jX12_linesHoldI_2, m1.2.1, if_pos (nI_le (Nat.le_refl _) (by omega))]
      exact ⟨⟨fun _ => trivial, fun q => absurd (nI_le (Nat.le_refl _) (by omega)) q⟩, rfl⟩)
  by_cases c : S.linesOk P S.does t
  · obtain ⟨r1, r2⟩ := (A fun j _ q => c j q).use (f := FU) (by rw [FU_eq]; omega)
    exact ⟨r1, by rw [show jX12_linesHoldI (nI (S.cn P S.does t)) FU 0 M = 1 from r2]; simp [c]⟩
  · obtain ⟨r1, r2⟩ := (B fun q => c fun j hj => q j (Nat.zero_le _) hj).use (f := FU) (by rw [FU_eq]; omega)
    exact ⟨r1, by rw [show jX12_linesHoldI (nI (S.cn P S.does t)) FU 0 M = 0 from r2]; simp [c]⟩
/-- TICKS with the same ones that COUNT are alike -/
theorem like_ticks {t u : Nat} (h : S.cn P D u = S.cn P D t) : (S.linesOk P D u ↔ S.linesOk P D t) ∧ (S.worksOk P D u ↔ S.worksOk P D t) := by
  have k : ∀ s, s < S.ns → ((P s ≠ 0 ∧ D s u = true) ↔ (P s ≠ 0 ∧ D s t = true)) := by
    intro s hsl
    have := congrArg (fun x => Nat.testBit x s = true) h
    simp only [cn_bit, eq_iff_iff] at this
    constructor
    · intro q; exact (this.mp ⟨hsl, q⟩).2
    · intro q; exact (this.mpr ⟨hsl, q⟩).2
  have e1 : ∀ l, S.ld P D l u = S.ld P D l t := fun l => sm_congr _ fun s hsl => by
    have := k s hsl
    by_cases c : P s ≠ 0 ∧ D s u = true
    · have c' := this.mp c
      simp only [c.1, c.2, c'.2, true_and]
    · rw [if_neg (fun q => c ⟨q.1, q.2.1⟩), if_neg (fun q => c (this.mpr ⟨q.1, q.2.1⟩))]
  have e2 : ∀ l f, S.pa P D l f u = S.pa P D l f t := fun l f => sm_congr _ fun s hsl => by
    have := k s hsl
    by_cases c : P s ≠ 0 ∧ D s u = true
    · have c' := this.mp c
      simp only [c.1, c.2, c'.2, true_and]
    · rw [if_neg (fun q => c ⟨q.1, q.2.1⟩), if_neg (fun q => c (this.mpr ⟨q.1, q.2.1⟩))]
  have e3 : ∀ a, S.wo' P D a u = S.wo' P D a t := fun l => sm_congr _ fun s hsl => by
    have := k s hsl
    by_cases c : P s ≠ 0 ∧ D s u = true
    · have c' := this.mp c
      simp only [c.1, c.2, c'.2, true_and]
    · rw [if_neg (fun q => c ⟨q.1, q.2.1⟩), if_neg (fun q => c (this.mpr ⟨q.1, q.2.1⟩))]
  have e4 : ∀ l, S.fl P D l u = S.fl P D l t := fun l => mx_congr 9 fun f _ => e2 l f
  unfold St.linesOk St.worksOk
  simp only [e1, e3, e4, and_self]
end MBS
end
