noncomputable section
theorem nI_nn {n : Nat} (h : n < 2 ^ 31) : ¬ nI n < 0 := Int32.not_lt.mpr (nI_pos' h)
theorem nI_m1 (n : Nat) : nI (n + 1) + (-1) = nI n := by
  have : nI (n + 1) + (-1) = nI (n + 1) - nI 1 := by rw [Int32.sub_eq_add_neg]; rfl
  rw [this, nI_sub (by omega)]; rfl
section CM
variable {S : St} {M : IM} {s : Nat} {P : Nat → Nat}
theorem after_M (hsl : S.slOk) (m2 : mSl S M) {set a : Nat} {td : List Nat} (hset : set < 2 ^ 31) (h : chn S set a td) (ha : a ≤ S.ns) {v : Int32} (hv : v + 1 = nI a) : jX12_afterK M (nI set) v ∧ jX12_after M (nI set) v = nI (td.headD S.ns) := by
  have h8 := hsl.1
  have lp : ∀ d k e, k + d = e → e ≤ S.ns → (e = S.ns ∨ set.testBit e = true) → (∀ j, k ≤ j → j < e → set.testBit j = false) → Ends (fun n (x : Int32) => jX12_afterI (nI set) v n x M) (fun n x => jX12_afterO (nI set) v n x M) (d + 1) (nI k) (nI e) := by
    intro d
    induction d with
    | zero =>
      intro k e h1 h2 h3 h4
      have e' : e = k := by omega
      subst e'
      refine Ends.le (Ends.one fun n => ?_) (Nat.le_refl _)
      rw [jX12_afterO_4, jX12_afterI_4, m2.1]
      by_cases c : S.ns ≤ e
      · simp (disch := omega) only [nI_leI, hs_nI, eq_true c, ↓reduceIte, not_true_eq_false, not_false_eq_true, true_imp_iff, false_imp_iff, implies_true, and_true, true_and, eq_self]
      · have b := h3.resolve_left (by omega)
        simp (disch := omega) only [nI_leI, hs_nI, eq_false c, eq_true b, ↓reduceIte, not_true_eq_false, not_false_eq_true, true_imp_iff, false_imp_iff, implies_true, and_true, true_and, eq_self]
    | succ d ih =>
      intro k e h1 h2 h3 h4
      refine Ends.le (Go.ends (Go.one fun n => ?_) (ih (k + 1) e (by omega) h2 h3 fun j q1 q2 => h4 j (by omega) q2)) (by omega)
      have c : ¬ S.ns ≤ k := by omega
      have b : ¬ set.testBit k = true := by rw [h4 k (Nat.le_refl _) (by omega)]; exact Bool.false_ne_true
      rw [jX12_afterO_4, jX12_afterI_4, m2.1]
      simp (disch := omega) only [nI_leI, hs_nI, nI_1, eq_false c, eq_false b, ↓reduceIte, not_true_eq_false, not_false_eq_true, true_imp_iff, false_imp_iff, implies_true, and_true, true_and, eq_self]
      first | exact id | exact ⟨id, rfl⟩
  have key : Ends (fun n (x : Int32) => jX12_afterI (nI set) v n x M) (fun n x => jX12_afterO (nI set) v n x M) 10 (nI a) (nI (td.headD S.ns)) := by
    cases td with
    | nil => exact Ends.le (lp (S.ns - a) a S.ns (by omega) (Nat.le_refl _) (.inl rfl) fun j q1 q2 => h j q1 q2) (by omega)
    | cons e L =>
      obtain ⟨k1, k2, k3, k4, k5⟩ := h
      exact Ends.le (lp (e - a) a e (by omega) (by omega) (.inr k3) k4) (by omega)
  unfold jX12_afterK jX12_after
  rw [hv]
  exact key.use (by rw [FU_eq]; omega)
theorem before_M {set : Nat} {st : List (Nat × List Nat)} (hset : set < 2 ^ 31) (h : chr set s st) (hss : s < 8) : jX12_beforeK M (nI set) (nI s) ∧ jX12_before M (nI set) (nI s) = (match st with | [] => -1 | e :: _ => nI e.1) := by
  have lp : ∀ d k e, e + d = k → k < 8 → set.testBit e = true → (∀ j, e < j → j ≤ k → set.testBit j = false) → Ends (fun n (x : Int32) => jX12_beforeI (nI set) (nI s) n x M) (fun n x => jX12_beforeO (nI set) (nI s) n x M) (d + 1) (nI k) (nI e) := by
    intro d
    induction d with
    | zero =>
      intro k e h1 h2 h3 h4
      have e' : e = k := by omega
      subst e'
      refine Ends.le (Ends.one fun n => ?_) (Nat.le_refl _)
      rw [jX12_beforeO_4, jX12_beforeI_4]
      simp (disch := omega) only [hs_nI, eq_false (nI_nn (n := e) (by omega)), eq_true h3, ↓reduceIte, not_true_eq_false, not_false_eq_true, true_imp_iff, false_imp_iff, implies_true, and_true, true_and, eq_self]
    | succ d ih =>
      intro k e h1 h2 h3 h4
      obtain ⟨j, rfl⟩ : ∃ j, k = j + 1 := ⟨k - 1, by omega⟩
      refine Ends.le (Go.ends (Go.one fun n => ?_) (ih j e (by omega) (by omega) h3 fun i q1 q2 => h4 i (by omega) (by omega))) (by omega)
      have b : ¬ set.testBit (j + 1) = true := by rw [h4 (j + 1) (by omega) (Nat.le_refl _)]; exact Bool.false_ne_true
      rw [jX12_beforeO_4, jX12_beforeI_4]
      simp (disch := omega) only [hs_nI, nI_m1, eq_false (nI_nn (n := j + 1) (by omega)), eq_false b, ↓reduceIte, not_true_eq_false, not_false_eq_true, true_imp_iff, false_imp_iff, implies_true, and_true, true_and, eq_self]
      first | exact id | exact ⟨id, rfl⟩
  have lz : ∀ k, k < 8 → (∀ j, j ≤ k → set.testBit j = false) → Ends (fun n (x : Int32) => jX12_beforeI (nI set) (nI s) n x M) (fun n x => jX12_beforeO (nI set) (nI s) n x M) (k + 2) (nI k) (-1) := by
    intro k
    induction k with
    | zero =>
      intro h2 h4
      have b : ¬ set.testBit 0 = true := by rw [h4 0 (by omega)]; exact Bool.false_ne_true
      refine Go.ends (B1 := 1) (B2 := 1) (Go.one (s' := -1) fun n => ?_) (Ends.one fun n => ?_)
      · rw [jX12_beforeO_4, jX12_beforeI_4]
        have e : nI 0 + (-1) = -1 := rfl
        simp (disch := omega) only [hs_nI, e, eq_false (nI_nn (n := 0) (by omega)), eq_false b, ↓reduceIte, not_true_eq_false, not_false_eq_true, true_imp_iff, false_imp_iff, implies_true, and_true, true_and, eq_self]
        first | exact id | exact ⟨id, rfl⟩
      · rw [jX12_beforeO_4, jX12_beforeI_4]
        have c : (-1 : Int32) < 0 := by decide
        simp only [eq_true c, ↓reduceIte, not_true_eq_false, not_false_eq_true, true_imp_iff, false_imp_iff, implies_true, and_true, true_and, eq_self]
    | succ k ih =>
      intro h2 h4
      refine Ends.le (Go.ends (Go.one fun n => ?_) (ih (by omega) fun j q => h4 j (by omega))) (by omega)
      have b : ¬ set.testBit (k + 1) = true := by rw [h4 (k + 1) (by omega)]; exact Bool.false_ne_true
      rw [jX12_beforeO_4, jX12_beforeI_4]
      simp (disch := omega) only [hs_nI, nI_m1, eq_false (nI_nn (n := k + 1) (by omega)), eq_false b, ↓reduceIte, not_true_eq_false, not_false_eq_true, true_imp_iff, false_imp_iff, implies_true, and_true, true_and, eq_self]
      first | exact id | exact ⟨id, rfl⟩
  have key : Ends (fun n (x : Int32) => jX12_beforeI (nI set) (nI s) n x M) (fun n x => jX12_beforeO (nI set) (nI s) n x M) 10 (nI s - 1) (match st with | [] => -1 | e :: _ => nI e.1) := by
    cases s with
    | zero =>
      cases st with
      | nil =>
        refine Ends.le (Ends.one fun n => ?_) (by omega)
        dsimp only
        rw [jX12_beforeO_4, jX12_beforeI_4]
        have c : (nI 0 - 1 : Int32) < 0 := by decide
        have c2 : (nI 0 - 1 : Int32) = -1 := rfl
        simp only [c2, eq_true (show (-1 : Int32) < 0 by decide), ↓reduceIte, not_true_eq_false, not_false_eq_true, true_imp_iff, false_imp_iff, implies_true, and_true, true_and, eq_self]
      | cons e L => exact absurd h.1 (by omega)
    | succ j =>
      have e0 : nI (j + 1) - 1 = nI j := by rw [li1, nI_sub (by omega)]; rfl
      rw [e0]
      cases st with
      | nil => exact Ends.le (lz j (by omega) fun i q => h i (by omega)) (by omega)
      | cons e L =>
        obtain ⟨k1, k2, k3, k4⟩ := h
        exact Ends.le (lp (j - e.1) j e.1 (by omega) (by omega) k2 fun i q1 q2 => k3 i q1 (by omega)) (by omega)
  unfold jX12_beforeK jX12_before
  exact key.use (by rw [FU_eq]; omega)
end CM
end
