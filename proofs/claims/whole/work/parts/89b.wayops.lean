noncomputable section
theorem digit_M (M : IM) {p : List Nat} (h5 : p.length ≤ 5) (h9 : ∀ l ∈ p, l < 9) {k : Nat} (hk : k < 2 ^ 31) : jX12_digitK M (nI (rowN p 0)) (nI p.length) (nI k) ∧ jX12_digit M (nI (rowN p 0)) (nI p.length) (nI k) = if k < p.length then nI (p.getD k 0) else -1 := by
  have hr : rowN p 0 < 100000 := by
    rw [rowN_eq]
    have := rowB_lt (B := 10) p 0 (fun l hl => by have := h9 l hl; omega)
    refine Nat.lt_of_lt_of_le this ?_
    rw [Nat.zero_add, Nat.one_mul]
    exact Nat.pow_le_pow_right (n := 10) (i := p.length) (j := 5) (by decide) h5
  unfold jX12_digitK jX12_digit
  by_cases c : k < p.length
  · have c' : nI k < nI p.length := nI_lt c (by omega)
    have E : Ends (fun n (s : Int32 × Int32) => jX12_digitI (nI (rowN p 0)) (nI p.length) (nI k) n s.1 s.2 M) (fun n s => jX12_digitO (nI (rowN p 0)) (nI p.length) (nI k) n s.1 s.2 M) ((p.length - 1 - k) * 1 + 1) ((nI (rowN p 0 / 10 ^ 0), nI (p.length - 1 - 0)) : Int32 × Int32) (nI (rowN p 0 / 10 ^ (p.length - 1 - k) % 10)) := by
      refine Go.ends (Go.loop (a := fun j => (nI (rowN p 0 / 10 ^ j), nI (p.length - 1 - j))) (p.length - 1 - k) fun j hj => Go.one fun n => ?_) (Ends.one fun n => ?_)
      · dsimp only
        have c0 : ¬ nI (p.length - 1 - j) ≤ nI k := nI_ge (by omega) (by omega)
        have hd : rowN p 0 / 10 ^ j < 2 ^ 31 := Nat.lt_of_le_of_lt (Nat.div_le_self _ _) (by omega)
        have e1 : nI (rowN p 0 / 10 ^ j) / 10 = nI (rowN p 0 / 10 ^ (j + 1)) := by
          rw [li10, pk_div hd (by omega) (by omega), Nat.div_div_eq_div_mul, Nat.pow_succ 10 j]
        have e3 : nI (p.length - 1 - j) + (-1) = nI (p.length - 1 - (j + 1)) := by
          rw [show p.length - 1 - j = p.length - 1 - (j + 1) + 1 by omega, ← nI_1, Int32.add_assoc]
          rw [show (1 : Int32) + -1 = 0 from by decide, Int32.add_zero]
        rw [jX12_digitO_14, jX12_digitI_14, e1, e3]
        simp only [eq_false c0, ↓reduceIte, not_true_eq_false, not_false_eq_true, true_imp_iff, false_imp_iff, implies_true, and_true, true_and, eq_self]
        first | exact id | exact ⟨id, rfl⟩
      · dsimp only
        have c0 : nI (p.length - 1 - (p.length - 1 - k)) ≤ nI k := nI_le (by omega) (by omega)
        have hd : rowN p 0 / 10 ^ (p.length - 1 - k) < 2 ^ 31 := Nat.lt_of_le_of_lt (Nat.div_le_self _ _) (by omega)
        rw [jX12_digitO_14, jX12_digitI_14, li10, pk_div hd (by omega) (by omega), nI_mul, nI_sub (Nat.div_mul_le_self _ _)]
        simp only [eq_true c0, ↓reduceIte, not_true_eq_false, not_false_eq_true, true_imp_iff, false_imp_iff, implies_true, and_true, true_and, eq_self]
        congr 1
        omega
    obtain ⟨r1, r2⟩ := E.use (f := FU) (by rw [FU_eq]; omega)
    rw [Nat.pow_zero, Nat.div_one, Nat.sub_zero] at r1 r2
    have e : nI p.length - 1 = nI (p.length - 1) := by rw [li1, nI_sub (by omega)]
    have dg := rowB_digit (B := 10) (by decide) p 0 k (fun l hl => by have := h9 l hl; omega) c
    rw [← rowN_eq] at dg
    rw [e, if_pos c', if_pos c, ← dg]
    exact ⟨⟨fun _ => r1, fun _ => trivial⟩, r2⟩
  · have c' : ¬ nI k < nI p.length := nI_nlt (by omega) hk
    rw [if_neg c', if_neg c]
    exact ⟨⟨fun q => absurd q c', fun _ => trivial⟩, rfl⟩
theorem lineAt_key {S : St} {p : List Nat} (h : wOk S p) {k : Nat} (hk : k < 2 ^ 31) : jLineAtW (nI (keyN S p)) (nI k) = if k < p.length then nI (p.getD k 0) else -1 := by
  have h2 := key_lt h
  have h3 := h.1
  unfold jLineAtW
  rw [count_key h]
  by_cases c : k < p.length
  · have e : nI p.length - 1 - nI k = nI (p.length - 1 - k) := by rw [li1, nI_sub (by omega), nI_sub (by omega)]
    rw [if_pos c, e, if_pos (nI_pos' (by omega)), li4, nI_mul, shr_nI h2 (by omega), li15, and_nI]
    congr 1
    rw [show (15 : Nat) = 2 ^ 4 - 1 from rfl, Nat.and_two_pow_sub_one_eq_mod, show 2 ^ (4 * (p.length - 1 - k)) = 16 ^ (p.length - 1 - k) by rw [Nat.pow_mul]]
    rw [show (2 : Nat) ^ 4 = 16 from rfl, key_digit h (by omega), show p.length - 1 - (p.length - 1 - k) = k by omega]
  · rw [if_neg c, if_neg]
    by_cases c2 : p.length = 0
    · rw [c2, nI_0]
      have : (0 : Int32) - 1 - nI k = nI 0 - nI (k + 1) := by
        rw [← nI_1, nI_0, Int32.sub_eq_add_neg, Int32.sub_eq_add_neg, Int32.sub_eq_add_neg, Int32.neg_add, Int32.sub_eq_add_neg, Int32.add_assoc, Int32.add_comm (-1)]
      by_cases q : k + 1 < 2 ^ 31
      · rw [this]; exact neg_lt (by omega) q
      · have : k = 2 ^ 31 - 1 := by omega
        subst this
        decide
    · rw [li1, nI_sub (by omega)]
      exact neg_lt (by omega) hk
section SIM
variable {T : Topo} {S : St} {C M : IM}
theorem RC.ways (hT : PlS T) (hS : S.ok) (hC : RC T S C) {C' : IM} (f : FrF C C') (w : cWays S C') : RC T S C' := by
  obtain ⟨h1, h2, h3, h4, h5, h6, h7, ⟨h8, h8'⟩, h9, h10, h11, h12, h13, h14, h15⟩ := hC
  have h8n := hS.2.1.1
  have f' : ∀ k j, k ≠ 4 → k ≠ 5 → C' k j = C k j := fun k j q1 q2 => by rw [f k q1 q2]
  exact ⟨h1.of fun k j q => f' k j (by omega) (by omega), h2.of fun k j q1 q2 q3 => f' k j (by omega) (by omega), h3.of (f' _ _ (by omega) (by omega)), h4.of fun k j q => f' k j (by rcases q with q | ⟨s, q1, q2, q3⟩ <;> omega) (by rcases q with q | ⟨s, q1, q2, q3⟩ <;> omega), h5.of fun s hs => f' _ _ (by omega) (by omega), h6.of fun s hs => f' _ _ (by omega) (by omega), h7.of fun s j hs q1 q2 => f' _ _ (by omega) (by omega), ⟨by rw [f' _ _ (by omega) (by omega)]; exact h8, h8'.of fun k q1 q2 => f k (by omega) (by omega)⟩, h9.of fun k q1 q2 => f k (by omega) (by omega), w, h11.of hT fun i hi => ⟨f' _ _ (by omega) (by omega), f' _ _ (by omega) (by omega), f _ (by have := (hT i hi).1; omega) (by have := (hT i hi).1; omega)⟩, h12.of (f _ (by omega) (by omega)), h13.of (f' _ _ (by omega) (by omega)), h14.of (f' _ _ (by omega) (by omega)), h15.of fun k q1 q2 => f k (by omega) (by omega)⟩
/-- cells of the reference that are mere workings -/
theorem RM.low (hM : RM S M) {M' : IM} (f : ∀ k, 79 ≤ k → k < 115 → M' k = M k) : RM S M' := by
  obtain ⟨h1, h2, h3, h4, h5, h6', h7, h8, h9'⟩ := hM
  exact ⟨h1.of (by rw [f 79 (by omega) (by omega)]) (by rw [f 79 (by omega) (by omega)]) fun k q => f k (by omega) (by omega), h2.of fun k q1 q2 => f k (by omega) (by omega), h3.of (by rw [f 79 (by omega) (by omega)]) fun k q1 q2 => f k (by omega) (by omega), h4.of fun k q1 q2 => f k (by omega) (by omega), h5.of fun k q1 q2 => f k (by omega) (by omega), h6'.of fun j q => by rw [f 79 (by omega) (by omega)], h7.of (by rw [f 79 (by omega) (by omega)]), h8.of (by rw [f 79 (by omega) (by omega)]), h9'.of fun k q1 q2 => f k (by omega) (by omega)⟩
theorem FrG.low {sl : Nat} {M' : IM} (f : FrG sl 0 M M') : ∀ k, k < 115 → M' k = M k := fun k q => funext fun j => f k j (by omega) (by omega) (by omega) (by omega)
theorem sim_ways (hT : PlS T) (hS : S.ok) (hC : RC T S C) (hM : RM S M) (a1 a2 : Int32) : jX11_waysK C a1 a2 ∧ jX12_waysK M a1 a2 ∧ jX11_ways C a1 a2 = jX12_ways M a1 a2 ∧ ∃ S' : St, S'.ok ∧ RC T S' (jX11_waysM C a1 a2) ∧ RM S' (jX12_waysM M a1 a2) := by
  unfold jX11_waysK jX12_waysK jX11_ways jX12_ways jX11_waysM jX12_waysM jX12_finds
  have t1 := tw_CM hS hC hM a1 a2
  by_cases c1 : tw C a1 a2
  · have c1' := t1.mp c1
    obtain ⟨a, b, ha, hb, hab, rfl, rfl⟩ := tw_of hS hC c1
    obtain ⟨f1, f2, f3, f4⟩ := find_spec hS.1 hC.1 hC.2.2.2.2.2.2.2.2.2.1 ha hb
    obtain ⟨g1, g2, g3⟩ := gather_spec hS.1 ha hb hab (sl := 8) (by omega) hM.1
    have v : vp_in 8 9 := (vp_nI (n := 8) (by omega)).mpr (by omega)
    have g1' : jX12_gatherK M 8 (nI a) (nI b) := g1
    simp only [eq_true c1, eq_true c1', eq_true f1, eq_true g1', eq_true v, ↓reduceIte, not_true_eq_false, not_false_eq_true, true_imp_iff, false_imp_iff, implies_true, and_true, true_and, eq_self]
    refine ⟨f2.1.trans g2.1.symm, S, hS, RC.ways hT hS hC f3 f4, RM.low hM fun k q1 q2 => g3.low k q2⟩
  · have c1' := mt t1.mpr c1
    simp only [eq_false c1, eq_false c1', ↓reduceIte, not_true_eq_false, not_false_eq_true, true_imp_iff, false_imp_iff, implies_true, and_true, true_and, eq_self]
    exact bad hT hS hC hM
theorem sim_way (hT : PlS T) (hS : S.ok) (hC : RC T S C) (hM : RM S M) (a1 a2 a3 a4 : Int32) : jX11_wayK C a1 a2 a3 a4 ∧ jX12_wayK M a1 a2 a3 a4 ∧ jX11_way C a1 a2 a3 a4 = jX12_way M a1 a2 a3 a4 ∧ ∃ S' : St, S'.ok ∧ RC T S' (jX11_wayM C a1 a2 a3 a4) ∧ RM S' (jX12_wayM M a1 a2 a3 a4) := by
  unfold jX11_wayK jX12_wayK jX11_way jX12_way jX11_wayM jX12_wayM jX12_finds
  have t1 := tw_CM hS hC hM a1 a2
  by_cases c1 : tw C a1 a2
  · have c1' := t1.mp c1
    by_cases c2 : a3 < 0
    · simp only [eq_true c1, eq_true c1', eq_true c2, ↓reduceIte, not_true_eq_false, not_false_eq_true, true_imp_iff, false_imp_iff, implies_true, and_true, true_and, eq_self]
      exact bad hT hS hC hM
    · by_cases c3 : -1 ≤ a4
      · obtain ⟨a, b, ha, hb, hab, rfl, rfl⟩ := tw_of hS hC c1
        obtain ⟨i, hi, rfl⟩ := nI_of c2
        obtain ⟨f1, f2, f3, f4⟩ := find_spec hS.1 hC.1 hC.2.2.2.2.2.2.2.2.2.1 ha hb
        obtain ⟨g1, g2, g3⟩ := gather_spec hS.1 ha hb hab (sl := 8) (by omega) hM.1
        have v : vp_in 8 9 := (vp_nI (n := 8) (by omega)).mpr (by omega)
        have g1' : jX12_gatherK M 8 (nI a) (nI b) := g1
        have g4 : jX12_gather M 8 (nI a) (nI b) 115 (8 : Int32).toNatClampNeg = nI (S.wayA a b).2 := g2.1
        have hC' : RC T S (jFindM C (nI a) (nI b)) := RC.ways hT hS hC f3 f4
        have hM' : RM S (jX12_gather M 8 (nI a) (nI b)) := RM.low hM fun k q1 q2 => g3.low k q2
        have w27 := wayA_27 hS.1 a b
        rw [f2.1, g4]
        by_cases c4 : i < (S.wayA a b).2
        · have c4' : nI i < nI (S.wayA a b).2 := nI_lt c4 (by omega)
          have kA : jKeyAtK (nI i) := (vp_nI (by omega)).mpr (by omega)
          have vw : vp_in (2048 + nI i) 2304 := by rw [li2048, nI_add]; exact (vp_nI (by omega)).mpr (by omega)
          have ei : (2048 + nI i : Int32).toNatClampNeg = 256 * 8 + i := by rw [li2048, nI_add, nI_clamp (by omega)]
          obtain ⟨wp, wk⟩ := way_ok hS.1 ha hb i c4
          have q1 : jX12_gather M 8 (nI a) (nI b) 116 (256 * 8 + i) = nI (rowN ((S.wayA a b).1 i) 0) := g2.2 i c4 116 (by omega) (by omega)
          have q2 : jX12_gather M 8 (nI a) (nI b) 117 (256 * 8 + i) = nI ((S.wayA a b).1 i).length := g2.2 i c4 117 (by omega) (by omega)
          have q3 : jX12_gather M 8 (nI a) (nI b) 118 (256 * 8 + i) = nI (lateN S ((S.wayA a b).1 i)) := g2.2 i c4 118 (by omega) (by omega)
          have ky : jKeyAt (jFindM C (nI a) (nI b)) (nI i) = nI (keyN S ((S.wayA a b).1 i)) := by
            unfold jKeyAt
            rw [nI_clamp (by omega)]
            exact f2.2 i c4
          rw [ei, q1, q2, q3, ky, late_key wk]
          by_cases c5 : a4 = -1
          · have c6 : ¬ 0 ≤ a4 := by rw [c5]; decide
            simp only [eq_true c1, eq_true c1', eq_false c2, eq_true c3, eq_true c4', eq_true c5, eq_false c6, eq_true f1, eq_true g1', eq_true v, eq_true kA, eq_true vw, ↓reduceIte, not_true_eq_false, not_false_eq_true, true_imp_iff, false_imp_iff, implies_true, and_true, true_and, eq_self]
            exact ⟨S, hS, hC', hM'⟩
          · have c6 : 0 ≤ a4 := by
              rw [Int32.le_iff_toInt_le] at c3 ⊢
              have : a4.toInt ≠ (-1 : Int32).toInt := fun q => c5 (Int32.toInt_inj.mp q)
              rw [show (-1 : Int32).toInt = -1 from by decide] at c3 this
              rw [show (0 : Int32).toInt = 0 from by decide]
              omega
            obtain ⟨k, hk, rfl⟩ := nI_of (Int32.not_lt.mpr c6)
            obtain ⟨d1, d2⟩ := digit_M (jX12_gather M 8 (nI a) (nI b)) wk.1 (fun l hl => (wk.2 l hl).1) hk
            rw [lineAt_key wk hk, d2]
            simp only [eq_true c1, eq_true c1', eq_false c2, eq_true c3, eq_true c4', eq_false c5, eq_true c6, eq_true f1, eq_true g1', eq_true v, eq_true kA, eq_true vw, eq_true d1, ↓reduceIte, not_true_eq_false, not_false_eq_true, true_imp_iff, false_imp_iff, implies_true, and_true, true_and, eq_self]
            exact ⟨S, hS, hC', hM'⟩
        · have c4' : ¬ nI i < nI (S.wayA a b).2 := nI_nlt (by omega) hi
          simp only [eq_true c1, eq_true c1', eq_false c2, eq_true c3, eq_false c4', eq_true f1, eq_true g1', eq_true v, ↓reduceIte, not_true_eq_false, not_false_eq_true, true_imp_iff, false_imp_iff, implies_true, and_true, true_and, eq_self]
          exact bad hT hS hC' hM'
      · simp only [eq_true c1, eq_true c1', eq_false c2, eq_false c3, ↓reduceIte, not_true_eq_false, not_false_eq_true, true_imp_iff, false_imp_iff, implies_true, and_true, true_and, eq_self]
        exact bad hT hS hC hM
  · have c1' := mt t1.mpr c1
    simp only [eq_false c1, eq_false c1', ↓reduceIte, not_true_eq_false, not_false_eq_true, true_imp_iff, false_imp_iff, implies_true, and_true, true_and, eq_self]
    exact bad hT hS hC hM
end SIM
end
