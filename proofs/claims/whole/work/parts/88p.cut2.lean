noncomputable section
section SIM
variable {T : Topo} {S : St} {C M : IM}
/-- THE CUT of the reference -/
theorem find_M (hS : S.ok) (hM : RM S M) {a b t : Nat} (ha : a < S.nn) (hb : b < S.nn) (ht : t < 24) : jX12_findCutK M (nI a) (nI b) (nI t) ∧ (∀ k j, ¬ (k = 79 ∧ (j = 53 ∨ j = 54)) → jX12_findCut M (nI a) (nI b) (nI t) k j = M k j) ∧ ((S.bst a b t (2 ^ S.nn)).1 ≠ 0 → jX12_findCut M (nI a) (nI b) (nI t) 79 53 = nI (S.bst a b t (2 ^ S.nn)).1 ∧ jX12_findCut M (nI a) (nI b) (nI t) 79 54 = nI (S.bst a b t (2 ^ S.nn)).2) := by
  have h9 := hS.1.2.1
  have h6 := hS.1.1
  have p6 : 2 ^ S.nn ≤ 64 := show 2 ^ S.nn ≤ 2 ^ 6 from Nat.pow_le_pow_right (by decide) h6
  unfold jX12_findCutK jX12_findCut
  let M1 : IM := up2 M 79 54 1000000
  let W : Nat → IM → IM := fun n I => if n.testBit a = true ∧ ¬ n.testBit b = true ∧ ((S.bst a b t n).1 = 0 ∨ S.out t n < (S.bst a b t n).2 ∨ (S.out t n = (S.bst a b t n).2 ∧ pop9 n < pop9 (S.bst a b t n).1)) then up2 (up2 I 79 54 (nI (S.out t n))) 79 53 (nI n) else I
  let it : Nat → IM := fun n => Nat.rec M1 (fun n I => W n I) n
  have it1 : ∀ n, it (n + 1) = W n (it n) := fun n => rfl
  have inv : ∀ n, n ≤ 64 → (∀ k j, ¬ (k = 79 ∧ (j = 53 ∨ j = 54)) → it n k j = M k j) ∧ it n 79 54 = nI (if (S.bst a b t n).1 = 0 then 1000000 else (S.bst a b t n).2) ∧ ((S.bst a b t n).1 ≠ 0 → it n 79 53 = nI (S.bst a b t n).1) := by
    intro n
    induction n with
    | zero =>
      intro _
      refine ⟨fun k j q => ?_, ?_, fun q => absurd rfl q⟩
      · show up2 M 79 54 1000000 k j = _
        rw [up2_ap, if_neg (by omega)]
      · show up2 M 79 54 1000000 79 54 = _
        rw [up2_at]; rfl
    | succ n ih =>
      intro hn
      obtain ⟨i1, i2, i3⟩ := ih (by omega)
      rw [it1]
      unfold St.bst
      by_cases c : n.testBit a = true ∧ ¬ n.testBit b = true ∧ ((S.bst a b t n).1 = 0 ∨ S.out t n < (S.bst a b t n).2 ∨ (S.out t n = (S.bst a b t n).2 ∧ pop9 n < pop9 (S.bst a b t n).1))
      · have e : W n (it n) = up2 (up2 (it n) 79 54 (nI (S.out t n))) 79 53 (nI n) := if_pos c
        have n0 : n ≠ 0 := fun q => by rw [q] at c; exact absurd c.1 (by simp)
        rw [e, if_pos c]
        refine ⟨fun k j q => ?_, ?_, fun _ => ?_⟩
        · rw [up2_ap, if_neg (by omega), up2_ap, if_neg (by omega)]; exact i1 k j q
        · rw [up2_sj _ _ _ (by omega), up2_at, if_neg n0]
        · rw [up2_at]
      · have e : W n (it n) = it n := if_neg c
        rw [e, if_neg c]
        exact ⟨i1, i2, i3⟩
  have rmI : ∀ n, n ≤ 64 → RM S (it n) := fun n hn => by
    obtain ⟨h1, h2, h3, h4, h5, h6', h7, h8, h9'⟩ := hM
    have f := (inv n hn).1
    have f' : ∀ k, k ≠ 79 → it n k = M k := fun k q => funext fun j => f k j (by omega)
    exact ⟨h1.of (f _ _ (by omega)) (f _ _ (by omega)) fun k q => f' k (by omega), h2.of fun k q1 q2 => f' k (by omega), h3.of (f _ _ (by omega)) fun k q1 q2 => f' k (by omega), h4.of fun k q1 q2 => f' k (by omega), h5.of fun k q1 q2 => f' k (by omega), h6'.of fun j q => f _ _ (by omega), h7.of (f _ _ (by omega)), h8.of (f _ _ (by omega)), h9'.of fun k q1 q2 => f' k (by omega)⟩
  have E : Ends (fun m (s : Nat × Int32 × Int32 × Int32 × IM) => jX12_findCutI (nI a) (nI b) (nI t) m s.1 s.2.1 s.2.2.1 s.2.2.2.1 s.2.2.2.2) (fun m s => jX12_findCutO (nI a) (nI b) (nI t) m s.1 s.2.1 s.2.2.1 s.2.2.2.1 s.2.2.2.2) (2 ^ S.nn * 11 + 1) ((0, nI 0, 0, 0, M1) : Nat × Int32 × Int32 × Int32 × IM) (it (2 ^ S.nn)) := by
    refine Go.ends (Go.loop (a := fun n => (0, nI n, 0, 0, it n)) (2 ^ S.nn) fun n hn => ?_) (Ends.one fun m => ?_)
    · have rm := rmI n (by omega)
      obtain ⟨i1, i2, i3⟩ := inv n (by omega)
      have c0 : ¬ 2 ^ S.nn ≤ n := by omega
      by_cases c1 : n.testBit a = true
      · by_cases c2 : n.testBit b = true
        · refine (Go.one fun m => ?_).le (by omega : 1 ≤ 11)
          have e : it (n + 1) = it n := by rw [it1]; exact if_neg fun q => q.2.1 c2
          dsimp only
          rw [e, jX12_findCutO_10, jX12_findCutI_10, rm.1.1, one_nI (by omega), nI_1]
          simp (disch := omega) only [nI_leI, hs_nI, eq_false c0, eq_true c1, eq_true c2, ↓reduceIte, not_true_eq_false, not_false_eq_true, true_imp_iff, false_imp_iff, implies_true, and_true, true_and, eq_self]
          first | exact id | exact ⟨id, rfl⟩
        · refine Go.le (B := 1 + (S.nl * 1 + 1)) (Go.trans (s' := (1, nI n, nI 0, nI 0, it n)) (Go.one fun m => ?_) (Go.trans (Go.loop (a := fun l => (1, nI n, nI (sm (fun l => if S.crs n l = true then S.fr t l else 0) l), nI l, it n)) S.nl fun l hl => Go.one fun m => ?_) (Go.one fun m => ?_))) (by omega)
          · dsimp only
            rw [jX12_findCutO_10, jX12_findCutI_10, rm.1.1, one_nI (by omega)]
            simp (disch := omega) only [nI_leI, hs_nI, eq_false c0, eq_true c1, eq_false c2, ↓reduceIte, not_true_eq_false, not_false_eq_true, true_imp_iff, false_imp_iff, implies_true, and_true, true_and, eq_self]
            first | exact id | exact ⟨id, rfl⟩
          · dsimp only
            have v : vp_in (nI l) 9 := (vp_nI (by omega)).mpr (by omega)
            have c3 : ¬ S.nl ≤ l := by omega
            have cb := crs_bI hS (n := n) (by omega) hl
            obtain ⟨f1, f2, -⟩ := left_M hS rm hl ht
            rw [jX12_findCutO_48, jX12_findCutI_48, rm.1.2.1, nI_clamp (by omega), (rm.1.2.2.2.1 l (by omega)).1, (rm.1.2.2.2.1 l (by omega)).2.1, rm.1.2.2.2.2 l hl, f2, Int32.add_zero, nI_add, nI_1 l, sm]
            by_cases c4 : S.dn.testBit l = true
            · have e : S.fr t l = 0 := if_pos c4
              rw [if_pos c4, e]
              simp (disch := omega) only [nI_leI, eq_false c3, eq_true v, eq_true f1, ↓reduceIte, not_true_eq_false, not_false_eq_true, true_imp_iff, false_imp_iff, implies_true, and_true, true_and, eq_self, ite_self, Nat.add_zero]
              first | exact id | exact ⟨id, rfl⟩
            · have e : S.fr t l = S.rm l - S.ld S.pl S.does l t - S.fl S.pl S.does l t := if_neg c4
              have z : ¬ (1 : Int32) = 0 := by decide
              rw [if_neg c4, e]
              by_cases c : S.crs n l = true
              · simp (disch := omega) only [nI_leI, cb, c, eq_false c3, eq_false z, eq_true v, eq_true f1, ↓reduceIte, not_true_eq_false, not_false_eq_true, true_imp_iff, false_imp_iff, implies_true, and_true, true_and, eq_self]
                first | exact id | exact ⟨id, rfl⟩
              · simp (disch := omega) only [nI_leI, cb, c, eq_false c3, eq_false z, eq_true v, eq_true f1, ↓reduceIte, not_true_eq_false, not_false_eq_true, true_imp_iff, false_imp_iff, implies_true, and_true, true_and, eq_self, Bool.false_eq_true, Nat.add_zero]
                first | exact id | exact ⟨id, rfl⟩
          · dsimp only
            have b1 := bst_lt (S := S) a b t n
            have b2 := bst_out hS a b t n
            have b3 := out_le hS t n
            have b4 := pop9_le n
            have b5 := pop9_le (S.bst a b t n).1
            have e0 : sm (fun l => if S.crs n l = true then S.fr t l else 0) S.nl = S.out t n := rfl
            have c3 : S.nl ≤ S.nl := Nat.le_refl _
            obtain ⟨o1, o2⟩ := ones_M (it n) (n := n) (by omega)
            rw [jX12_findCutO_48, jX12_findCutI_48, rm.1.2.1, i2, e0, o2, nI_1 n]
            by_cases c5 : (S.bst a b t n).1 = 0
            · have e : it (n + 1) = up2 (up2 (it n) 79 54 (nI (S.out t n))) 79 53 (nI n) := by rw [it1]; exact if_pos ⟨c1, c2, .inl c5⟩
              rw [e, if_pos c5]
              have d1 : ¬ 1000000 < S.out t n := by omega
              have d2 : ¬ S.out t n = 1000000 := by omega
              simp (disch := omega) only [nI_leI, nI_ltI, nI_eq, eq_true c3, eq_false d1, eq_false d2, ↓reduceIte, not_true_eq_false, not_false_eq_true, true_imp_iff, false_imp_iff, implies_true, and_true, true_and, eq_self]
              first | exact id | exact ⟨id, rfl⟩
            · obtain ⟨o3, o4⟩ := ones_M (it n) (n := (S.bst a b t n).1) (by omega)
              rw [i3 c5, o4, if_neg c5]
              by_cases c6 : S.out t n < (S.bst a b t n).2
              · have e : it (n + 1) = up2 (up2 (it n) 79 54 (nI (S.out t n))) 79 53 (nI n) := by rw [it1]; exact if_pos ⟨c1, c2, .inr (.inl c6)⟩
                have d1 : ¬ (S.bst a b t n).2 < S.out t n := by omega
                have d2 : ¬ S.out t n = (S.bst a b t n).2 := by omega
                rw [e]
                simp (disch := omega) only [nI_leI, nI_ltI, nI_eq, eq_true c3, eq_false d1, eq_false d2, ↓reduceIte, not_true_eq_false, not_false_eq_true, true_imp_iff, false_imp_iff, implies_true, and_true, true_and, eq_self]
                first | exact id | exact ⟨id, rfl⟩
              · by_cases c7 : S.out t n = (S.bst a b t n).2
                · have d1 : ¬ (S.bst a b t n).2 < S.out t n := by omega
                  by_cases c8 : pop9 n < pop9 (S.bst a b t n).1
                  · have e : it (n + 1) = up2 (up2 (it n) 79 54 (nI (S.out t n))) 79 53 (nI n) := by rw [it1]; exact if_pos ⟨c1, c2, .inr (.inr ⟨c7, c8⟩)⟩
                    rw [e]
                    simp (disch := omega) only [nI_leI, nI_ltI, nI_eq, eq_true c3, eq_false d1, eq_true c7, eq_true c8, eq_true o1, eq_true o3, ↓reduceIte, not_true_eq_false, not_false_eq_true, true_imp_iff, false_imp_iff, implies_true, and_true, true_and, eq_self]
                    first | exact id | exact ⟨id, rfl⟩
                  · have e : it (n + 1) = it n := by rw [it1]; exact if_neg fun q => by omega
                    rw [e]
                    simp (disch := omega) only [nI_leI, nI_ltI, nI_eq, eq_true c3, eq_false d1, eq_true c7, eq_false c8, eq_true o1, eq_true o3, ↓reduceIte, not_true_eq_false, not_false_eq_true, true_imp_iff, false_imp_iff, implies_true, and_true, true_and, eq_self]
                    first | exact id | exact ⟨id, rfl⟩
                · have d1 : (S.bst a b t n).2 < S.out t n := by omega
                  have e : it (n + 1) = it n := by rw [it1]; exact if_neg fun q => by omega
                  rw [e]
                  simp (disch := omega) only [nI_leI, nI_ltI, nI_eq, eq_true c3, eq_true d1, ↓reduceIte, not_true_eq_false, not_false_eq_true, true_imp_iff, false_imp_iff, implies_true, and_true, true_and, eq_self]
                  first | exact id | exact ⟨id, rfl⟩
      · refine (Go.one fun m => ?_).le (by omega : 1 ≤ 11)
        have e : it (n + 1) = it n := by rw [it1]; exact if_neg fun q => c1 q.1
        dsimp only
        rw [e, jX12_findCutO_10, jX12_findCutI_10, rm.1.1, one_nI (by omega), nI_1]
        simp (disch := omega) only [nI_leI, hs_nI, eq_false c0, eq_false c1, ↓reduceIte, not_true_eq_false, not_false_eq_true, true_imp_iff, false_imp_iff, implies_true, and_true, true_and, eq_self]
        first | exact id | exact ⟨id, rfl⟩
    · dsimp only
      have c0 : 2 ^ S.nn ≤ 2 ^ S.nn := Nat.le_refl _
      rw [jX12_findCutO_10, jX12_findCutI_10, (rmI _ p6).1.1, one_nI (by omega)]
      simp (disch := omega) only [nI_leI, eq_true c0, ↓reduceIte, not_true_eq_false, not_false_eq_true, true_imp_iff, false_imp_iff, implies_true, and_true, true_and, eq_self]
  obtain ⟨r1, r2⟩ := E.use (f := FU) (by rw [FU_eq]; omega)
  have r2' : jX12_findCutI (nI a) (nI b) (nI t) FU 0 0 0 0 (up2 M 79 54 1000000) = it (2 ^ S.nn) := r2
  rw [r2']
  obtain ⟨i1, i2, i3⟩ := inv (2 ^ S.nn) p6
  exact ⟨r1, i1, fun q => ⟨i3 q, by rw [i2, if_neg q]⟩⟩
theorem cut_ok (hT : PlS T) (hS : S.ok) (hC : RC T S C) (hM : RM S M) {C' M' : IM} (f : ∀ k, k ≠ 54 → k ≠ 55 → C' k = C k) (g : ∀ k j, ¬ (k = 79 ∧ (j = 53 ∨ j = 54)) → M' k j = M k j) : ∃ S' : St, S'.ok ∧ RC T S' C' ∧ RM S' M' := by
  refine ⟨S, hS, ?_, ?_⟩
  · obtain ⟨h1, h2, h3, h4, h5, h6, h7, ⟨h8, h8'⟩, h9, h10, h11, h12, h13, h14, h15⟩ := hC
    have h8n := hS.2.1.1
    have f' : ∀ k j, k ≠ 54 → k ≠ 55 → C' k j = C k j := fun k j q1 q2 => by rw [f k q1 q2]
    exact ⟨h1.of fun k j q => f' k j (by omega) (by omega), h2.of fun k j q1 q2 q3 => f' k j (by omega) (by omega), h3.of (f' _ _ (by omega) (by omega)), h4.of fun k j q => f' k j (by rcases q with q | ⟨s, q1, q2, q3⟩ <;> omega) (by rcases q with q | ⟨s, q1, q2, q3⟩ <;> omega), h5.of fun s hs => f' _ _ (by omega) (by omega), h6.of fun s hs => f' _ _ (by omega) (by omega), h7.of fun s j hs q1 q2 => f' _ _ (by omega) (by omega), ⟨by rw [f' _ _ (by omega) (by omega)]; exact h8, h8'.of fun k q1 q2 => f k (by omega) (by omega)⟩, h9.of fun k q1 q2 => f k (by omega) (by omega), h10.of fun k q => f k (by omega) (by omega), h11.of hT fun i hi => ⟨f' _ _ (by omega) (by omega), f' _ _ (by omega) (by omega), f _ (by have := (hT i hi).1; omega) (by have := (hT i hi).1; omega)⟩, h12.of (f _ (by omega) (by omega)), h13.of (f' _ _ (by omega) (by omega)), h14.of (f' _ _ (by omega) (by omega)), h15.of fun k q1 q2 => f k (by omega) (by omega)⟩
  · obtain ⟨h1, h2, h3, h4, h5, h6', h7, h8, h9'⟩ := hM
    have f' : ∀ k, k ≠ 79 → M' k = M k := fun k q => funext fun j => g k j (by omega)
    exact ⟨h1.of (g _ _ (by omega)) (g _ _ (by omega)) fun k q => f' k (by omega), h2.of fun k q1 q2 => f' k (by omega), h3.of (g _ _ (by omega)) fun k q1 q2 => f' k (by omega), h4.of fun k q1 q2 => f' k (by omega), h5.of fun k q1 q2 => f' k (by omega), h6'.of fun j q => g _ _ (by omega), h7.of (g _ _ (by omega)), h8.of (g _ _ (by omega)), h9'.of fun k q1 q2 => f' k (by omega)⟩
theorem bst_ok (hS : S.ok) {a b t : Nat} (ha : a < S.nn) (hab : a ≠ b) : (S.bst a b t (2 ^ S.nn)).1 ≠ 0 := bst_some a b t _ (2 ^ a) (Nat.pow_lt_pow_right (by decide) ha) (by rw [pow_bit]; simp) (by rw [pow_bit]; simp [hab])
theorem sim_flow (hT : PlS T) (hS : S.ok) (hC : RC T S C) (hM : RM S M) (a1 a2 a3 : Int32) : jX11_flowK C a1 a2 a3 ∧ jX12_flowK M a1 a2 a3 ∧ jX11_flow C a1 a2 a3 = jX12_flow M a1 a2 a3 ∧ ∃ S' : St, S'.ok ∧ RC T S' (jX11_flowM C a1 a2 a3) ∧ RM S' (jX12_flowM M a1 a2 a3) := by
  unfold jX11_flowK jX12_flowK jX11_flow jX12_flow jX11_flowM jX12_flowM jX12_finds
  have t1 := tw_CM hS hC hM a1 a2
  by_cases c1 : tw C a1 a2
  · have c1' := t1.mp c1
    by_cases c2 : wi a3 0 23
    · obtain ⟨a, b, ha, hb, hab, rfl, rfl⟩ := tw_of hS hC c1
      obtain ⟨t, -, ht, rfl⟩ := wi_nI (a := 0) (b := 23) (by omega) c2 (by omega)
      obtain ⟨p1, p2, p3, p4⟩ := find_C hS hC ha hb (show t < 24 by omega)
      obtain ⟨q1, q2, q3⟩ := find_M hS hM ha hb (show t < 24 by omega)
      have z := bst_ok hS (t := t) ha hab
      simp only [eq_true c1, eq_true c1', eq_true c2, eq_true p1, eq_true q1, ↓reduceIte, not_true_eq_false, not_false_eq_true, true_imp_iff, false_imp_iff, implies_true, and_true, true_and, eq_self]
      exact ⟨by rw [p4 z, (q3 z).2], cut_ok hT hS hC hM p2 q2⟩
    · simp only [eq_true c1, eq_true c1', eq_false c2, ↓reduceIte, not_true_eq_false, not_false_eq_true, true_imp_iff, false_imp_iff, implies_true, and_true, true_and, eq_self]
      exact bad hT hS hC hM
  · have c1' := mt t1.mpr c1
    simp only [eq_false c1, eq_false c1', ↓reduceIte, not_true_eq_false, not_false_eq_true, true_imp_iff, false_imp_iff, implies_true, and_true, true_and, eq_self]
    exact bad hT hS hC hM
theorem sim_cut (hT : PlS T) (hS : S.ok) (hC : RC T S C) (hM : RM S M) (a1 a2 a3 : Int32) : jX11_cutK C a1 a2 a3 ∧ jX12_cutK M a1 a2 a3 ∧ jX11_cut C a1 a2 a3 = jX12_cut M a1 a2 a3 ∧ ∃ S' : St, S'.ok ∧ RC T S' (jX11_cutM C a1 a2 a3) ∧ RM S' (jX12_cutM M a1 a2 a3) := by
  unfold jX11_cutK jX12_cutK jX11_cut jX12_cut jX11_cutM jX12_cutM jX12_finds
  have t1 := tw_CM hS hC hM a1 a2
  by_cases c1 : tw C a1 a2
  · have c1' := t1.mp c1
    by_cases c2 : wi a3 0 23
    · obtain ⟨a, b, ha, hb, hab, rfl, rfl⟩ := tw_of hS hC c1
      obtain ⟨t, -, ht, rfl⟩ := wi_nI (a := 0) (b := 23) (by omega) c2 (by omega)
      obtain ⟨p1, p2, p3, p4⟩ := find_C hS hC ha hb (show t < 24 by omega)
      obtain ⟨q1, q2, q3⟩ := find_M hS hM ha hb (show t < 24 by omega)
      have z := bst_ok hS (t := t) ha hab
      simp only [eq_true c1, eq_true c1', eq_true c2, eq_true p1, eq_true q1, ↓reduceIte, not_true_eq_false, not_false_eq_true, true_imp_iff, false_imp_iff, implies_true, and_true, true_and, eq_self]
      exact ⟨by rw [p3, (q3 z).1], cut_ok hT hS hC hM p2 q2⟩
    · simp only [eq_true c1, eq_true c1', eq_false c2, ↓reduceIte, not_true_eq_false, not_false_eq_true, true_imp_iff, false_imp_iff, implies_true, and_true, true_and, eq_self]
      exact bad hT hS hC hM
  · have c1' := mt t1.mpr c1
    simp only [eq_false c1, eq_false c1', ↓reduceIte, not_true_eq_false, not_false_eq_true, true_imp_iff, false_imp_iff, implies_true, and_true, true_and, eq_self]
    exact bad hT hS hC hM
end SIM
end
