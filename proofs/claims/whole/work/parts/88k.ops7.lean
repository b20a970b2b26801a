noncomputable section
section SIM
variable {T : Topo} {S : St} {C M : IM}
theorem sim_of (hT : PlS T) (hS : S.ok) (hC : RC T S C) (hM : RM S M) (a1 a2 : Int32) : jX11_ofK C a1 a2 ∧ jX12_ofK M a1 a2 ∧ jX11_of C a1 a2 = jX12_of M a1 a2 ∧ ∃ S' : St, S'.ok ∧ RC T S' (jX11_ofM C a1 a2) ∧ RM S' (jX12_ofM M a1 a2) := by
  have h8 := hS.2.1.1
  by_cases h : ∃ j, j < S.ns ∧ a1 = nI j
  · have e1 := (sl_C hS hC a1).mpr h
    have e2 := (sl_M hS hM a1).mpr h
    obtain ⟨j, hj, rfl⟩ := h
    have v : vp_in (nI j) 8 := (vp_nI (by omega)).mpr (by omega)
    have nd := need_M hS hM hj
    have k1 : jX11_ofK C (nI j) a2 := ⟨fun q => absurd e1 q, fun _ => ⟨fun _ => v, fun _ => trivial⟩⟩
    have k2 : jX12_ofK M (nI j) a2 := ⟨fun _ => ⟨fun _ => v, fun _ => v, fun _ => v, fun _ => v, fun _ => v, fun _ => v, fun _ => v, fun _ => v, fun _ => v, fun _ => v, fun _ => v, fun _ => v, fun _ => v, fun _ => v, fun _ => v, fun _ => v, fun _ => v, fun _ => nd.1, fun _ => trivial⟩, fun q => absurd e2 q⟩
    refine ⟨k1, k2, ?_⟩
    unfold jX11_of jX12_of jX11_ofM jX12_ofM jX12_finds jX8_becameOf jX8_askedFor
    rw [if_pos e1, if_pos e1, if_pos e2, if_pos e2, nI_clamp (by omega)]
    obtain ⟨c0, c1, c2, c3, c4, c5, c6, c7, c8, c9, c10⟩ := hC.2.2.2.1.2 j (by omega)
    obtain ⟨m0, m1, m2, m3, m4, m5, m6, m7, m8, m9, m10⟩ := hM.2.2.1.2 j (by omega)
    obtain ⟨w0, w1, w2, w3, w4⟩ := hC.2.2.2.2.2.2.1 j (by omega)
    obtain ⟨u0, u1, u2, u3, u4⟩ := hM.2.2.2.1 j (by omega)
    rw [c0, c1, c2, c3, c4, c5, c6, c7, c8, c9, c10, w0, w1, w2, w3, w4, m0, m1, m2, m3, m4, m5, m6, m7, m8, m9, m10, u0, u1, u2, u3, u4, need_C hS hC hj, nd.2]
    have i1 := in_C hS hC (j := j) (by omega)
    have i2 := in_M hM (j := j) (by omega)
    have i3 : (if inS C j then (1 : Int32) else 0) = if M 106 j = 0 then 0 else 1 := by
      by_cases c : S.pl j = 0
      · rw [if_neg (fun q => i1.mp q c), if_pos (i2.mpr c)]
      · rw [if_pos (i1.mpr c), if_neg (fun q => c (i2.mp q))]
    rw [i3]
    by_cases c : wi a2 0 17
    · rw [if_pos c, if_pos c]
      obtain ⟨x, -, hx, rfl⟩ := wi_nI (a := 0) (b := 17) (by omega) c (by omega)
      have g0 : (nI x = 0) = (x = 0) := propext (nI_eq (b := 0) (by omega) (by omega))
      have g1 : (nI x = 1) = (x = 1) := propext (nI_eq (b := 1) (by omega) (by omega))
      have g2 : (nI x = 2) = (x = 2) := propext (nI_eq (b := 2) (by omega) (by omega))
      have g3 : (nI x = 3) = (x = 3) := propext (nI_eq (b := 3) (by omega) (by omega))
      have g4 : (nI x = 4) = (x = 4) := propext (nI_eq (b := 4) (by omega) (by omega))
      have g5 : (nI x = 5) = (x = 5) := propext (nI_eq (b := 5) (by omega) (by omega))
      have g6 : (nI x = 6) = (x = 6) := propext (nI_eq (b := 6) (by omega) (by omega))
      have g7 : (nI x = 7) = (x = 7) := propext (nI_eq (b := 7) (by omega) (by omega))
      have g8 : (nI x = 8) = (x = 8) := propext (nI_eq (b := 8) (by omega) (by omega))
      have g9 : (nI x = 9) = (x = 9) := propext (nI_eq (b := 9) (by omega) (by omega))
      have g10 : (nI x = 10) = (x = 10) := propext (nI_eq (b := 10) (by omega) (by omega))
      have g11 : (nI x = 11) = (x = 11) := propext (nI_eq (b := 11) (by omega) (by omega))
      have g12 : (nI x = 12) = (x = 12) := propext (nI_eq (b := 12) (by omega) (by omega))
      have g13 : (nI x = 13) = (x = 13) := propext (nI_eq (b := 13) (by omega) (by omega))
      have g14 : (nI x = 14) = (x = 14) := propext (nI_eq (b := 14) (by omega) (by omega))
      have g15 : (nI x = 15) = (x = 15) := propext (nI_eq (b := 15) (by omega) (by omega))
      have g16 : (nI x = 16) = (x = 16) := propext (nI_eq (b := 16) (by omega) (by omega))
      have g17 : (nI x = 17) = (x = 17) := propext (nI_eq (b := 17) (by omega) (by omega))
      have gl : (10 < nI x) = (10 < x) := propext (nI_ltI (a := 10) (by omega) (by omega))
      simp only [gl, g0, g1, g2, g3, g4, g5, g6, g7, g8, g9, g10, g11, g12, g13, g14, g15, g16, g17]
      have hx : x = 0 ∨ x = 1 ∨ x = 2 ∨ x = 3 ∨ x = 4 ∨ x = 5 ∨ x = 6 ∨ x = 7 ∨ x = 8 ∨ x = 9 ∨ x = 10 ∨ x = 11 ∨ x = 12 ∨ x = 13 ∨ x = 14 ∨ x = 15 ∨ x = 16 ∨ x = 17 := by omega
      rcases hx with rfl | rfl | rfl | rfl | rfl | rfl | rfl | rfl | rfl | rfl | rfl | rfl | rfl | rfl | rfl | rfl | rfl | rfl <;> (simp; exact ⟨S, hS, hC, hM⟩)
    · have n : ∀ k, k ≤ 17 → ¬ a2 = nI k := fun k hk e => c (by rw [e]; exact (wi_nI' (a := 0) (b := 17) (by omega) (by omega) (by omega)).mpr ⟨by omega, hk⟩)
      have n0 : ¬ a2 = 0 := n 0 (by omega)
      have n1 : ¬ a2 = 1 := n 1 (by omega)
      have n2 : ¬ a2 = 2 := n 2 (by omega)
      have n3 : ¬ a2 = 3 := n 3 (by omega)
      have n4 : ¬ a2 = 4 := n 4 (by omega)
      have n5 : ¬ a2 = 5 := n 5 (by omega)
      have n6 : ¬ a2 = 6 := n 6 (by omega)
      have n7 : ¬ a2 = 7 := n 7 (by omega)
      have n8 : ¬ a2 = 8 := n 8 (by omega)
      have n9 : ¬ a2 = 9 := n 9 (by omega)
      have n10 : ¬ a2 = 10 := n 10 (by omega)
      have n11 : ¬ a2 = 11 := n 11 (by omega)
      have n12 : ¬ a2 = 12 := n 12 (by omega)
      have n13 : ¬ a2 = 13 := n 13 (by omega)
      have n14 : ¬ a2 = 14 := n 14 (by omega)
      have n15 : ¬ a2 = 15 := n 15 (by omega)
      have n16 : ¬ a2 = 16 := n 16 (by omega)
      have n17 : ¬ a2 = 17 := n 17 (by omega)
      simp only [eq_false c, eq_false n0, eq_false n1, eq_false n2, eq_false n3, eq_false n4, eq_false n5, eq_false n6, eq_false n7, eq_false n8, eq_false n9, eq_false n10, eq_false n11, eq_false n12, eq_false n13, eq_false n14, eq_false n15, eq_false n16, eq_false n17, ↓reduceIte, not_true_eq_false, not_false_eq_true, true_imp_iff, false_imp_iff, implies_true, and_true, true_and, eq_self]
      exact bad hT hS hC hM
  · have e1 := mt (sl_C hS hC a1).mp h
    have e2 := mt (sl_M hS hM a1).mp h
    unfold jX11_ofK jX12_ofK jX11_of jX12_of jX11_ofM jX12_ofM jX12_finds
    simp only [eq_false e1, eq_false e2, ↓reduceIte, not_true_eq_false, not_false_eq_true, true_imp_iff, false_imp_iff, implies_true, and_true, true_and, eq_self]
    exact bad hT hS hC hM
theorem sim_about (hT : PlS T) (hS : S.ok) (hC : RC T S C) (hM : RM S M) (a1 a2 : Int32) : jX11_aboutK C a1 a2 ∧ jX12_aboutK M a1 a2 ∧ jX11_about C a1 a2 = jX12_about M a1 a2 ∧ ∃ S' : St, S'.ok ∧ RC T S' (jX11_aboutM C a1 a2) ∧ RM S' (jX12_aboutM M a1 a2) := by
  have h9 := hS.1.2.1
  by_cases h : ∃ j, j < S.nl ∧ a1 = nI j
  · have e1 := (li_C hS hC a1).mpr h
    have e2 := (li_M hS hM a1).mpr h
    obtain ⟨j, hj, rfl⟩ := h
    have v : vp_in (nI j) 9 := (vp_nI (by omega)).mpr (by omega)
    have k1 : jX11_aboutK C (nI j) a2 := ⟨fun q => absurd e1 q, fun _ => ⟨fun _ => ⟨fun _ => v, fun _ => trivial⟩, fun _ => trivial⟩⟩
    have k2 : jX12_aboutK M (nI j) a2 := ⟨fun _ => ⟨fun _ => v, fun _ => v, fun _ => v, fun _ => v, fun _ => v, fun _ => v, fun _ => v, fun _ => v, fun _ => v, fun _ => trivial⟩, fun q => absurd e2 q⟩
    refine ⟨k1, k2, ?_⟩
    unfold jX11_about jX12_about jX11_aboutM jX12_aboutM jX12_finds jTell
    have hd : S.dn < 2 ^ 9 := Nat.lt_of_lt_of_le hS.1.2.2.2.1 (Nat.pow_le_pow_right (by decide) h9)
    have hz : (nI (2 ^ j) &&& nI S.dn = 0) = ¬ S.dn.testBit j = true := propext ((and0 (Nat.lt_of_le_of_lt (Nat.pow_le_pow_right (show 0 < 2 by decide) (show j ≤ 9 by omega)) (by decide))).trans pow_and)
    rw [if_pos e1, if_pos e1, if_pos e2, if_pos e2, nI_clamp (by omega), one_nI (by omega), hC.dnC]
    obtain ⟨c0, c1, c2, c3, c4⟩ := hC.1.2.2.2 j (by omega)
    obtain ⟨m0, m1, m2, m3, m4⟩ := hM.1.2.2.2.1 j (by omega)
    obtain ⟨w0, w1, w2⟩ := hC.2.1 j (by omega)
    obtain ⟨u0, u1, u2⟩ := hM.2.1 j (by omega)
    have u5 := hM.1.2.2.2.2 j hj
    have i3 : (if nI (2 ^ j) &&& nI S.dn = 0 then (1 : Int32) else 0) = if M 89 j = 0 then 0 else 1 := by
      rw [u5]
      by_cases c : S.dn.testBit j = true
      · rw [if_neg (by rw [hz]; exact fun q => q c), if_pos c]; rfl
      · rw [if_pos (by rw [hz]; exact c), if_neg c]; rfl
    rw [i3, c0, c1, c2, c3, c4, w0, w1, w2, m0, m1, m2, m3, m4, u0, u1, u2]
    by_cases c : wi a2 0 8
    · rw [if_pos c, if_pos c]
      obtain ⟨x, -, hx, rfl⟩ := wi_nI (a := 0) (b := 8) (by omega) c (by omega)
      have g0 : (nI x = 0) = (x = 0) := propext (nI_eq (b := 0) (by omega) (by omega))
      have g1 : (nI x = 1) = (x = 1) := propext (nI_eq (b := 1) (by omega) (by omega))
      have g2 : (nI x = 2) = (x = 2) := propext (nI_eq (b := 2) (by omega) (by omega))
      have g3 : (nI x = 3) = (x = 3) := propext (nI_eq (b := 3) (by omega) (by omega))
      have g4 : (nI x = 4) = (x = 4) := propext (nI_eq (b := 4) (by omega) (by omega))
      have g5 : (nI x = 5) = (x = 5) := propext (nI_eq (b := 5) (by omega) (by omega))
      have g6 : (nI x = 6) = (x = 6) := propext (nI_eq (b := 6) (by omega) (by omega))
      have g7 : (nI x = 7) = (x = 7) := propext (nI_eq (b := 7) (by omega) (by omega))
      have g8 : (nI x = 8) = (x = 8) := propext (nI_eq (b := 8) (by omega) (by omega))
      simp only [g0, g1, g2, g3, g4, g5, g6, g7, g8]
      have hx : x = 0 ∨ x = 1 ∨ x = 2 ∨ x = 3 ∨ x = 4 ∨ x = 5 ∨ x = 6 ∨ x = 7 ∨ x = 8 := by omega
      rcases hx with rfl | rfl | rfl | rfl | rfl | rfl | rfl | rfl | rfl <;> (simp; exact ⟨S, hS, hC, hM⟩)
    · have n : ∀ k, k ≤ 8 → ¬ a2 = nI k := fun k hk e => c (by rw [e]; exact (wi_nI' (a := 0) (b := 8) (by omega) (by omega) (by omega)).mpr ⟨by omega, hk⟩)
      have n0 : ¬ a2 = 0 := n 0 (by omega)
      have n1 : ¬ a2 = 1 := n 1 (by omega)
      have n2 : ¬ a2 = 2 := n 2 (by omega)
      have n3 : ¬ a2 = 3 := n 3 (by omega)
      have n4 : ¬ a2 = 4 := n 4 (by omega)
      have n5 : ¬ a2 = 5 := n 5 (by omega)
      have n6 : ¬ a2 = 6 := n 6 (by omega)
      have n7 : ¬ a2 = 7 := n 7 (by omega)
      have n8 : ¬ a2 = 8 := n 8 (by omega)
      simp only [eq_false c, eq_false n0, eq_false n1, eq_false n2, eq_false n3, eq_false n4, eq_false n5, eq_false n6, eq_false n7, eq_false n8, ↓reduceIte, not_true_eq_false, not_false_eq_true, true_imp_iff, false_imp_iff, implies_true, and_true, true_and, eq_self]
      exact bad hT hS hC hM
  · have e1 := mt (li_C hS hC a1).mp h
    have e2 := mt (li_M hS hM a1).mp h
    unfold jX11_aboutK jX12_aboutK jX11_about jX12_about jX11_aboutM jX12_aboutM jX12_finds
    simp only [eq_false e1, eq_false e2, ↓reduceIte, not_true_eq_false, not_false_eq_true, true_imp_iff, false_imp_iff, implies_true, and_true, true_and, eq_self]
    exact bad hT hS hC hM
theorem count_both (hS : S.ok) (hC : RC T S C) (hM : RM S M) : jX9_countInK C ∧ jX12_countInK M ∧ jX9_countIn C = jX12_countIn M := by
  have h8 := hS.2.1.1
  let g : Nat → Nat := fun s => if S.pl s = 0 then 0 else 1
  have E1 : Ends (fun n (s : Int32 × Int32) => jX9_countInI n s.1 s.2 C) (fun n s => jX9_countInO n s.1 s.2 C) (S.ns * 1 + 1) ((nI 0, nI 0) : Int32 × Int32) (nI (sm g S.ns)) := by
    refine Go.ends (Go.loop (a := fun k => (nI (sm g k), nI k)) S.ns fun k hk => Go.one fun n => ?_) (Ends.one fun n => ?_)
    · dsimp only
      have v : vp_in (nI k) 8 := (vp_nI (by omega)).mpr (by omega)
      have i1 := in_C hS hC (j := k) (by omega)
      have c0 : ¬ S.ns ≤ k := by omega
      rw [jX9_countInO_4, jX9_countInI_4, hC.2.2.2.1.1, nI_clamp (by omega), nI_1 k, nI_1, Int32.add_zero, sm]
      by_cases c : S.pl k = 0
      · have e : g k = 0 := if_pos c
        rw [e, Nat.add_zero]
        have d : ¬ inS C k := fun q => i1.mp q c
        simp (disch := omega) only [nI_leI, eq_false c0, eq_false d, eq_true v, ↓reduceIte, not_true_eq_false, not_false_eq_true, true_imp_iff, false_imp_iff, implies_true, and_true, true_and, eq_self]
        first | exact id | exact ⟨id, rfl⟩
      · have e : g k = 1 := if_neg c
        rw [e]
        have d := i1.mpr c
        simp (disch := omega) only [nI_leI, eq_false c0, eq_true d, eq_true v, ↓reduceIte, not_true_eq_false, not_false_eq_true, true_imp_iff, false_imp_iff, implies_true, and_true, true_and, eq_self]
        first | exact id | exact ⟨id, rfl⟩
    · dsimp only
      have c0 : S.ns ≤ S.ns := Nat.le_refl _
      rw [jX9_countInO_4, jX9_countInI_4, hC.2.2.2.1.1]
      simp (disch := omega) only [nI_leI, eq_true c0, ↓reduceIte, not_true_eq_false, not_false_eq_true, true_imp_iff, false_imp_iff, implies_true, and_true, true_and, eq_self]
  have E2 : Ends (fun n (s : Int32 × Int32) => jX12_countInI n s.1 s.2 M) (fun n s => jX12_countInO n s.1 s.2 M) (S.ns * 1 + 1) ((nI 0, nI 0) : Int32 × Int32) (nI (sm g S.ns)) := by
    refine Go.ends (Go.loop (a := fun k => (nI (sm g k), nI k)) S.ns fun k hk => Go.one fun n => ?_) (Ends.one fun n => ?_)
    · dsimp only
      have v : vp_in (nI k) 8 := (vp_nI (by omega)).mpr (by omega)
      have i1 := in_M hM (j := k) (by omega)
      have c0 : ¬ S.ns ≤ k := by omega
      rw [jX12_countInO_4, jX12_countInI_4, hM.2.2.1.1, nI_clamp (by omega), nI_1 k, nI_1, Int32.add_zero, sm]
      by_cases c : S.pl k = 0
      · have e : g k = 0 := if_pos c
        rw [e, Nat.add_zero]
        have d := i1.mpr c
        simp (disch := omega) only [nI_leI, eq_false c0, eq_true d, eq_true v, ↓reduceIte, not_true_eq_false, not_false_eq_true, true_imp_iff, false_imp_iff, implies_true, and_true, true_and, eq_self]
        first | exact id | exact ⟨id, rfl⟩
      · have e : g k = 1 := if_neg c
        rw [e]
        have d : ¬ M 106 k = 0 := fun q => c (i1.mp q)
        simp (disch := omega) only [nI_leI, eq_false c0, eq_false d, eq_true v, ↓reduceIte, not_true_eq_false, not_false_eq_true, true_imp_iff, false_imp_iff, implies_true, and_true, true_and, eq_self]
        first | exact id | exact ⟨id, rfl⟩
    · dsimp only
      have c0 : S.ns ≤ S.ns := Nat.le_refl _
      rw [jX12_countInO_4, jX12_countInI_4, hM.2.2.1.1]
      simp (disch := omega) only [nI_leI, eq_true c0, ↓reduceIte, not_true_eq_false, not_false_eq_true, true_imp_iff, false_imp_iff, implies_true, and_true, true_and, eq_self]
  obtain ⟨r1, r2⟩ := E1.use (f := FU) (by rw [FU_eq]; omega)
  obtain ⟨r3, r4⟩ := E2.use (f := FU) (by rw [FU_eq]; omega)
  exact ⟨r1, r3, r2.trans r4.symm⟩
theorem sim_told (hT : PlS T) (hS : S.ok) (hC : RC T S C) (hM : RM S M) (a2 : Int32) : jX11_toldK C a2 ∧ jX12_toldK M a2 ∧ jX11_told C a2 = jX12_told M a2 ∧ ∃ S' : St, S'.ok ∧ RC T S' (jX11_toldM C a2) ∧ RM S' (jX12_toldM M a2) := by
  obtain ⟨q1, q2, q3⟩ := count_both hS hC hM
  have k1 : jX11_toldK C a2 := ⟨fun _ => trivial, fun _ => trivial, fun _ => trivial, fun _ => q1, fun _ => trivial, fun _ => trivial, fun _ => trivial, fun _ => trivial, fun _ => trivial⟩
  have k2 : jX12_toldK M a2 := ⟨fun _ => trivial, fun _ => trivial, fun _ => trivial, fun _ => q2, fun _ => trivial, fun _ => trivial, fun _ => trivial, fun _ => trivial, fun _ => trivial⟩
  refine ⟨k1, k2, ?_⟩
  unfold jX11_told jX12_told jX11_toldM jX12_toldM jX12_finds
  obtain ⟨h1, h2, h3, h4, h5, h6, h7, h8a, g9, h10, h11, h12, h13, h14, h15⟩ := id hC
  obtain ⟨m1, m2, m3, m4, m5, m6, m7, m8, m9⟩ := id hM
  rw [h1.1, h1.2.1, h4.1, h12.2.1, h13, h12.2.2.1, h12.2.2.2, m1.1, m1.2.1, m3.1, m6.2.1, m7, m6.2.2.1, m6.2.2.2, q3]
  by_cases c : wi a2 0 7
  · obtain ⟨x, -, hx, rfl⟩ := wi_nI (a := 0) (b := 7) (by omega) c (by omega)
    have hx : x = 0 ∨ x = 1 ∨ x = 2 ∨ x = 3 ∨ x = 4 ∨ x = 5 ∨ x = 6 ∨ x = 7 := by omega
    rcases hx with rfl | rfl | rfl | rfl | rfl | rfl | rfl | rfl <;> exact ⟨rfl, S, hS, hC, hM⟩
  · have n : ∀ k, k ≤ 7 → ¬ a2 = nI k := fun k hk e => c (by rw [e]; exact (wi_nI' (a := 0) (b := 7) (by omega) (by omega) (by omega)).mpr ⟨by omega, hk⟩)
    have n0 : ¬ a2 = 0 := n 0 (by omega)
    have n1 : ¬ a2 = 1 := n 1 (by omega)
    have n2 : ¬ a2 = 2 := n 2 (by omega)
    have n3 : ¬ a2 = 3 := n 3 (by omega)
    have n4 : ¬ a2 = 4 := n 4 (by omega)
    have n5 : ¬ a2 = 5 := n 5 (by omega)
    have n6 : ¬ a2 = 6 := n 6 (by omega)
    have n7 : ¬ a2 = 7 := n 7 (by omega)
    simp only [eq_false n0, eq_false n1, eq_false n2, eq_false n3, eq_false n4, eq_false n5, eq_false n6, eq_false n7, ↓reduceIte, not_true_eq_false, not_false_eq_true, true_imp_iff, false_imp_iff, implies_true, and_true, true_and, eq_self]
    exact bad hT hS hC hM
theorem left_M (hS : S.ok) (hM : RM S M) {l t : Nat} (hl : l < S.nl) (ht : t < 24) : jX12_leftOfK M (nI l) (nI t) ∧ jX12_leftOf M (nI l) (nI t) = nI (S.rm l - S.ld S.pl S.does l t - S.fl S.pl S.does l t) ∧ S.ld S.pl S.does l t + S.fl S.pl S.does l t ≤ S.rm l ∧ S.rm l ≤ 50 := by
  have h9 := hS.1.2.1
  have mb : MB S S.pl M := ⟨hS.1, hS.2.1, hS.2.2.2.2.1, hM.1, hM.2.2.1, hM.2.2.2.2.1⟩
  obtain ⟨k1, k2⟩ := counting_M mb (t := t) ht
  obtain ⟨l1, l2⟩ := load_M mb (l := l) (t := t) (by omega)
  obtain ⟨f1, f2⟩ := fall_M mb (l := l) (t := t) (by omega)
  have hok := (hS.2.2.2.2.2 t ht).1 l hl
  unfold jX12_leftOfK jX12_leftOf
  rw [k2, l2, f2, nI_clamp (by omega), (hM.1.2.2.2.1 l (by omega)).2.2.1, nI_sub (by omega), nI_sub (by omega)]
  exact ⟨⟨k1, (vp_nI (by omega)).mpr (by omega), l1, f1⟩, rfl, hok, (hS.1.2.2.2.2 l hl).2.2.2.2.1⟩
theorem free_C (hS : S.ok) (hC : RC T S C) {l t : Nat} (hl : l < S.nl) (ht : t < 24) : jX0_freeAtK (nI l) (nI t) ∧ jX0_freeAt C 49 (nI l) (nI t) = nI (S.rm l - S.ld S.pl S.does l t - S.fl S.pl S.does l t) := by
  have h9 := hS.1.2.1
  have hok := (hS.2.2.2.2.2 t ht).1 l hl
  obtain ⟨b1, b2, -⟩ := (hC.2.2.2.2.2.2.2.1.2 t ht).1 l (by omega)
  unfold jX0_freeAtK jX0_freeAt jX0_loadAtK jX0_fallAtK jX0_loadAt jX0_fallAt
  rw [idx9, nI_clamp (by omega), nI_clamp (by omega), b1, b2, (hC.1.2.2.2 l (by omega)).2.2.1, nI_sub (by omega), nI_sub (by omega)]
  have v : vp_in (nI (9 * t + l)) 216 := (vp_nI (by omega)).mpr (by omega)
  exact ⟨⟨(vp_nI (by omega)).mpr (by omega), v, v⟩, rfl⟩
/-- the least of the first n -/
def mnN (f : Nat → Nat) (b : Nat) : Nat → Nat
  | 0 => b
  | n + 1 => min (mnN f b n) (f n)
theorem mnN_le {f : Nat → Nat} {b : Nat} : ∀ n, mnN f b n ≤ b
  | 0 => Nat.le_refl _
  | n + 1 => Nat.le_trans (Nat.min_le_left _ _) (mnN_le n)
theorem mnN_first {f : Nat → Nat} {b : Nat} (h : f 0 ≤ b) : ∀ n, mnN (fun i => f (i + 1)) (f 0) n = mnN f b (n + 1)
  | 0 => by show f 0 = min b (f 0); omega
  | n + 1 => by
    have := mnN_first h n
    show min (mnN (fun i => f (i + 1)) (f 0) n) (f (n + 1)) = min (mnN f b (n + 1)) (f (n + 1))
    rw [this]
theorem sim_spare (hT : PlS T) (hS : S.ok) (hC : RC T S C) (hM : RM S M) (a1 : Int32) : jX11_spareK C a1 ∧ jX12_spareK M a1 ∧ (jX11_spare C a1).1 = (jX12_spare M a1).1 ∧ ∃ S' : St, S'.ok ∧ RC T S' (jX11_spare C a1).2 ∧ RM S' (jX12_spare M a1).2 := by
  have h9 := hS.1.2.1
  unfold jX11_spareK jX12_spareK jX11_spare jX12_spare jX12_finds
  by_cases h : ∃ j, j < S.nl ∧ a1 = nI j
  · have e1 := (li_C hS hC a1).mpr h
    have e2 := (li_M hS hM a1).mpr h
    obtain ⟨l, hl, rfl⟩ := h
    let g : Nat → Nat := fun t => S.rm l - S.ld S.pl S.does l t - S.fl S.pl S.does l t
    have hr := (hS.1.2.2.2.2 l hl).2.2.2.2.1
    have gb : ∀ t, g t ≤ 50 := fun t => by show S.rm l - S.ld S.pl S.does l t - S.fl S.pl S.does l t ≤ 50; omega
    obtain ⟨f1, f2⟩ := free_C hS hC hl (t := 0) (by omega)
    have E1 : Ends (fun n (s : Int32 × Int32) => jX11_spareI (nI l) n s.1 s.2 C) (fun n s => jX11_spareO (nI l) n s.1 s.2 C) (23 * 1 + 1) ((nI (g 0), nI 1) : Int32 × Int32) (nI (mnN (fun i => g (i + 1)) (g 0) 23), C) := by
      refine Go.ends (Go.loop (a := fun k => (nI (mnN (fun i => g (i + 1)) (g 0) k), nI (k + 1))) 23 fun k hk => Go.one fun n => ?_) (Ends.one fun n => ?_)
      · dsimp only
        have c0 : ¬ (24 : Int32) ≤ nI (k + 1) := by rw [li24]; exact nI_ge (by omega) (by omega)
        obtain ⟨q1, q2⟩ := free_C hS hC hl (t := k + 1) (by omega)
        have b1 := mnN_le (f := fun i => g (i + 1)) (b := g 0) k
        have b2 := gb 0
        have b3 := gb (k + 1)
        rw [jX11_spareO_34, jX11_spareI_34, q2, show S.rm l - S.ld S.pl S.does l (k + 1) - S.fl S.pl S.does l (k + 1) = g (k + 1) from rfl, min_nI (by omega) (by omega), nI_1]
        simp only [eq_false c0, eq_true q1, ↓reduceIte, not_true_eq_false, not_false_eq_true, true_imp_iff, false_imp_iff, implies_true, and_true, true_and, eq_self]
        first | exact id | exact ⟨id, rfl⟩
      · dsimp only
        have c0 : (24 : Int32) ≤ nI (23 + 1) := by decide
        rw [jX11_spareO_34, jX11_spareI_34]
        simp only [eq_true c0, ↓reduceIte, not_true_eq_false, not_false_eq_true, true_imp_iff, false_imp_iff, implies_true, and_true, true_and, eq_self]
    have E2 : Ends (fun n (s : Int32 × Int32) => jX12_spareI (nI l) n s.1 s.2 M) (fun n s => jX12_spareO (nI l) n s.1 s.2 M) (24 * 1 + 1) ((nI 50, nI 0) : Int32 × Int32) (nI (mnN g 50 24), M) := by
      refine Go.ends (Go.loop (a := fun k => (nI (mnN g 50 k), nI k)) 24 fun k hk => Go.one fun n => ?_) (Ends.one fun n => ?_)
      · dsimp only
        have c0 : ¬ (24 : Int32) ≤ nI k := by rw [li24]; exact nI_ge (by omega) (by omega)
        obtain ⟨q1, q2, -⟩ := left_M hS hM hl (t := k) hk
        have b1 := mnN_le (f := g) (b := 50) k
        have b3 := gb k
        rw [jX12_spareO_20, jX12_spareI_20, q2, show S.rm l - S.ld S.pl S.does l k - S.fl S.pl S.does l k = g k from rfl, nI_1, mnN]
        by_cases c : mnN g 50 k ≤ g k
        · rw [Nat.min_eq_left c]
          simp (disch := omega) only [nI_leI, eq_false c0, eq_true c, eq_true q1, ↓reduceIte, not_true_eq_false, not_false_eq_true, true_imp_iff, false_imp_iff, implies_true, and_true, true_and, eq_self]
          first | exact id | exact ⟨id, rfl⟩
        · rw [Nat.min_eq_right (by omega)]
          simp (disch := omega) only [nI_leI, eq_false c0, eq_false c, eq_true q1, ↓reduceIte, not_true_eq_false, not_false_eq_true, true_imp_iff, false_imp_iff, implies_true, and_true, true_and, eq_self]
          first | exact id | exact ⟨id, rfl⟩
      · dsimp only
        have c0 : (24 : Int32) ≤ nI 24 := by decide
        rw [jX12_spareO_20, jX12_spareI_20]
        simp only [eq_true c0, ↓reduceIte, not_true_eq_false, not_false_eq_true, true_imp_iff, false_imp_iff, implies_true, and_true, true_and, eq_self]
    obtain ⟨r1, r2⟩ := E1.use (f := FU) (by rw [FU_eq]; omega)
    obtain ⟨r3, r4⟩ := E2.use (f := FU) (by rw [FU_eq]; omega)
    have f2' : jX0_freeAt C 49 (nI l) 0 = nI (g 0) := f2
    rw [f2']
    have r1' : jX11_spareO (nI l) FU (nI (g 0)) 1 C := r1
    have r2' : jX11_spareI (nI l) FU (nI (g 0)) 1 C = (nI (mnN (fun i => g (i + 1)) (g 0) 23), C) := r2
    have r3' : jX12_spareO (nI l) FU 50 0 M := r3
    have r4' : jX12_spareI (nI l) FU 50 0 M = (nI (mnN g 50 24), M) := r4
    have f1' : jX0_freeAtK (nI l) 0 := f1
    simp only [eq_true e1, eq_true e2, eq_true f1', eq_true r1', eq_true r3', r2', r4', ↓reduceIte, not_true_eq_false, not_false_eq_true, true_imp_iff, false_imp_iff, implies_true, and_true, true_and, eq_self]
    exact ⟨by rw [mnN_first (gb 0)], S, hS, hC, hM⟩
  · have e1 := mt (li_C hS hC a1).mp h
    have e2 := mt (li_M hS hM a1).mp h
    simp only [eq_false e1, eq_false e2, ↓reduceIte, not_true_eq_false, not_false_eq_true, true_imp_iff, false_imp_iff, implies_true, and_true, true_and, eq_self]
    exact bad hT hS hC hM
end SIM
end
