noncomputable section
section FP
variable {T : Topo} {S : St} {C : IM}
/-- what finding the PLACES of a SLICE leaves -/
def FP (T : Topo) (S : St) (C : IM) (s : Nat) (mc ms : Nat) (T' : Topo) (C' : IM) : Prop := Lay T' ∧ Pl T' ∧ PlS T' ∧ RC T' S C' ∧ cPl1 T' S s C' ∧ C' (18 + 4 * s) 2 = nI S.nl ∧ (∀ k, 79 ≤ k → k < 136 → C' k = C k) ∧ (∃ d, mc ≤ 2 * d ∧ ms ≤ 8748 * d ∧ phi C 8 + d ≤ phi C' 8) ∧ (∀ j, j < 8 → j ≠ s → C' (18 + 4 * j) 2 = C (18 + 4 * j) 2 ∧ C' (18 + 4 * j) 3 = C (18 + 4 * j) 3 ∧ C' (18 + 4 * j) 4 = C (18 + 4 * j) 4 ∧ plA T' j = plA T j ∧ plB T' j = plB T j ∧ tL T' (plA T j) = tL T (plA T j) ∧ tL T' (plB T j) = tL T (plB T j) ∧ C' (plA T j) = C (plA T j) ∧ C' (plB T j) = C (plB T j)) ∧ C' 56 = C 56
theorem findP_spec (hL : Lay T) (hP : Pl T) (hT : PlS T) (hS : S.ok) (hC : RC T S C) {s : Nat} (hs : s < S.ns) : ∃ mc ms, jFindPK T C s s mc ms ∧ FP T S C s mc ms (jFindP T C s s).1 (jFindP T C s s).2 := by
  have h8 := hS.2.1.1
  have hs8 : s < 8 := by omega
  have h9 := hS.1.2.1
  have hn := hL.1
  have hplc := hC.plc
  have hlen := plist_len hS.1 s
  obtain ⟨t1, t2, t3, t4, t5, t6, t7, t8⟩ := hT s hs8
  by_cases c : C 1 4 = C (18 + 4 * s) 2
  · refine ⟨0, 0, fun q => absurd c q, ?_⟩
    have e : jFindP T C s s = (T, C) := if_pos c
    rw [e]
    have c2 : C (18 + 4 * s) 2 = nI S.nl := by rw [← c]; exact hC.1.2.1
    refine ⟨hL, hP, hT, hC, ?_, c2, fun _ _ _ => rfl, ⟨0, by omega, by omega, Nat.le_refl _⟩, fun j hj _ => ⟨rfl, rfl, rfl, rfl, rfl, rfl, rfl, rfl, rfl⟩, rfl⟩
    rcases hplc s hs8 with h | ⟨-, m, h1, h2, h3⟩
    · rw [h] at c2
      exact absurd (Int32.le_of_eq c2.symm) (by
        intro q
        have := Int32.le_trans (nI_pos' (n := S.nl) (by omega)) q
        exact absurd this (by decide))
    · exact h3 ((nI_eq (by omega) (by omega)).mp (h2.symm.trans c2))
  · have hst := hS.2.1.2.1 s hs
    obtain ⟨C0, hC0⟩ : ∃ X, X = up2 C (18 + 4 * s) 2 (C 1 4) := ⟨_, rfl⟩
    have f0 : ∀ k j, ¬ (k = 18 + 4 * s ∧ j = 2) → C0 k j = C k j := fun k j q => by rw [hC0, up2_ap, if_neg q]
    have f0' : ∀ k, k ≠ 18 + 4 * s → C0 k = C k := fun k q => funext fun j => f0 k j (by omega)
    have n0 : cNet S C0 := hC.1.of fun k j q => f0 k j (by omega)
    have w0 : cWays S C0 := hC.2.2.2.2.2.2.2.2.2.1.of fun k q => f0' k (by omega)
    obtain ⟨g1, g2, g3, g4⟩ := find_spec hS.1 n0 w0 hst.2.1 hst.2.2.1
    obtain ⟨C1, hC1⟩ : ∃ X, X = jFindM C0 (nI (S.sa s)) (nI (S.sb s)) := ⟨_, rfl⟩
    rw [← hC1] at g2 g3 g4
    obtain ⟨e0, e1, e2, e3, e4, -⟩ := hC.2.2.2.1.2 s hs8
    have f1 : ∀ k j, k ≠ 4 → k ≠ 5 → ¬ (k = 18 + 4 * s ∧ j = 2) → C1 k j = C k j := fun k j q1 q2 q3 => by rw [g3 k q1 q2]; exact f0 k j q3
    have hW : WyC S s C1 := ⟨n0.of fun k j q => by rw [g3 k (by omega) (by omega)], g2, by rw [f1 _ _ (by omega) (by omega) (by omega)]; exact e4, by rw [f1 _ _ (by omega) (by omega) (by omega)]; exact e0⟩
    obtain ⟨k1, k2, k3⟩ := gather_C hT hs8 hS.1 hS.2.1 hs hW
    have eA : fA T C s s = jX6_gather T C1 s s := by unfold fA; rw [← hC0, e1, e2, ← hC1]
    have c12 : C1 (18 + 4 * s) 2 = nI S.nl := by
      rw [g3 _ (by omega) (by omega), hC0, up2_at]; exact hC.1.2.1
    have old : (C (18 + 4 * s) 2 + 1).toNatClampNeg ≤ S.nl := by
      rcases hplc s hs8 with h | ⟨-, m, h1, h2, h3⟩
      · rw [h]
        have : ((-1 : Int32) + 1).toNatClampNeg = 0 := by decide
        omega
      · rw [h2, nI_1, nI_clamp (by omega)]
        have : m ≠ S.nl := fun e => c (by rw [h2, e]; exact hC.1.2.1)
        omega
    have gs : fA T C s s (18 + 4 * s) 3 = nI (S.plist s).length := by rw [eA]; exact k2.1
    have K0 : jFindK (up2 C (18 + 4 * s) 2 (C 1 4)) (C (17 + 4 * s) 1) (C (17 + 4 * s) 2) := by rw [← hC0, e1, e2]; exact g1
    have K1 : jX6_gatherK T (jFindM (up2 C (18 + 4 * s) 2 (C 1 4)) (C (17 + 4 * s) 1) (C (17 + 4 * s) 2)) s s := by rw [← hC0, e1, e2, ← hC1]; exact k1
    -- of the other SLICES nothing changes
    have oth : ∀ (C' : IM) (T' : Topo), (∀ k j, k < tN T → k ≠ 4 → k ≠ 5 → ¬ (k = 18 + 4 * s ∧ (j = 2 ∨ j = 3)) → k ≠ plA T s → C' k j = C k j) → ∀ j, j < 8 → j ≠ s → C' (18 + 4 * j) 2 = C (18 + 4 * j) 2 ∧ C' (18 + 4 * j) 3 = C (18 + 4 * j) 3 ∧ C' (18 + 4 * j) 4 = C (18 + 4 * j) 4 ∧ C' (plA T j) = C (plA T j) ∧ C' (plB T j) = C (plB T j) := by
      intro C' T' f j hj hne
      obtain ⟨s1, s2, s3, s4, -, -, s7, s8⟩ := hT j hj
      have := (s8 s hs8 hne).1
      have := t7 j hj
      exact ⟨f _ _ (by omega) (by omega) (by omega) (by omega) (by omega), f _ _ (by omega) (by omega) (by omega) (by omega) (by omega), f _ _ (by omega) (by omega) (by omega) (by omega) (by omega), funext fun x => f _ _ (by omega) (by omega) (by omega) (by omega) (by omega), funext fun x => f _ _ (by omega) (by omega) (by omega) (by omega) (by omega)⟩
    by_cases c2 : (S.plist s).length ≤ tL T (plA T s)
    · have c2' : fA T C s s (18 + 4 * s) 3 ≤ Int32.ofNat (tL T (plA T s)) := by rw [gs]; exact nI_le c2 (by omega)
      refine ⟨0, 0, fun _ => ⟨K0, K1, fun q => absurd c2' q⟩, ?_⟩
      have e : jFindP T C s s = (T, fA T C s s) := by unfold jFindP; rw [if_neg c, if_pos c2']
      rw [e, eA]
      dsimp only
      have F : ∀ k j, k ≠ 4 → k ≠ 5 → ¬ (k = 18 + 4 * s ∧ (j = 2 ∨ j = 3)) → k ≠ plA T s → jX6_gather T C1 s s k j = C k j := fun k j q1 q2 q3 q4 => by
        rw [k3 k j (by omega) q4]; exact f1 k j q1 q2 (by omega)
      have c22 : jX6_gather T C1 s s (18 + 4 * s) 2 = nI S.nl := by rw [k3 _ _ (by omega) (by omega)]; exact c12
      have p1 : cPl1 T S s (jX6_gather T C1 s s) := ⟨k2.1, c2, fun p hp => k2.2 p hp (by omega)⟩
      have ot := oth (jX6_gather T C1 s s) T fun k j _ q1 q2 q3 q4 => F k j q1 q2 q3 q4
      refine ⟨hL, hP, hT, RC.rows hS hC (fun k j q1 q2 q3 q4 => F k j q2 q3 (by omega) (by omega)) (g4.of fun k q => funext fun j => k3 k j (by omega) (by omega)) (fun j hj => ?_), p1, c22, fun k q1 q2 => funext fun j => F k j (by omega) (by omega) (by omega) (by omega), ⟨1, by omega, by omega, phi_one hs8 (fun j hj hne => (ot j hj hne).1) (by rw [c22, nI_1, nI_clamp (by omega)]; omega)⟩, fun j hj hne => ?_, funext fun j => F 56 j (by omega) (by omega) (by omega) (by omega)⟩
      · by_cases ej : j = s
        · subst ej
          exact .inr ⟨hs, S.nl, Nat.le_refl _, c22, fun _ => p1⟩
        · obtain ⟨o1, o2, -, o4, -⟩ := ot j hj ej
          unfold cPl1
          rw [o1, o2, o4]
          exact hplc j hj
      · obtain ⟨o1, o2, o3, o4, o5⟩ := ot j hj hne
        exact ⟨o1, o2, o3, rfl, rfl, rfl, rfl, o4, o5⟩
    · have c2' : ¬ fA T C s s (18 + 4 * s) 3 ≤ Int32.ofNat (tL T (plA T s)) := by rw [gs]; exact nI_ge (by omega) (by omega)
      have eN : fN T C s s = (S.plist s).length := by unfold fN; rw [gs, nI_clamp (by omega)]
      have hT' := fT_PlS hL hP hT hs8 (N := (S.plist s).length) hlen
      obtain ⟨pa, pb⟩ := fT_plA hL hP hT hs8 (S.plist s).length hs8
      rw [if_pos rfl] at pa pb
      obtain ⟨C2, hC2⟩ : ∃ X, X = fB T C s s := ⟨_, rfl⟩
      have f2 : ∀ k j, k ≠ tN T → k ≠ tN T + 1 → C2 k j = jX6_gather T C1 s s k j := fun k j q1 q2 => by
        rw [hC2]; unfold fB
        rw [newI_o _ _ q2, newI_o _ _ q1, eA]
      have F2 : ∀ k j, k < tN T → k ≠ 4 → k ≠ 5 → ¬ (k = 18 + 4 * s ∧ (j = 2 ∨ j = 3)) → k ≠ plA T s → C2 k j = C k j := fun k j q0 q1 q2 q3 q4 => by
        rw [f2 k j (by omega) (by omega), k3 k j (by omega) q4]; exact f1 k j q1 q2 (by omega)
      have hW2 : WyC S s C2 := by
        have := hW.frp hT hs8 hs8 k3
        obtain ⟨h1, h2, h3, h4⟩ := this
        refine ⟨h1.of fun k j q => f2 k j (by omega) (by omega), ⟨by rw [f2 _ _ (by omega) (by omega)]; exact h2.1, fun j hj => by rw [f2 _ _ (by omega) (by omega)]; exact h2.2 j hj⟩, by rw [f2 _ _ (by omega) (by omega)]; exact h3, by rw [f2 _ _ (by omega) (by omega)]; exact h4⟩
      obtain ⟨l1, l2, l3⟩ := gather_C hT' hs8 hS.1 hS.2.1 hs hW2
      refine ⟨2, 2 * (S.plist s).length, fun _ => ⟨K0, K1, fun _ => ⟨by rw [gs]; exact nI_pos (by omega), by rw [eN]; omega, Nat.le_refl _, by rw [eN]; omega, by rw [eN, ← hC2]; exact l1⟩⟩, ?_⟩
      have e : jFindP T C s s = (fT T s (S.plist s).length, jX6_gather (fT T s (S.plist s).length) C2 s s) := by unfold jFindP; rw [if_neg c, if_neg c2', eN, ← hC2]
      rw [e]
      dsimp only
      have F : ∀ k j, k < tN T → k ≠ 4 → k ≠ 5 → ¬ (k = 18 + 4 * s ∧ (j = 2 ∨ j = 3)) → k ≠ plA T s → jX6_gather (fT T s (S.plist s).length) C2 s s k j = C k j := fun k j q0 q1 q2 q3 q4 => by
        rw [l3 k j (by omega) (by rw [pa]; omega)]; exact F2 k j q0 q1 q2 q3 q4
      have c22 : jX6_gather (fT T s (S.plist s).length) C2 s s (18 + 4 * s) 2 = nI S.nl := by
        rw [l3 _ _ (by omega) (by rw [pa]; omega), f2 _ _ (by omega) (by omega), k3 _ _ (by omega) (by omega)]; exact c12
      have p1 : cPl1 (fT T s (S.plist s).length) S s (jX6_gather (fT T s (S.plist s).length) C2 s s) := by
        have tl : tL (fT T s (S.plist s).length) (plA (fT T s (S.plist s).length) s) = (S.plist s).length := by rw [pa, fT_L, if_pos (.inl rfl)]
        exact ⟨l2.1, by rw [tl]; exact Nat.le_refl _, fun p hp => l2.2 p hp (by rw [tl]; exact hp)⟩
      have ot := oth (jX6_gather (fT T s (S.plist s).length) C2 s s) T F
      have tp : ∀ j, j < 8 → j ≠ s → plA (fT T s (S.plist s).length) j = plA T j ∧ plB (fT T s (S.plist s).length) j = plB T j ∧ tL (fT T s (S.plist s).length) (plA T j) = tL T (plA T j) ∧ tL (fT T s (S.plist s).length) (plB T j) = tL T (plB T j) := fun j hj hne => by
        obtain ⟨a, b⟩ := fT_plA hL hP hT hs8 (S.plist s).length hj
        rw [if_neg hne] at a b
        obtain ⟨s1, s2, s3, s4, -⟩ := hT j hj
        exact ⟨a, b, by rw [fT_L, if_neg (by omega)], by rw [fT_L, if_neg (by omega)]⟩
      refine ⟨fT_lay hL hs8 _, fT_pl hL hP hs8 _, hT', RC.rows hS hC (fun k j q1 q2 q3 q4 => F k j (by omega) q2 q3 (by omega) (by omega)) ?_ (fun j hj => ?_), p1, c22, fun k q1 q2 => funext fun j => F k j (by omega) (by omega) (by omega) (by omega) (by omega), ⟨1, by omega, by omega, phi_one hs8 (fun j hj hne => (ot j hj hne).1) (by rw [c22, nI_1, nI_clamp (by omega)]; omega)⟩, fun j hj hne => ?_, funext fun j => F 56 j (by omega) (by omega) (by omega) (by omega) (by omega)⟩
      · refine g4.of fun k q => funext fun j => ?_
        rw [l3 k j (by omega) (by rw [pa]; omega), f2 k j (by omega) (by omega)]
        exact k3 k j (by omega) (by omega)
      · by_cases ej : j = s
        · subst ej
          exact .inr ⟨hs, S.nl, Nat.le_refl _, c22, fun _ => p1⟩
        · obtain ⟨o1, o2, -, o4, -⟩ := ot j hj ej
          obtain ⟨a, b, d1, d2⟩ := tp j hj ej
          unfold cPl1
          rw [a, d1, o1, o2, o4]
          exact hplc j hj
      · obtain ⟨o1, o2, o3, o4, o5⟩ := ot j hj hne
        obtain ⟨a, b, d1, d2⟩ := tp j hj hne
        exact ⟨o1, o2, o3, a, b, d1, d2, o4, o5⟩
end FP
end
