noncomputable section
section BE
variable {T : Topo} {S : St} {C M : IM} {n : Nat} {wh K : Nat → Nat}
theorem LX.fr67 (hT : PlS T) (h8 : S.ns ≤ 8) (h : LX T S n wh C) {C' : IM} (f : ∀ k j, k ≠ 67 → k ≠ 68 → C' k j = C k j) : LX T S n wh C' := by
  obtain ⟨h1, h2, h3, h4, h5⟩ := h
  refine ⟨h1.of fun k j q => f k j (by omega) (by omega), h2.of fun k j q => ?_, by rw [f _ _ (by omega) (by omega)]; exact h3, fun s q => by rw [f _ _ (by omega) (by omega)]; exact h4 s q, fun s q => ?_⟩
  · rcases q with q | ⟨s, q1, q2, q3⟩
    · exact f k j (by omega) (by omega)
    · exact f k j (by omega) (by omega)
  · obtain ⟨k1, k2⟩ := h5 s q
    obtain ⟨b1, b2, b3⟩ := plB_facts hT (show s < 8 by omega)
    exact ⟨by rw [f _ _ (by omega) (by omega)]; exact k1, fun p hp => by rw [f _ _ (by omega) (by omega)]; exact k2 p hp⟩
theorem best_M (hS : S.ok) (hM : RM S M) (hK : Ord (S.s_tried 0) (S.s_tried 0).ns K) : jX12_bestK M ∧ ∃ M', jX12_best M = (if ((S.s_tried 0).bstS K (2 ^ S.ns) 0 0).1 = 2 then (-1000006, jX12_findsM M') else (nI ((S.s_tried 0).bstS K (2 ^ S.ns) 0 0).2.1, M')) ∧ RM (S2 S ((S.s_tried 0).bstS K (2 ^ S.ns) 0 0).2.2) M' := by
  have h8 := hS.2.1.1
  have p8 : 2 ^ S.ns ≤ 256 := Nat.pow_le_pow_right (n := 2) (by omega) h8
  have f0 : ∀ k j, ¬ (k = 79 ∧ j = 5) → up2 M 79 5 0 k j = M k j := fun k j q => by rw [up2_ap, if_neg q]
  have hM1 : RM (S.s_tried 0) (up2 M 79 5 0) := hM.layer (fun k j q => f0 k j (by omega)) (fun k s q1 q2 _ => f0 k s (by omega)) (up2_at _ _ _ _)
  have hS1 := ok_tried hS 0
  unfold S2
  have ns1 : (S.s_tried 0).ns = S.ns := rfl
  obtain ⟨S1, hs1⟩ : ∃ X, X = S.s_tried 0 := ⟨_, rfl⟩
  rw [← hs1] at hM1 hS1 hK ns1 ⊢
  rw [← ns1] at h8 p8 ⊢
  obtain ⟨k1, k2, k3⟩ := keeps_M (in01 hM1.2.2.2.2.1)
  unfold jX12_bestK jX12_best
  obtain ⟨B, hB⟩ : ∃ B, B = jX12_keeps (up2 M 79 5 0) := ⟨_, rfl⟩
  rw [← hB] at k2 k3 ⊢
  let A : Nat → IM := fun k => rowU B 134 0 (fun _ => 0) k
  have go1 : Go bF bO (256 * 1) (0, 0, 0, B) (0, nI 256, 0, A 256) := by
    have := Go.loop (F := bF) (O := bO) (B := 1) (a := fun k => (0, nI k, 0, A k)) 256 fun k hk => Go.one fun n => by
      dsimp only [bF, bO]
      have c : ¬ (256 : Int32) ≤ nI k := by rw [li256]; exact fun q => absurd ((nI_leI (by omega) (by omega)).mp q) (by omega)
      have vp : vp_in (nI k) 256 := (vp_nI (by omega)).mpr hk
      have e : A (k + 1) = up2 (A k) 134 k 0 := by
        show rowU B 134 0 (fun _ => 0) (k + 1) = _
        rw [rowU_1, Nat.zero_add]
      rw [jX12_bestO_11, jX12_bestI_11, nI_clamp (by omega), nI_1, e]
      simp only [eq_false c, eq_true vp, ↓reduceIte, not_true_eq_false, not_false_eq_true, true_imp_iff, false_imp_iff, implies_true, and_true, true_and, eq_self]
      first | exact id | exact ⟨id, rfl⟩
    rw [show A 0 = B from rowU_0 _ _ _ _] at this
    exact this
  have go2 : Go bF bO 1 (0, nI 256, 0, A 256) (1, 0, 0, A 256) := Go.one fun n => by
    dsimp only [bF, bO]
    have c : (256 : Int32) ≤ nI 256 := by rw [li256]; exact (nI_leI (by omega) (by omega)).mpr (Nat.le_refl _)
    rw [jX12_bestO_11, jX12_bestI_11]
    simp only [eq_true c, ↓reduceIte, not_true_eq_false, not_false_eq_true, true_imp_iff, false_imp_iff, implies_true, and_true, true_and, eq_self]
    first | exact id | exact ⟨id, rfl⟩
  have fA : ∀ k j, k ≠ 134 → A 256 k j = B k j := fun k j q => rowU_ne (by omega)
  have fAB : ∀ k j, k ≠ 134 → ¬ (128 ≤ k ∧ k ≤ 133) → ¬ (k = 79 ∧ j = 5) → A 256 k j = M k j := fun k j q1 q2 q3 => by rw [fA k j q1, k2 _ _ q2]; exact f0 _ _ q3
  have b1 : mNet S1 (A 256) := by
    have e : ∀ k j, k ≠ 134 → ¬ (128 ≤ k ∧ k ≤ 133) → A 256 k j = up2 M 79 5 0 k j := fun k j q1 q2 => by rw [fA k j q1, k2 _ _ q2]
    exact hM1.1.of (e _ _ (by omega) (by omega)) (e _ _ (by omega) (by omega)) fun k q => funext fun j => e _ _ (by omega) (by omega)
  have b2 : mSl S1 (A 256) := by
    have e : ∀ k j, k ≠ 134 → ¬ (128 ≤ k ∧ k ≤ 133) → A 256 k j = up2 M 79 5 0 k j := fun k j q1 q2 => by rw [fA k j q1, k2 _ _ q2]
    exact hM1.2.2.1.of (e _ _ (by omega) (by omega)) fun k q1 q2 => funext fun j => e _ _ (by omega) (by omega)
  have kp : ∀ k s, 106 ≤ k → k ≤ 111 → s < 8 → A 256 (k + 22) s = M k s := fun k s q1 q2 q3 => by rw [fA _ _ (by omega), k3 k s q1 q2 q3]; exact f0 _ _ (by omega)
  obtain ⟨M', t1, t2, t3, t4⟩ := best_loop hS1.1 hS1.2.1 hK (2 ^ S1.ns) 0 0 (A 256) (by omega) (by omega) b1 b2 (by rw [fA _ _ (by omega), k2 _ _ (by omega), up2_at]; rfl) (fun s hs => by rw [kp 106 s (by omega) (by omega) hs]; exact in01 hM.2.2.2.2.1 s hs) (fun x hx => by
      have z : A 256 134 x = 0 := by
        have : A 256 134 (0 + x) = 0 := rowU_at (show x < 256 by omega)
        rw [Nat.zero_add] at this; exact this
      exact ⟨fun _ ⟨i, i1, _⟩ => by omega, fun _ => z⟩) (fun i hi => by omega) _ rfl
  obtain ⟨r1, r2⟩ := ((go1.trans go2).ends t4).use (f := FU) (by rw [FU_eq]; omega)
  refine ⟨⟨k1, r1⟩, M', r2, hM1.layer (fun k j q => ?_) (fun k s q1 q2 q3 => ?_) t2⟩
  · rw [t1 _ _ (by omega) (by omega) (by omega) (by omega), fAB _ _ (by omega) (by omega) (by omega), f0 _ _ (by omega)]
  · rw [t3 k s q1 q2 q3, kp k s q1 q2 q3, f0 _ _ (by omega)]
theorem sim_best {I : IM} : SimR T I (jBestK T I) (jBest T I).1 (jBest T I).2.1 (jBest T I).2.2 (fun M => jX12_bestK M) (fun M => (jX12_best M).1) (fun M => (jX12_best M).2) := by
  intro S hL hP hT hS hC
  have h8 := hS.2.1.1
  obtain ⟨mc, ms, k1, b1, b2, b3, b4, b5, ⟨d, b6, b7, b8⟩, b9, n, wh, b10, b11⟩ := begin_spec hL hP hT hS hC
  have hS1 := ok_tried hS 0
  obtain ⟨o1, C1, K, o2, o3, o4, o5⟩ := order_C (S := S.s_tried 0) (C := (jBeg T I).2) hS1.2.1 b4.2.2.2.1.1 (fun s hs => (b4.2.2.2.1.2 s (by have : s < S.ns := hs; omega)).2.2.2.2.2.2.2.1)
  have x1 := LX.fr67 (S := S.s_tried 0) b3 hS1.2.1.1 b11 o3
  have t1 : cTri C1 := b4.tri.of fun k q1 q2 => funext fun j => o3 k j (by omega) (by omega)
  obtain ⟨r0, r00, C', r1, r2, r3, r4, r5⟩ := dear_C b10 o4 (2 ^ S.ns) 0 0 C1 (by show 0 + 2 ^ S.ns = 2 ^ S.ns; omega) (by omega) x1 t1 (by rw [o3 _ _ (by omega) (by omega)]; exact b4.try11) (by rw [o3 _ _ (by omega) (by omega)]; exact b5) o5 (fun i hi => by omega) _ rfl
  have p8 : 2 ^ S.ns ≤ 256 := Nat.pow_le_pow_right (n := 2) (by omega) h8
  obtain ⟨u1, u2⟩ := r5.use (f := FU) (by rw [FU_eq]; omega)
  have DK : jX3_dearestK (jBeg T I).1 (jBeg T I).2 := ⟨o1, by rw [o2]; exact u1⟩
  obtain ⟨X, hX⟩ : ∃ X, X = (S.s_tried 0).bstS K (2 ^ S.ns) 0 0 := ⟨_, rfl⟩
  rw [← hX] at r0 r00 r3 r4 u2
  have DV : jX3_dearest (jBeg T I).1 (jBeg T I).2 = (nI X.2.1, C') := by unfold jX3_dearest; rw [o2]; exact u2
  have fC : ∀ k j, ¬ (56 ≤ k ∧ k ≤ 68) → C' k j = (jBeg T I).2 k j := fun k j q => by rw [r1 k j (by omega) (by omega) (by omega)]; exact o3 k j (by omega) (by omega)
  have RC' : RC (jBeg T I).1 (S2 S X.2.2) C' := b4.layer b3 hS1 fC r2 r3
  have S2ok : (S2 S X.2.2).ok := ok_tried hS1 _
  have ph : phi C' 8 = phi (jBeg T I).2 8 := phi_of fun i hi => fC _ _ (by omega)
  have h79 : ∀ k, 79 ≤ k → k < 136 → C' k = I k := fun k q1 q2 => by rw [← b9 k q1 q2]; exact funext fun j => fC k j (by omega)
  unfold jBest
  dsimp only
  unfold jBestR jBestRM
  rw [DV]
  dsimp only
  have z10 : ¬ (1 : Int32) = 0 := by decide
  refine ⟨mc, ms, ⟨k1, DK⟩, b1, b2, b3, ⟨d, b6, b7, ?_⟩, fun k q1 q2 => ?_, fun M hM => ?_⟩
  · split
    · rw [ph]; exact b8
    · rw [phi_fnd, ph]; exact b8
  · split
    · exact h79 k q1 q2
    · rw [fnd_79 _ k q1 q2]; exact h79 k q1 q2
  · obtain ⟨m1, M', m2, m3⟩ := best_M hS hM o4
    rw [← hX] at m2 m3
    refine ⟨m1, ?_⟩
    rw [m2]
    rcases r0 with e | e
    · rw [if_neg (show ¬ X.1 = 2 by omega)] at r4
      rw [if_pos r4, if_pos r4, if_neg (show ¬ X.1 = 2 by omega)]
      exact ⟨rfl, _, S2ok, RC', m3⟩
    · rw [if_pos e] at r4
      have r4' : ¬ C' 56 12 = 0 := by rw [r4]; exact z10
      rw [if_neg r4', if_neg r4', if_pos e]
      exact ⟨rfl, bad b3 S2ok RC' m3⟩
end BE
end
