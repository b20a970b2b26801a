noncomputable section
section BG
variable {T : Topo} {S : St} {C : IM}
theorem RC.layer (hT : PlS T) (hS : S.ok) (hC : RC T S C) {v : Int32} {C' : IM} (f : ∀ k j, ¬ (56 ≤ k ∧ k ≤ 68) → C' k j = C k j) (ht : cTri C') (h11 : C' 56 11 = v) : RC T (S.s_tried v) C' := by
  have hK : Core S (S.s_tried v) := ⟨rfl, rfl, rfl, rfl, rfl, rfl, rfl, rfl, rfl, rfl, rfl, rfl, rfl, rfl, rfl, rfl, rfl, rfl, rfl, rfl⟩
  obtain ⟨h1, h2, h3, h4, h5, h6, h7, ⟨h8, h8'⟩, h9, h10, h11', h12, h13, h14, h15⟩ := hC
  have h8n := hS.2.1.1
  have f' : ∀ k, ¬ (56 ≤ k ∧ k ≤ 68) → C' k = C k := fun k q => funext fun j => f k j q
  have hw : cWays S C' := h10.of fun k q => f' k (by omega)
  have hp : cPlc T S C' := h11'.of hT fun i hi => ⟨f _ _ (by omega), f _ _ (by omega), f' _ (by have := (hT i hi).1; omega)⟩
  refine ⟨h1.of fun k j q => f k j (by omega), h2.of fun k j q1 q2 q3 => f k j (by omega), h3.of (f _ _ (by omega)), h4.of fun k j q => ?_, by rw [hK.cTk]; exact h5.of fun s hs => f _ _ (by omega), h6.of fun s hs => f _ _ (by omega), h7.of fun s j hs q1 q2 => f _ _ (by omega), ⟨by rw [f _ _ (by omega)]; exact h8, by rw [hK.cBk, hK.does]; exact h8'.of fun k q1 q2 => f' k (by omega)⟩, ht, hK.cWays hw, hK.cPlc hS.1 hS.2.1 hp, h12.of (f' _ (by omega)), h13.of (f _ _ (by omega)), h11, h15.of fun k q1 q2 => f' k (by omega)⟩
  exact f k j (by rcases q with q | ⟨s, q1, q2, q3⟩ <;> omega)
theorem RC.tri (h : RC T S C) : cTri C := h.2.2.2.2.2.2.2.2.1
theorem RC.try11 (h : RC T S C) : C 56 11 = S.tried := h.2.2.2.2.2.2.2.2.2.2.2.2.2.1
theorem ok_tried (hS : S.ok) (v : Int32) : (S.s_tried v).ok := by
  have hK : Core S (S.s_tried v) := ⟨rfl, rfl, rfl, rfl, rfl, rfl, rfl, rfl, rfl, rfl, rfl, rfl, rfl, rfl, rfl, rfl, rfl, rfl, rfl, rfl⟩
  exact ⟨hS.1, hS.2.1, hS.2.2.1, hS.2.2.2.1, by rw [hK.plOk]; exact hS.2.2.2.2.1, by rw [hK.allOk, hK.does]; exact hS.2.2.2.2.2⟩
theorem RC.layer0 (hT : PlS T) (hC : RC T S C) (h8n : S.ns ≤ 8) {C' : IM} (f : ∀ k j, ¬ (56 ≤ k ∧ k ≤ 68) → C' k j = C k j) (ht : cTri C') (h11 : C' 56 11 = C 56 11) : RC T S C' := by
  obtain ⟨h1, h2, h3, h4, h5, h6, h7, ⟨h8, h8'⟩, h9, h10, h11', h12, h13, h14, h15⟩ := hC
  have f' : ∀ k, ¬ (56 ≤ k ∧ k ≤ 68) → C' k = C k := fun k q => funext fun j => f k j q
  refine ⟨h1.of fun k j q => f k j (by omega), h2.of fun k j q1 q2 q3 => f k j (by omega), h3.of (f _ _ (by omega)), h4.of fun k j q => ?_, h5.of fun s hs => f _ _ (by omega), h6.of fun s hs => f _ _ (by omega), h7.of fun s j hs q1 q2 => f _ _ (by omega), ⟨by rw [f _ _ (by omega)]; exact h8, h8'.of fun k q1 q2 => f' k (by omega)⟩, ht, h10.of fun k q => f' k (by omega), h11'.of hT fun i hi => ⟨f _ _ (by omega), f _ _ (by omega), f' _ (by have := (hT i hi).1; omega)⟩, h12.of (f' _ (by omega)), h13.of (f _ _ (by omega)), h14.of h11, h15.of fun k q1 q2 => f' k (by omega)⟩
  exact f k j (by rcases q with q | ⟨s, q1, q2, q3⟩ <;> omega)
def BS (T : Topo) (S : St) (k : Nat) (C : IM) : Prop := ∀ i, i < k → KeptS T i (S.ups i) C ∧ (S.plist i).length ≤ tL T (plA T i)
theorem beg_loop (hS : S.ok) : ∀ (m k : Nat) (T : Topo) (I : IM), k + m = S.ns → Lay T → Pl T → PlS T → RC T S I → BS T S k I →
    ∃ T' I' mc ms, (∃ d, mc ≤ 2 * d ∧ ms ≤ 8748 * d ∧ phi I 8 + d ≤ phi I' 8) ∧ Lay T' ∧ Pl T' ∧ PlS T' ∧ RC T' S I' ∧ BS T' S S.ns I' ∧ (∀ k, 79 ≤ k → k < 136 → I' k = I k) ∧ I' 56 = I 56 ∧ ∀ n, m + 1 ≤ n → jBegI n (nI k) T I = (T', jX3_findUnlikeTicks I') ∧ ∀ Cx Sx c sl, c + mc ≤ Cx → sl + ms ≤ Sx → jX3_findUnlikeTicksK I' → jBegO Cx Sx n (nI k) T I c sl
  | 0, k, T, I, hk, hL, hP, hT, hC, hB => by
    have h8 := hS.2.1.1
    have hk' : k = S.ns := by omega
    subst hk'
    refine ⟨T, I, 0, 0, ⟨0, by omega, by omega, Nat.le_refl _⟩, hL, hP, hT, hC, hB, fun _ _ _ => rfl, rfl, fun n hn => ?_⟩
    obtain ⟨m, rfl⟩ : ∃ m, n = m + 1 := ⟨n - 1, by omega⟩
    have e : I 15 1 ≤ nI S.ns := by rw [hC.2.2.2.1.1]; exact (nI_leI (by omega) (by omega)).mpr (Nat.le_refl _)
    refine ⟨if_pos e, fun Cx Sx c sl _ _ hu => ?_⟩
    exact ⟨fun _ => hu, fun q => absurd e q⟩
  | m + 1, k, T, I, hk, hL, hP, hT, hC, hB => by
    have h8 := hS.2.1.1
    have hk' : k < S.ns := by omega
    obtain ⟨mc, ms, k1, f1, f2, f3, f4, f5, f6, f7, ⟨d, f8, f9, f10⟩, f11, f12⟩ := findP_spec hL hP hT hS hC hk'
    obtain ⟨T1, hT1⟩ : ∃ x, x = (jFindP T I k k).1 := ⟨_, rfl⟩
    obtain ⟨I1, hI1⟩ : ∃ x, x = (jFindP T I k k).2 := ⟨_, rfl⟩
    rw [← hT1] at f1 f2 f3 f4 f5 f11
    rw [← hI1] at f4 f5 f6 f7 f10 f11 f12
    obtain ⟨u1, u2, u3⟩ := keepUp_C f3 hS f4 hk' f5
    obtain ⟨I2, hI2⟩ : ∃ x, x = jX6_keepUp T1 I1 k := ⟨_, rfl⟩
    rw [← hI2] at u2 u3
    obtain ⟨b1, b2, b3⟩ := plB_facts f3 (show k < 8 by omega)
    have hC2 := f4.frk f3 hS (show k < 8 by omega) u3
    have hB2 : BS T1 S (k + 1) I2 := fun i hi => by
      by_cases e : i = k
      · subst e; exact ⟨u2, f5.2.1⟩
      · obtain ⟨o1, o2, o3, o4, o5, o6, o7, o8, o9⟩ := f11 i (by omega) e
        obtain ⟨⟨v1, v2⟩, v3⟩ := hB i (by omega)
        obtain ⟨-, -, -, -, -, -, z7, z8⟩ := f3 i (by omega)
        have nb := (z8 k (by omega) e).2
        obtain ⟨c1, -⟩ := plB_facts f3 (show i < 8 by omega)
        refine ⟨⟨?_, fun p hp => ?_⟩, ?_⟩
        · rw [u3 _ _ (by omega) (by omega), o3]; exact v1
        · rw [u3 _ _ (by omega) nb, o5, o9]; exact v2 p hp
        · rw [o4, o6]; exact v3
    obtain ⟨T', I', mc', ms', ⟨d', g1, g2, g3⟩, g4, g5, g6, g7, g8, g9, g10, g11⟩ := beg_loop hS m (k + 1) T1 I2 (by omega) f1 f2 f3 hC2 hB2
    have ph : phi I2 8 = phi I1 8 := phi_of fun i hi => u3 _ _ (by omega) (by omega)
    refine ⟨T', I', mc + mc', ms + ms', ⟨d + d', by omega, by omega, by omega⟩, g4, g5, g6, g7, g8, fun x q1 q2 => ?_, ?_, fun n hn => ?_⟩
    · rw [g9 x q1 q2, ← f7 x q1 q2]
      exact funext fun j => u3 _ _ (by omega) (by omega)
    · rw [g10, ← f12]
      exact funext fun j => u3 _ _ (by omega) (by omega)
    · obtain ⟨n', rfl⟩ : ∃ m, n = m + 1 := ⟨n - 1, by omega⟩
      have e : ¬ I 15 1 ≤ nI k := by rw [hC.2.2.2.1.1]; exact fun q => absurd ((nI_leI (by omega) (by omega)).mp q) (by omega)
      have v8 : vp_in (nI k) 8 := (vp_nI (by omega)).mpr (by omega)
      obtain ⟨w1, w2⟩ := g11 n' (by omega)
      constructor
      · show (if I 15 1 ≤ nI k then _ else jBegI n' (nI k + 1) (jFindP T I (nI k).toNatClampNeg (nI k).toNatClampNeg).1 (jX6_keepUp (jFindP T I (nI k).toNatClampNeg (nI k).toNatClampNeg).1 (jFindP T I (nI k).toNatClampNeg (nI k).toNatClampNeg).2 (nI k).toNatClampNeg)) = _
        rw [if_neg e, nI_1, nI_clamp (by omega), ← hT1, ← hI1, ← hI2]
        exact w1
      · intro Cx Sx c sl q1 q2 hu
        refine ⟨fun q => absurd q e, fun _ => ⟨v8, mc, ms, ?_⟩⟩
        rw [nI_1, nI_clamp (by omega), ← hT1, ← hI1, ← hI2]
        exact ⟨k1, by omega, by omega, u1, w2 Cx Sx (c + mc) (sl + ms) (by omega) (by omega) hu⟩
/-- ahead of the sets of one call -/
theorem begin_spec (hL : Lay T) (hP : Pl T) (hT : PlS T) (hS : S.ok) (hC : RC T S C) : ∃ mc ms, jBegK T C mc ms ∧ Lay (jBeg T C).1 ∧ Pl (jBeg T C).1 ∧ PlS (jBeg T C).1 ∧ RC (jBeg T C).1 (S.s_tried 0) (jBeg T C).2 ∧ (jBeg T C).2 56 12 = 0 ∧ (∃ d, mc ≤ 2 * d ∧ ms ≤ 8748 * d ∧ phi C 8 + d ≤ phi (jBeg T C).2 8) ∧ (∀ k, 79 ≤ k → k < 136 → (jBeg T C).2 k = C k) ∧ ∃ n wh, TC (jBeg T C).1 (S.s_tried 0) n wh ∧ LX (jBeg T C).1 (S.s_tried 0) n wh (jBeg T C).2 := by
  have h8 := hS.2.1.1
  obtain ⟨A, hA⟩ : ∃ A, A = up2 (up2 C 56 11 0) 56 12 0 := ⟨_, rfl⟩
  have fA : ∀ k j, ¬ (k = 56 ∧ (j = 11 ∨ j = 12)) → A k j = C k j := fun k j q => by rw [hA, up2_ap, if_neg (by omega), up2_ap, if_neg (by omega)]
  have hA1 : RC T (S.s_tried 0) A := hC.layer hT hS (fun k j q => fA k j (by omega)) (hC.tri.of fun k q1 q2 => funext fun j => fA k j (by omega)) (by rw [hA, up2_ap, if_neg (by omega), up2_at])
  have hS1 := ok_tried hS 0
  obtain ⟨S1, hs1⟩ : ∃ X, X = S.s_tried 0 := ⟨_, rfl⟩
  rw [← hs1] at hA1 hS1 ⊢
  have h81 := hS1.2.1.1
  obtain ⟨T', I', mc, ms, ⟨d, g1, g2, g3⟩, g4, g5, g6, g7, g8, g9, g10, g11⟩ := beg_loop hS1 S1.ns 0 T A (by omega) hL hP hT hA1 fun i hi => by omega
  obtain ⟨w1, w2⟩ := g11 FU (by rw [FU_eq]; omega)
  obtain ⟨u1, u2, n, sets, u3, u4, u5⟩ := unlike_C hS1.2.1 (C := I') ⟨g7.2.2.2.1.1, g7.2.2.2.2.1⟩
  have e : jBeg T C = (T', jX3_findUnlikeTicks I') := by unfold jBeg; rw [← hA]; exact w1
  have k : jBegK T C mc ms := by unfold jBegK; rw [← hA]; exact w2 mc ms 0 0 (by omega) (by omega) u1
  refine ⟨mc, ms, k, ?_⟩
  rw [e]
  dsimp only
  obtain ⟨B, hB⟩ : ∃ B, B = jX3_findUnlikeTicks I' := ⟨_, rfl⟩
  rw [← hB] at u2 u3 ⊢
  have p0 : phi B 8 = phi I' 8 := phi_of fun i hi => u2 _ _ (by omega) (by omega) (by omega)
  have pA : phi A 8 = phi C 8 := phi_of fun i hi => fA _ _ (by omega)
  have hB2 : RC T' S1 B := g7.layer0 g6 h81 (fun k j q => u2 k j (by omega) (by omega) (by omega)) (g7.tri.of fun k q1 q2 => funext fun j => u2 k j (by omega) (by omega) (by omega)) (u2 _ _ (by omega) (by omega) (by omega))
  obtain ⟨n1, n2, n3, n4⟩ := u3
  have bl : ∀ s, bs (fun k => (sets k).testBit s) n < 2 ^ 24 := fun s => Nat.lt_of_lt_of_le (bs_lt _ _) (Nat.pow_le_pow_right (by omega) n1)
  refine ⟨g4, g5, g6, hB2, ?_, ⟨d, g1, g2, by omega⟩, fun k q1 q2 => ?_, n, fun s => bs (fun k => (sets k).testBit s) n, ⟨g6, hS1.1, hS1.2.1, n1, bl, ⟨fun t ht => ?_, fun k hk => ?_⟩, fun s hs => (g8 s hs).2⟩, hB2.1, hB2.2.2.2.1, n2, n4, fun s hs => ?_⟩
  · rw [u2 _ _ (by omega) (by omega) (by omega), g10, hA, up2_at]
  · rw [← show A k = C k from funext fun j => fA k j (by omega), ← g9 k q1 q2]
    exact funext fun j => u2 _ _ (by omega) (by omega) (by omega)
  · obtain ⟨k, k1, k2⟩ := u4 t ht
    refine ⟨k, k1, fun s hs => ?_⟩
    dsimp only
    rw [bs_bit, k2]
    unfold St.cnt
    rw [bs_bit]
    simp [k1, hs]
  · obtain ⟨t, k1, k2⟩ := u5 k hk
    refine ⟨t, k1, fun s hs => ?_⟩
    dsimp only
    rw [bs_bit, k2]
    unfold St.cnt
    rw [bs_bit]
    simp [hk, hs]
  · obtain ⟨v1, v2⟩ := (g8 s hs).1
    obtain ⟨c1, -⟩ := plB_facts g6 (show s < 8 by omega)
    exact ⟨by rw [u2 _ _ (by omega) (by omega) (by omega)]; exact v1, fun p hp => by rw [u2 _ _ (by omega) (by omega) (by omega)]; exact v2 p hp⟩
end BG
end
