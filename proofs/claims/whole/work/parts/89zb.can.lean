noncomputable section
theorem path_uniq {S : St} {b : Nat} : ∀ (p p' : List Nat) (x seen : Nat), S.path x seen b p → S.path x seen b p' → seen.testBit x = true → setOf p = setOf p' → p = p'
  | [], [], _, _, _, _, _, _ => rfl
  | [], l :: p', x, seen, h, h', _, _ => absurd h h'.1
  | l :: p, [], x, seen, h, h', _, _ => absurd h' h.1
  | l :: p, l' :: p', x, seen, ⟨h1, h2, y, h3, h4, h5⟩, ⟨h1', h2', y', h3', h4', h5'⟩, hx, e => by
    have mem : ∀ k, k ∈ l :: p ↔ k ∈ l' :: p' := fun k => by rw [← mem_set, ← mem_set, e]
    have el : l = l' := by
      by_cases c : l = l'
      · exact c
      · have m : l ∈ l' :: p' := (mem l).mp (.head _)
        cases m with
        | head => exact absurd rfl c
        | tail _ m =>
          have := path_only h3' h4' hx h5' m
          rw [h3] at this; cases this
    subst el
    have ey : y = y' := Option.some.inj (h3.symm.trans h3')
    subst ey
    have f := path_fresh h3 h4 hx h5
    have f' := path_fresh h3 h4 hx h5'
    have es : setOf p = setOf p' := set_eq fun k => by
      have hm := mem k
      by_cases c : k = l
      · subst c
        rw [Bool.eq_false_iff.mpr fun q => f ((mem_set p k).mp q), Bool.eq_false_iff.mpr fun q => f' ((mem_set p' k).mp q)]
      · have : k ∈ p ↔ k ∈ p' := by
          constructor
          · intro q
            cases hm.mp (.tail _ q) with
            | head => exact absurd rfl c
            | tail _ r => exact r
          · intro q
            cases hm.mpr (.tail _ q) with
            | head => exact absurd rfl c
            | tail _ r => exact r
        rw [← mem_set, ← mem_set] at this
        exact Bool.eq_iff_iff.mpr this
    rw [path_uniq p p' y (seen ||| 2 ^ y) h5 h5' (by rw [Nat.testBit_or, pow_bit]; simp) es]
section CN
variable {T : Topo} {S : St} {C M : IM}
theorem isSet (h8 : S.ns ≤ 8) (a1 : Int32) : (∃ set, set < 2 ^ S.ns ∧ a1 = nI set) ∧ (if a1 < 0 then (0 : Int32) else if (1 : Int32) <<< (nI S.ns &&& 31) ≤ a1 then 0 else 1) = 1 ∨ (¬ ∃ set, set < 2 ^ S.ns ∧ a1 = nI set) ∧ (if a1 < 0 then (0 : Int32) else if (1 : Int32) <<< (nI S.ns &&& 31) ≤ a1 then 0 else 1) = 0 := by
  have p8 : 2 ^ S.ns ≤ 256 := Nat.pow_le_pow_right (n := 2) (by omega) h8
  rw [one_nI (by omega)]
  by_cases c : a1 < 0
  · refine .inr ⟨fun ⟨x, h1, h2⟩ => ?_, if_pos c⟩
    subst h2
    exact nI_nn (by omega) c
  · rw [if_neg c]
    obtain ⟨x, hx, rfl⟩ := nI_of (x := a1) c
    by_cases d : 2 ^ S.ns ≤ x
    · refine .inr ⟨fun ⟨y, h1, h2⟩ => ?_, if_pos ((nI_leI (by omega) hx).mpr d)⟩
      have := (nI_eq hx (by omega)).mp h2
      omega
    · exact .inl ⟨⟨x, by omega, rfl⟩, if_neg fun q => d ((nI_leI (by omega) hx).mp q)⟩
theorem have_C (hS : S.ok) (hC : RC T S C) (a1 : Int32) : (∃ set, set < 2 ^ S.ns ∧ a1 = nI set) ∧ jX9_haveAll C a1 = 1 ∨ (¬ ∃ set, set < 2 ^ S.ns ∧ a1 = nI set) ∧ jX9_haveAll C a1 = 0 := by
  unfold jX9_haveAll
  rw [hC.2.2.2.1.1]
  exact isSet hS.2.1.1 a1
theorem have_M (hS : S.ok) (hM : RM S M) (a1 : Int32) : (∃ set, set < 2 ^ S.ns ∧ a1 = nI set) ∧ jX12_isOfThem M a1 = 1 ∨ (¬ ∃ set, set < 2 ^ S.ns ∧ a1 = nI set) ∧ jX12_isOfThem M a1 = 0 := by
  unfold jX12_isOfThem
  rw [hM.2.2.1.1]
  exact isSet hS.2.1.1 a1
/-- what was IN is kept, and put back -/
def Kp (M M' : IM) : Prop := ∀ k s, 106 ≤ k → k ≤ 111 → s < 8 → M' (k + 22) s = M k s
theorem keeps_M (h01 : ∀ s, s < 8 → M 106 s = 0 ∨ M 106 s = 1) : jX12_keepsK M ∧ (∀ k j, ¬ (128 ≤ k ∧ k ≤ 133) → jX12_keeps M k j = M k j) ∧ Kp M (jX12_keeps M) := by
  unfold jX12_keepsK jX12_keeps
  obtain ⟨⟨v, M'⟩, ⟨e, p1, p2⟩, go⟩ := Go.loopE (F := fun m (t : Int32 × IM) => jX12_keepsI m t.1 t.2) (O := fun m t => jX12_keepsO m t.1 t.2) (B := 1) (P := fun k t => t.1 = nI k ∧ (∀ a b, ¬ (128 ≤ a ∧ a ≤ 133) → t.2 a b = M a b) ∧ ∀ a s, 106 ≤ a → a ≤ 111 → s < k → t.2 (a + 22) s = M a s) 8
    (fun k hk t ht => by
      obtain ⟨v, I⟩ := t
      obtain ⟨e, p1, p2⟩ := ht
      dsimp only at e p1 p2
      subst e
      have c0 : ¬ 8 ≤ k := by omega
      have v8 : vp_in (nI k) 8 := (vp_nI (by omega)).mpr hk
      have o1 : I 106 k = 0 ∨ I 106 k = 1 := by rw [p1 _ _ (by omega)]; exact h01 k hk
      refine ⟨(nI (k + 1), up2 (up2 (up2 (up2 (up2 (up2 I 128 k (I 106 k)) 129 k (I 107 k)) 130 k (I 108 k)) 131 k (I 109 k)) 132 k (I 110 k)) 133 k (I 111 k)), ⟨rfl, fun a b q => ?_, fun a s q1 q2 q3 => ?_⟩, Go.one fun m => ?_⟩
      · dsimp only
        rw [up2_ap, if_neg (by omega), up2_ap, if_neg (by omega), up2_ap, if_neg (by omega), up2_ap, if_neg (by omega), up2_ap, if_neg (by omega), up2_ap, if_neg (by omega)]
        exact p1 a b q
      · dsimp only
        by_cases es : s = k
        · subst es
          have ha : a = 106 ∨ a = 107 ∨ a = 108 ∨ a = 109 ∨ a = 110 ∨ a = 111 := by omega
          rw [← p1 a s (by omega)]
          rcases ha with rfl | rfl | rfl | rfl | rfl | rfl <;> simp [up2_ap]
        · rw [up2_ap, if_neg (by omega), up2_ap, if_neg (by omega), up2_ap, if_neg (by omega), up2_ap, if_neg (by omega), up2_ap, if_neg (by omega), up2_ap, if_neg (by omega)]
          exact p2 a s q1 q2 (by omega)
      · dsimp only
        rw [jX12_keepsO_2, jX12_keepsI_2, li8, nI_clamp (n := k) (by omega), nI_1]
        simp (disch := omega) only [nI_leI, eq_false c0, eq_true v8, eq_true o1, ↓reduceIte, not_true_eq_false, not_false_eq_true, true_imp_iff, false_imp_iff, implies_true, and_true, true_and, eq_self]
        first | exact id | exact ⟨id, rfl⟩) (nI 0, M) ⟨rfl, fun _ _ _ => rfl, fun a s _ _ q => by omega⟩
  dsimp only at e p1 p2
  subst e
  have E := go.ends (B2 := 1) (b := M') (Ends.one fun m => by
    dsimp only
    rw [jX12_keepsO_2, jX12_keepsI_2, li8]
    simp (disch := omega) only [nI_leI, eq_true (Nat.le_refl 8), ↓reduceIte, not_true_eq_false, not_false_eq_true, true_imp_iff, false_imp_iff, implies_true, and_true, true_and, eq_self])
  obtain ⟨r1, r2⟩ := E.use (f := FU) (by rw [FU_eq]; omega)
  dsimp only at r1 r2
  rw [← li0] at r1 r2
  rw [r2]
  exact ⟨r1, p1, p2⟩
theorem back_M (h01 : ∀ s, s < 8 → M 128 s = 0 ∨ M 128 s = 1) : jX12_backToK M ∧ (∀ k j, ¬ (106 ≤ k ∧ k ≤ 111) → jX12_backTo M k j = M k j) ∧ ∀ k s, 106 ≤ k → k ≤ 111 → s < 8 → jX12_backTo M k s = M (k + 22) s := by
  unfold jX12_backToK jX12_backTo
  obtain ⟨⟨v, M'⟩, ⟨e, p1, p2⟩, go⟩ := Go.loopE (F := fun m (t : Int32 × IM) => jX12_backToI m t.1 t.2) (O := fun m t => jX12_backToO m t.1 t.2) (B := 1) (P := fun k t => t.1 = nI k ∧ (∀ a b, ¬ (106 ≤ a ∧ a ≤ 111) → t.2 a b = M a b) ∧ ∀ a s, 106 ≤ a → a ≤ 111 → s < k → t.2 a s = M (a + 22) s) 8
    (fun k hk t ht => by
      obtain ⟨v, I⟩ := t
      obtain ⟨e, p1, p2⟩ := ht
      dsimp only at e p1 p2
      subst e
      have c0 : ¬ 8 ≤ k := by omega
      have v8 : vp_in (nI k) 8 := (vp_nI (by omega)).mpr hk
      have o1 : I 128 k = 0 ∨ I 128 k = 1 := by rw [p1 _ _ (by omega)]; exact h01 k hk
      refine ⟨(nI (k + 1), up2 (up2 (up2 (up2 (up2 (up2 I 106 k (I 128 k)) 107 k (I 129 k)) 108 k (I 130 k)) 109 k (I 131 k)) 110 k (I 132 k)) 111 k (I 133 k)), ⟨rfl, fun a b q => ?_, fun a s q1 q2 q3 => ?_⟩, Go.one fun m => ?_⟩
      · dsimp only
        rw [up2_ap, if_neg (by omega), up2_ap, if_neg (by omega), up2_ap, if_neg (by omega), up2_ap, if_neg (by omega), up2_ap, if_neg (by omega), up2_ap, if_neg (by omega)]
        exact p1 a b q
      · dsimp only
        by_cases es : s = k
        · subst es
          have ha : a = 106 ∨ a = 107 ∨ a = 108 ∨ a = 109 ∨ a = 110 ∨ a = 111 := by omega
          rw [← p1 (a + 22) s (by omega)]
          rcases ha with rfl | rfl | rfl | rfl | rfl | rfl <;> simp [up2_ap]
        · rw [up2_ap, if_neg (by omega), up2_ap, if_neg (by omega), up2_ap, if_neg (by omega), up2_ap, if_neg (by omega), up2_ap, if_neg (by omega), up2_ap, if_neg (by omega)]
          exact p2 a s q1 q2 (by omega)
      · dsimp only
        rw [jX12_backToO_2, jX12_backToI_2, li8, nI_clamp (n := k) (by omega), nI_1]
        simp (disch := omega) only [nI_leI, eq_false c0, eq_true v8, eq_true o1, ↓reduceIte, not_true_eq_false, not_false_eq_true, true_imp_iff, false_imp_iff, implies_true, and_true, true_and, eq_self]
        first | exact id | exact ⟨id, rfl⟩) (nI 0, M) ⟨rfl, fun _ _ _ => rfl, fun a s _ _ q => by omega⟩
  dsimp only at e p1 p2
  subst e
  have E := go.ends (B2 := 1) (b := M') (Ends.one fun m => by
    dsimp only
    rw [jX12_backToO_2, jX12_backToI_2, li8]
    simp (disch := omega) only [nI_leI, eq_true (Nat.le_refl 8), ↓reduceIte, not_true_eq_false, not_false_eq_true, true_imp_iff, false_imp_iff, implies_true, and_true, true_and, eq_self])
  obtain ⟨r1, r2⟩ := E.use (f := FU) (by rw [FU_eq]; omega)
  dsimp only at r1 r2
  rw [← li0] at r1 r2
  rw [r2]
  exact ⟨r1, p1, p2⟩
theorem mPl.of8 {P : Nat → Nat} (h : mPl S P M) {M' : IM} (f : ∀ k s, 106 ≤ k → k ≤ 111 → s < 8 → M' k s = M k s) : mPl S P M' := fun s hs => by
  rw [f 106 s (by omega) (by omega) hs, f 107 s (by omega) (by omega) hs, f 108 s (by omega) (by omega) hs, f 109 s (by omega) (by omega) hs, f 110 s (by omega) (by omega) hs, f 111 s (by omega) (by omega) hs]
  exact h s hs
theorem RM.layer (hM : RM S M) {v : Int32} {M' : IM} (f : ∀ k j, (k = 79 ∧ j ≠ 5) ∨ (80 ≤ k ∧ k ≤ 105) ∨ (112 ≤ k ∧ k ≤ 114) → M' k j = M k j) (g : ∀ k s, 106 ≤ k → k ≤ 111 → s < 8 → M' k s = M k s) (h5 : M' 79 5 = v) : RM (S.s_tried v) M' := by
  obtain ⟨h1, h2, h3, h4, h5', h6, h7, h8, h9⟩ := hM
  have f' : ∀ k, (80 ≤ k ∧ k ≤ 105) ∨ (112 ≤ k ∧ k ≤ 114) → M' k = M k := fun k q => funext fun j => f k j (by omega)
  have hK : Core S (S.s_tried v) := ⟨rfl, rfl, rfl, rfl, rfl, rfl, rfl, rfl, rfl, rfl, rfl, rfl, rfl, rfl, rfl, rfl, rfl, rfl, rfl, rfl⟩
  have hp : mPl (S.s_tried v) S.pl M' := by rw [hK.mPl]; exact h5'.of8 g
  exact ⟨h1.of (f _ _ (by omega)) (f _ _ (by omega)) fun k q => f' k (by omega), h2.of fun k q1 q2 => f' k (by omega), h3.of (f _ _ (by omega)) fun k q1 q2 => f' k (by omega), h4.of fun k q1 q2 => f' k (by omega), hp, h6.of fun j q => f _ _ (by omega), h7.of (f _ _ (by omega)), h5, h9.of fun k q1 q2 => f' k (by omega)⟩
theorem in01 {P : Nat → Nat} (h : mPl S P M) : ∀ s, s < 8 → M 106 s = 0 ∨ M 106 s = 1 := fun s hs => by
  by_cases c : P s = 0
  · exact .inl ((h s hs).1 c)
  · exact .inr ((h s hs).2 c).1
/-- the reference: a set is laid, and what was IN is there again -/
def S2 (S : St) (q : Nat) : St := (S.s_tried 0).s_tried (nI q)
theorem lb_M (hS : S.ok) (hM : RM S M) {set : Nat} (hset : set < 256) : jX12_keepsK (up2 M 79 5 0) ∧ jX12_laysK (jX12_keeps (up2 M 79 5 0)) (nI set) ∧ ∃ A, jX12_lays (jX12_keeps (up2 M 79 5 0)) (nI set) = (cdR ((S.s_tried 0).lays set 0).1, A) ∧ Kp M A ∧ FrL (jX12_keeps (up2 M 79 5 0)) A ∧ A 79 5 = nI ((S.s_tried 0).lays set 0).2.1 ∧ (∀ k j, (k = 79 ∧ j ≠ 5) ∨ (80 ≤ k ∧ k ≤ 105) ∨ (112 ≤ k ∧ k ≤ 114) → A k j = M k j) ∧ (((S.s_tried 0).lays set 0).1 = 1 → mPl (S.s_tried 0) ((S.s_tried 0).lays set 0).2.2 A) ∧ jX12_backToK A ∧ RM (S2 S ((S.s_tried 0).lays set 0).2.1) (jX12_backTo A) := by
  have f0 : ∀ k j, ¬ (k = 79 ∧ j = 5) → up2 M 79 5 0 k j = M k j := fun k j q => by rw [up2_ap, if_neg q]
  have hM1 : RM (S.s_tried 0) (up2 M 79 5 0) := hM.layer (fun k j q => f0 k j (by omega)) (fun k s q1 q2 _ => f0 k s (by omega)) (up2_at _ _ _ _)
  have hS1 := ok_tried hS 0
  unfold S2
  obtain ⟨S1, hs1⟩ : ∃ X, X = S.s_tried 0 := ⟨_, rfl⟩
  rw [← hs1] at hM1 hS1 ⊢
  obtain ⟨k1, k2, k3⟩ := keeps_M (in01 hM1.2.2.2.2.1)
  obtain ⟨B, hB⟩ : ∃ B, B = jX12_keeps (up2 M 79 5 0) := ⟨_, rfl⟩
  rw [← hB] at k2 k3 ⊢
  have b1 : mNet S1 B := hM1.1.of (k2 _ _ (by omega)) (k2 _ _ (by omega)) fun k q => funext fun j => k2 _ _ (by omega)
  have b2 : mSl S1 B := hM1.2.2.1.of (k2 _ _ (by omega)) fun k q1 q2 => funext fun j => k2 _ _ (by omega)
  obtain ⟨l1, A, l2, l3, l4, l5⟩ := lays_M hS1.1 hS1.2.1 (set := set) (q := 0) (by omega) (by omega) b1 b2 (by rw [k2 _ _ (by omega), up2_at]; rfl)
  have kA : Kp M A := fun k s q1 q2 q3 => by rw [l3 _ _ (by omega) (by omega) (by omega), k3 k s q1 q2 q3, f0 _ _ (by omega)]
  obtain ⟨r1, r2, r3⟩ := back_M (M := A) fun s hs => by rw [kA 106 s (by omega) (by omega) hs]; exact in01 hM.2.2.2.2.1 s hs
  have fA : ∀ k j, (k = 79 ∧ j ≠ 5) ∨ (80 ≤ k ∧ k ≤ 105) ∨ (112 ≤ k ∧ k ≤ 114) → A k j = M k j := fun k j q => by
    rw [l3 _ _ (by omega) (by omega) (by omega), k2 _ _ (by omega), f0 _ _ (by omega)]
  refine ⟨k1, l1, A, l2, kA, l3, l4, fA, l5, r1, hM1.layer (fun k j q => ?_) (fun k s q1 q2 q3 => ?_) ?_⟩
  · rw [r2 _ _ (by omega), fA k j q, f0 _ _ (by omega)]
  · rw [r3 k s q1 q2 q3, kA k s q1 q2 q3, f0 _ _ (by omega)]
  · rw [r2 _ _ (by omega)]; exact l4
/-- the class: a set is laid -/
theorem lb_C (hT : PlS T) (hS : S.ok) (hC : RC T (S.s_tried 0) C) (h12 : C 56 12 = 0) {n : Nat} {wh : Nat → Nat} (hc : TC T (S.s_tried 0) n wh) (hX : LX T (S.s_tried 0) n wh C) {set : Nat} (hset : set < 256) : jX3_laidK T C (nI set) ∧ ∃ C', jX3_laid T C (nI set) = ((if ((S.s_tried 0).lays set 0).1 = 1 then 1 else 0), C') ∧ FrD C C' ∧ C' 56 12 = (if ((S.s_tried 0).lays set 0).1 = 2 then 1 else 0) ∧ (((S.s_tried 0).lays set 0).1 = 1 → ∀ i, ((S.s_tried 0).lays set 0).2.2 i ≠ 0 → C' 66 i = nI (((S.s_tried 0).lays set 0).2.2 i)) ∧ RC T (S2 S ((S.s_tried 0).lays set 0).2.1) C' ∧ phi C' 8 = phi C 8 := by
  have hS1 := ok_tried hS 0
  have h11 : C 56 11 = nI 0 := hC.try11
  unfold S2
  obtain ⟨S1, hs1⟩ : ∃ X, X = S.s_tried 0 := ⟨_, rfl⟩
  rw [← hs1] at hC hS1 hc hX ⊢
  obtain ⟨l1, C', l2, l3, l4, l5, l6, l7⟩ := laid_C hc (set := set) (q := 0) (by omega) hX hC.tri (by omega) h11 h12
  exact ⟨l1, C', l2, l3, l6, l7, hC.layer hT hS1 (fun k j q => l3 k j (by omega) (by omega) (by omega)) l4 l5, phi_of fun i hi => l3 _ _ (by omega) (by omega) (by omega)⟩
end CN
end
