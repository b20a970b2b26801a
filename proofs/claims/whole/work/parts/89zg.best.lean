noncomputable section
section BE
variable {T : Topo} {S : St} {C M : IM} {n : Nat} {wh K : Nat → Nat}
def St.bstS (S : St) (K : Nat → Nat) : Nat → Nat → Nat → Nat × Nat × Nat
  | 0, _, q => (0, 0, q)
  | f + 1, j, q => if (S.lays (K j % 256) q).1 = 2 then (2, 0, (S.lays (K j % 256) q).2.1) else if (S.lays (K j % 256) q).1 = 1 then (1, K j % 256, (S.lays (K j % 256) q).2.1) else S.bstS K f (j + 1) (S.lays (K j % 256) q).2.1
theorem lays_zero (q : Nat) : (S.lays 0 q).1 = 1 := by
  have e : S.mems 0 0 S.ns = [] := by
    unfold St.mems
    rw [List.filter_eq_nil_iff]
    intro a _
    simp
  unfold St.lays
  rw [e]
theorem Ord.at' (h8 : S.ns ≤ 8) (h : Ord S S.ns K) {a : Nat} (ha : a < 2 ^ S.ns) : K a % 256 < 2 ^ S.ns ∧ K a = S.keyS (K a % 256) := by
  have p8 : 2 ^ S.ns ≤ 256 := Nat.pow_le_pow_right (n := 2) (by omega) h8
  obtain ⟨set, s1, s2⟩ := h.2.1 a ha
  have := key_mod (S := S) (set := set) (by omega)
  rw [s2, this]; exact ⟨s1, rfl⟩
theorem Ord.left (h8 : S.ns ≤ 8) (h : Ord S S.ns K) {j f : Nat} (e : j + f = 2 ^ S.ns) (hz : ∀ i, i < j → K i % 256 ≠ 0) : f ≠ 0 := fun c => by
  obtain ⟨a, a1, a2⟩ := h.2.2 0 (Nat.pow_pos (by omega))
  have : K a % 256 = 0 := by rw [a2]; exact key_mod (by omega)
  exact hz a (by omega) this
abbrev dF (T : Topo) : Nat → Int32 × Int32 × IM → Int32 × IM := fun m t => jX3_dearestI T m t.1 t.2.1 t.2.2
abbrev dO (T : Topo) : Nat → Int32 × Int32 × IM → Prop := fun m t => jX3_dearestO T m t.1 t.2.1 t.2.2
theorem dear_C (hc : TC T S n wh) (hK : Ord S S.ns K) : ∀ (f j q : Nat) (C : IM), j + f = 2 ^ S.ns → q ≤ 2000 → LX T S n wh C → cTri C → C 56 11 = nI q → C 56 12 = 0 → (∀ a, a < 2 ^ S.ns → C 67 a = nI (K a)) → (∀ i, i < j → K i % 256 ≠ 0) → ∀ X, S.bstS K f j q = X →
    (X.1 = 1 ∨ X.1 = 2) ∧ X.2.1 < 256 ∧ ∃ C', FrD C C' ∧ cTri C' ∧ C' 56 11 = nI X.2.2 ∧ C' 56 12 = (if X.1 = 2 then 1 else 0) ∧ Ends (dF T) (dO T) (f + 2) (nI (2 ^ S.ns), nI j, C) (nI X.2.1, C')
  | 0, j, q, C, hj, _, _, _, _, _, _, hz, _, _ => absurd rfl (hK.left hc.2.2.1.1 hj hz)
  | f + 1, j, q, C, hj, hq, hX, ht, h11, h12, h67, hz, X, hX' => by
    have h8 := hc.2.2.1.1
    have p8 : 2 ^ S.ns ≤ 256 := Nat.pow_le_pow_right (n := 2) (by omega) h8
    obtain ⟨a1, a2⟩ := hK.at' h8 (show j < 2 ^ S.ns by omega)
    obtain ⟨l1, A, l2, l3, l4, l5, l6, l7⟩ := laid_C hc (set := K j % 256) (q := q) (by omega) hX ht hq h11 h12
    obtain ⟨o1, o2, -⟩ := lays_ok (S := S) (set := K j % 256) hc.2.1 hc.2.2.1 hq
    have c0 : ¬ 2 ^ S.ns ≤ j := by omega
    have vj : vp_in (nI j) 256 := (vp_nI (by omega)).mpr (by omega)
    have z10 : ¬ (1 : Int32) = 0 := by decide
    have ek : nI (K j) &&& 255 = nI (K j % 256) := by
      rw [show (255 : Int32) = nI 255 from rfl, and_nI, show (255 : Nat) = 2 ^ 8 - 1 from rfl, Nat.and_two_pow_sub_one_eq_mod]
    unfold St.bstS at hX'
    obtain ⟨V, hV⟩ : ∃ V, V = S.lays (K j % 256) q := ⟨_, rfl⟩
    rw [← hV] at l2 l5 l6 o1 o2 hX'
    rcases o1 with e | e | e
    · rw [if_neg (by omega), if_neg (by omega)] at hX'
      have hz' : ∀ i, i < j + 1 → K i % 256 ≠ 0 := fun i hi c => by
        by_cases ei : i = j
        · subst ei
          rw [c] at hV
          have := lays_zero (S := S) q
          rw [← hV] at this; omega
        · exact hz i (by omega) c
      have hX2 := hX.frd hc.1 h8 l3
      rw [if_neg (show ¬ V.1 = 2 by omega)] at l6
      rw [if_neg (show ¬ V.1 = 1 by omega)] at l2
      obtain ⟨r1, r2, C', r3, r4, r5, r6, r7⟩ := dear_C hc hK f (j + 1) V.2.1 A (by omega) o2 hX2 l4 l5 l6 (fun a ha => by rw [l3 _ _ (by omega) (by omega) (by omega)]; exact h67 a ha) hz' X hX'
      refine ⟨r1, r2, C', l3.trans r3, r4, r5, r6, Ends.le (Go.ends (B1 := 1) (Go.one fun m => ?_) r7) (by omega)⟩
      dsimp only [dF, dO]
      rw [jX3_dearestO_7, jX3_dearestI_7, nI_clamp (n := j) (by omega), h67 j (by omega), ek, l2, nI_1 j, h12]
      dsimp only
      simp (disch := omega) only [nI_leI, eq_false c0, eq_true vj, eq_true l1, ↓reduceIte, not_true_eq_false, not_false_eq_true, true_imp_iff, false_imp_iff, implies_true, and_true, true_and, eq_self]
      first | exact id | exact ⟨id, rfl⟩
    · rw [if_neg (by omega), if_pos e] at hX'
      rw [← hX']
      rw [if_neg (show ¬ V.1 = 2 by omega)] at l6
      rw [if_pos e] at l2
      refine ⟨.inl rfl, by dsimp only; omega, A, l3, l4, l5, by rw [if_neg (by decide : ¬ (1 : Nat) = 2)]; exact l6, Ends.le (Ends.one fun m => ?_) (by omega)⟩
      dsimp only [dF, dO]
      rw [jX3_dearestO_7, jX3_dearestI_7, nI_clamp (n := j) (by omega), h67 j (by omega), ek, l2, h12]
      dsimp only
      simp (disch := omega) only [nI_leI, eq_false c0, eq_true vj, eq_true l1, eq_false z10, ↓reduceIte, not_true_eq_false, not_false_eq_true, true_imp_iff, false_imp_iff, implies_true, and_true, true_and, eq_self]
    · rw [if_pos e] at hX'
      rw [← hX']
      rw [if_pos e] at l6
      rw [if_neg (show ¬ V.1 = 1 by omega)] at l2
      refine ⟨.inr rfl, by dsimp only; omega, A, l3, l4, l5, by rw [if_pos rfl]; exact l6, Ends.le (Go.ends (B1 := 1) (B2 := 1) (Go.one (s' := (nI (2 ^ S.ns), nI (j + 1), A)) fun m => ?_) (Ends.one fun m => ?_)) (by omega)⟩
      · dsimp only [dF, dO]
        rw [jX3_dearestO_7, jX3_dearestI_7, nI_clamp (n := j) (by omega), h67 j (by omega), ek, l2, nI_1 j, h12]
        dsimp only
        simp (disch := omega) only [nI_leI, eq_false c0, eq_true vj, eq_true l1, ↓reduceIte, not_true_eq_false, not_false_eq_true, true_imp_iff, false_imp_iff, implies_true, and_true, true_and, eq_self]
        first | exact id | exact ⟨id, rfl⟩
      · dsimp only [dF, dO]
        rw [jX3_dearestO_7, jX3_dearestI_7, l6]
        by_cases d : 2 ^ S.ns ≤ j + 1
        · simp (disch := omega) only [nI_leI, eq_true d, eq_false z10, ↓reduceIte, not_true_eq_false, not_false_eq_true, true_imp_iff, false_imp_iff, implies_true, and_true, true_and, eq_self]
          rfl
        · simp (disch := omega) only [nI_leI, eq_false d, eq_false z10, ↓reduceIte, not_true_eq_false, not_false_eq_true, true_imp_iff, false_imp_iff, implies_true, and_true, true_and, eq_self]
          rfl
theorem worth_M (hsl : S.slOk) (m2 : mSl S M) {set : Nat} (hset : set < 256) : jX12_worthOfK M (nI set) ∧ jX12_worthOf M (nI set) = nI (S.W set) := by
  have h8 := hsl.1
  have E : Ends (fun m (x : Int32 × Int32) => jX12_worthOfI (nI set) m x.1 x.2 M) (fun m x => jX12_worthOfO (nI set) m x.1 x.2 M) (S.ns * 1 + 1) (nI 0, nI 0) (nI (S.W set)) := by
    refine Go.ends (s' := (nI (S.W set), nI S.ns)) (Go.loop (a := fun k => (nI (sm (fun s => if set.testBit s = true then S.wo s else 0) k), nI k)) S.ns fun k hk => Go.one fun m => ?_) (Ends.one fun m => ?_)
    · dsimp only
      have c0 : ¬ S.ns ≤ k := by omega
      have v8 : vp_in (nI k) 8 := (vp_nI (by omega)).mpr (by omega)
      have e97 := (m2.2 k (by omega)).2.2.2.2.2.2.2.1
      rw [jX12_worthOfO_4, jX12_worthOfI_4, m2.1, nI_clamp (by omega), e97, nI_1]
      have es : sm (fun s => if set.testBit s = true then S.wo s else 0) (k + 1) = sm (fun s => if set.testBit s = true then S.wo s else 0) k + (if set.testBit k = true then S.wo k else 0) := rfl
      by_cases b : set.testBit k = true
      · rw [es, if_pos b, nI_plus]
        simp (disch := omega) only [nI_leI, hs_nI, eq_false c0, eq_true b, eq_true v8, ↓reduceIte, not_true_eq_false, not_false_eq_true, true_imp_iff, false_imp_iff, implies_true, and_true, true_and, eq_self]
        first | exact id | exact ⟨id, rfl⟩
      · rw [es, if_neg b, Int32.add_zero]
        simp (disch := omega) only [nI_leI, hs_nI, eq_false c0, eq_false b, eq_true v8, ↓reduceIte, not_true_eq_false, not_false_eq_true, true_imp_iff, false_imp_iff, implies_true, and_true, true_and, eq_self]
        first | exact id | exact ⟨id, rfl⟩
    · dsimp only
      rw [jX12_worthOfO_4, jX12_worthOfI_4, m2.1]
      simp (disch := omega) only [nI_leI, eq_true (Nat.le_refl S.ns), ↓reduceIte, not_true_eq_false, not_false_eq_true, true_imp_iff, false_imp_iff, implies_true, and_true, true_and, eq_self]
  exact E.use (by rw [FU_eq]; omega)
abbrev bF : Nat → Nat × Int32 × Int32 × IM → Int32 × IM := fun m t => jX12_bestI m t.1 t.2.1 t.2.2.1 t.2.2.2
abbrev bO : Nat → Nat × Int32 × Int32 × IM → Prop := fun m t => jX12_bestO m t.1 t.2.1 t.2.2.1 t.2.2.2
def done (K : Nat → Nat) (j y : Nat) : Prop := ∃ i, i < j ∧ K i % 256 = y
theorem select_M (hsl : S.slOk) (hK : Ord S S.ns K) (m2 : mSl S M) {j : Nat} (hj : j < 2 ^ S.ns) (h0 : ∀ x, x < 2 ^ S.ns → (M 134 x = 0 ↔ ¬ done K j x)) : Go bF bO (1 + 2 ^ S.ns * 1) (1, 0, 0, M) (2, nI (K j % 256), nI (2 ^ S.ns), M) := by
  have h8 := hsl.1
  have p8 : 2 ^ S.ns ≤ 256 := Nat.pow_le_pow_right (n := 2) (by omega) h8
  have go1 : Go bF bO 1 (1, 0, 0, M) (2, -1, nI 0, M) := by
    rw [← li0]
    refine Go.one fun n => ?_
    dsimp only [bF, bO]
    rw [jX12_bestO_31, jX12_bestI_31]
    first | exact id | exact ⟨id, rfl⟩
  obtain ⟨⟨tg, v1, v2, M'⟩, ⟨e0, e2, e3, p1⟩, go2⟩ := Go.loopE (F := bF) (O := bO) (B := 1) (P := fun x t => t.1 = 2 ∧ t.2.2.1 = nI x ∧ t.2.2.2 = M ∧ ((t.2.1 = -1 ∧ ∀ y, y < x → done K j y) ∨ ∃ b, t.2.1 = nI b ∧ b < x ∧ ¬ done K j b ∧ ∀ y, y < x → ¬ done K j y → S.keyS b ≤ S.keyS y)) (2 ^ S.ns)
    (fun x hx t ht => by
      obtain ⟨tg, v1, v2, M'⟩ := t
      obtain ⟨e0, e2, e3, p1⟩ := ht
      dsimp only at e0 e2 e3 p1
      subst e0 e2 e3
      have c0 : ¬ 2 ^ S.ns ≤ x := by omega
      have vx : vp_in (nI x) 256 := (vp_nI (by omega)).mpr (by omega)
      have hx0 := h0 x hx
      have eo : (1 : Int32) <<< (nI S.ns &&& 31) = nI (2 ^ S.ns) := one_nI (by omega)
      by_cases d : done K j x
      · have z : ¬ M' 134 x = 0 := fun q => hx0.mp q d
        refine ⟨(2, v1, nI (x + 1), M'), ⟨rfl, rfl, rfl, ?_⟩, Go.one fun n => ?_⟩
        · rcases p1 with ⟨q1, q2⟩ | ⟨b, q1, q2, q3, q4⟩
          · exact .inl ⟨q1, fun y hy => by
              by_cases e : y = x
              · subst e; exact d
              · exact q2 y (by omega)⟩
          · exact .inr ⟨b, q1, by omega, q3, fun y hy nd => by
              by_cases e : y = x
              · subst e; exact absurd d nd
              · exact q4 y (by omega) nd⟩
        · dsimp only [bF, bO]
          rw [jX12_bestO_35, jX12_bestI_35, m2.1, eo, nI_clamp (n := x) (by omega), nI_1]
          simp (disch := omega) only [nI_leI, eq_false c0, eq_true vx, eq_false z, ↓reduceIte, not_true_eq_false, not_false_eq_true, true_imp_iff, false_imp_iff, implies_true, and_true, true_and, eq_self]
          first | exact id | exact ⟨id, rfl⟩
      · have z : M' 134 x = 0 := hx0.mpr d
        rcases p1 with ⟨q1, q2⟩ | ⟨b, q1, q2, q3, q4⟩
        · subst q1
          refine ⟨(2, nI x, nI (x + 1), M'), ⟨rfl, rfl, rfl, .inr ⟨x, rfl, by omega, d, fun y hy nd => ?_⟩⟩, Go.one fun n => ?_⟩
          · by_cases e : y = x
            · subst e; exact Nat.le_refl _
            · exact absurd (q2 y (by omega)) nd
          · dsimp only [bF, bO]
            have gm : (-1 : Int32) < 0 := by decide
            rw [jX12_bestO_35, jX12_bestI_35, m2.1, eo, nI_clamp (n := x) (by omega), nI_1]
            simp (disch := omega) only [nI_leI, eq_false c0, eq_true vx, eq_true z, eq_true gm, ↓reduceIte, not_true_eq_false, not_false_eq_true, true_imp_iff, false_imp_iff, implies_true, and_true, true_and, eq_self]
            first | exact id | exact ⟨id, rfl⟩
        · subst q1
          obtain ⟨w1, w2⟩ := worth_M hsl m2 (set := x) (by omega)
          obtain ⟨w3, w4⟩ := worth_M hsl m2 (set := b) (by omega)
          have lx := W_le hsl x
          have lb := W_le hsl b
          have gb : ¬ nI b < 0 := nI_nn (by omega)
          by_cases cw : S.W x ≤ S.W b
          · refine ⟨(2, nI b, nI (x + 1), M'), ⟨rfl, rfl, rfl, .inr ⟨b, rfl, by omega, q3, fun y hy nd => ?_⟩⟩, Go.one fun n => ?_⟩
            · by_cases e : y = x
              · subst e; unfold St.keyS; omega
              · exact q4 y (by omega) nd
            · dsimp only [bF, bO]
              rw [jX12_bestO_35, jX12_bestI_35, m2.1, eo, nI_clamp (n := x) (by omega), nI_1, w2, w4]
              simp (disch := omega) only [nI_leI, eq_false c0, eq_true vx, eq_true z, eq_false gb, eq_true w1, eq_true w3, eq_true cw, ↓reduceIte, not_true_eq_false, not_false_eq_true, true_imp_iff, false_imp_iff, implies_true, and_true, true_and, eq_self]
              first | exact id | exact ⟨id, rfl⟩
          · refine ⟨(2, nI x, nI (x + 1), M'), ⟨rfl, rfl, rfl, .inr ⟨x, rfl, by omega, d, fun y hy nd => ?_⟩⟩, Go.one fun n => ?_⟩
            · by_cases e : y = x
              · subst e; exact Nat.le_refl _
              · have := q4 y (by omega) nd
                have : S.keyS x ≤ S.keyS b := by unfold St.keyS; omega
                omega
            · dsimp only [bF, bO]
              rw [jX12_bestO_35, jX12_bestI_35, m2.1, eo, nI_clamp (n := x) (by omega), nI_1, w2, w4]
              simp (disch := omega) only [nI_leI, eq_false c0, eq_true vx, eq_true z, eq_false gb, eq_true w1, eq_true w3, eq_false cw, ↓reduceIte, not_true_eq_false, not_false_eq_true, true_imp_iff, false_imp_iff, implies_true, and_true, true_and, eq_self]
              first | exact id | exact ⟨id, rfl⟩) (2, -1, nI 0, M) ⟨rfl, rfl, rfl, .inl ⟨rfl, fun y hy => by omega⟩⟩
  dsimp only at e0 e2 e3 p1
  subst e0 e2 e3
  obtain ⟨a1, a2⟩ := hK.at' h8 hj
  have nd : ¬ done K j (K j % 256) := fun ⟨i, i1, i2⟩ => by
    have b2 := (hK.at' h8 (show i < 2 ^ S.ns by omega)).2
    rw [i2, ← a2] at b2
    have := hK.1 i j i1 hj; omega
  rcases p1 with ⟨q1, q2⟩ | ⟨b, q1, q2, q3, q4⟩
  · exact absurd (q2 _ a1) nd
  · have l := q4 _ a1 nd
    rw [← a2] at l
    obtain ⟨i, i1, i2⟩ := hK.2.2 b q2
    have im : K i % 256 = b := by rw [i2]; exact key_mod (by omega)
    have ij : ¬ i < j := fun c => q3 ⟨i, c, im⟩
    have ji : ¬ j < i := fun c => by have := hK.1 j i c i1; omega
    have e : i = j := by omega
    subst e
    rw [im]
    subst q1
    exact go1.trans go2
theorem best_loop (hN : S.netOk) (hsl : S.slOk) (hK : Ord S S.ns K) : ∀ (f j q : Nat) (M : IM), j + f = 2 ^ S.ns → q ≤ 2000 → mNet S M → mSl S M → M 79 5 = nI q → (∀ s, s < 8 → M 128 s = 0 ∨ M 128 s = 1) → (∀ x, x < 2 ^ S.ns → (M 134 x = 0 ↔ ¬ done K j x)) → (∀ i, i < j → K i % 256 ≠ 0) → ∀ X, S.bstS K f j q = X →
    ∃ M', (∀ k j, ¬ (106 ≤ k ∧ k ≤ 111) → ¬ (115 ≤ k ∧ k ≤ 127) → ¬ (k = 79 ∧ j = 5) → k ≠ 134 → M' k j = M k j) ∧ M' 79 5 = nI X.2.2 ∧ (∀ k s, 106 ≤ k → k ≤ 111 → s < 8 → M' k s = M (k + 22) s) ∧ Ends bF bO (f * 300) (1, 0, 0, M) (if X.1 = 2 then (-1000006, jX12_findsM M') else (nI X.2.1, M'))
  | 0, j, q, M, hj, _, _, _, _, _, _, hz, _, _ => absurd rfl (hK.left hsl.1 hj hz)
  | f + 1, j, q, M, hj, hq, m1, m2, m5, h128, h134, hz, X, hX => by
    have h8 := hsl.1
    have p8 : 2 ^ S.ns ≤ 256 := Nat.pow_le_pow_right (n := 2) (by omega) h8
    obtain ⟨a1, a2⟩ := hK.at' h8 (show j < 2 ^ S.ns by omega)
    have go := select_M hsl hK m2 (show j < 2 ^ S.ns by omega) h134
    obtain ⟨b, hb⟩ : ∃ b, b = K j % 256 := ⟨_, rfl⟩
    have f0 : ∀ k i, ¬ (k = 134 ∧ i = b) → up2 M 134 b 1 k i = M k i := fun k i q => by rw [up2_ap, if_neg q]
    have n1 : mNet S (up2 M 134 b 1) := m1.of (f0 _ _ (by omega)) (f0 _ _ (by omega)) fun k q => funext fun i => f0 _ _ (by omega)
    have n2 : mSl S (up2 M 134 b 1) := m2.of (f0 _ _ (by omega)) fun k q1 q2 => funext fun i => f0 _ _ (by omega)
    obtain ⟨l1, A, l2, l3, l4, l5⟩ := lays_M hN hsl (set := b) (q := q) (by omega) hq n1 n2 (by rw [f0 _ _ (by omega)]; exact m5)
    have fA : ∀ k i, ¬ (106 ≤ k ∧ k ≤ 111) → ¬ (115 ≤ k ∧ k ≤ 127) → ¬ (k = 79 ∧ i = 5) → ¬ (k = 134 ∧ i = b) → A k i = M k i := fun k i q1 q2 q3 q4 => by rw [l3 _ _ q1 q2 q3]; exact f0 _ _ q4
    obtain ⟨r1, r2, r3⟩ := back_M (M := A) fun s hs => by rw [fA _ _ (by omega) (by omega) (by omega) (by omega)]; exact h128 s hs
    obtain ⟨o1, o2, -⟩ := lays_ok (S := S) (set := b) hN hsl hq
    have vb : vp_in (nI b) 256 := (vp_nI (by omega)).mpr (by omega)
    have eo : (1 : Int32) <<< (nI S.ns &&& 31) = nI (2 ^ S.ns) := one_nI (by omega)
    have z1 : ¬ (0 : Int32) = -1000006 := by decide
    have z2 : ¬ (0 : Int32) = 1 := by decide
    have z3 : ¬ (1 : Int32) = -1000006 := by decide
    have fB : ∀ k i, ¬ (106 ≤ k ∧ k ≤ 111) → ¬ (115 ≤ k ∧ k ≤ 127) → ¬ (k = 79 ∧ i = 5) → k ≠ 134 → jX12_backTo A k i = M k i := fun k i q1 q2 q3 q4 => by rw [r2 _ _ q1]; exact fA _ _ q1 q2 q3 (by omega)
    have gB' : ∀ k s, 106 ≤ k → k ≤ 111 → s < 8 → jX12_backTo A k s = M (k + 22) s := fun k s q1 q2 q3 => by rw [r3 k s q1 q2 q3]; exact fA _ _ (by omega) (by omega) (by omega) (by omega)
    unfold St.bstS at hX
    rw [← hb] at hX go
    obtain ⟨V, hV⟩ : ∃ V, V = S.lays b q := ⟨_, rfl⟩
    rw [← hV] at l2 l4 o1 o2 hX
    rcases o1 with e | e | e
    · rw [if_neg (by omega), if_neg (by omega)] at hX
      rw [e, show cdR 0 = 0 from rfl] at l2
      have hz' : ∀ i, i < j + 1 → K i % 256 ≠ 0 := fun i hi c => by
        by_cases ei : i = j
        · subst ei
          rw [← hb] at c
          rw [c] at hV
          have := lays_zero (S := S) q
          rw [← hV] at this; omega
        · exact hz i (by omega) c
      have s1 : mNet S (jX12_backTo A) := m1.of (fB _ _ (by omega) (by omega) (by omega) (by omega)) (fB _ _ (by omega) (by omega) (by omega) (by omega)) fun k q => funext fun i => fB _ _ (by omega) (by omega) (by omega) (by omega)
      have s2 : mSl S (jX12_backTo A) := m2.of (fB _ _ (by omega) (by omega) (by omega) (by omega)) fun k q1 q2 => funext fun i => fB _ _ (by omega) (by omega) (by omega) (by omega)
      have s134 : ∀ x, x < 2 ^ S.ns → (jX12_backTo A 134 x = 0 ↔ ¬ done K (j + 1) x) := fun x hx => by
        rw [r2 _ _ (by omega), l3 _ _ (by omega) (by omega) (by omega), up2_ap]
        by_cases ex : x = b
        · rw [if_pos ⟨rfl, ex⟩]
          exact ⟨fun q => absurd q (by decide), fun q => absurd ⟨j, by omega, by rw [ex]; exact hb.symm⟩ q⟩
        · rw [if_neg (fun q => ex q.2), h134 x hx]
          constructor
          · rintro q ⟨i, i1, i2⟩
            by_cases ei : i = j
            · subst ei; exact ex (i2.symm.trans hb.symm)
            · exact q ⟨i, by omega, i2⟩
          · rintro q ⟨i, i1, i2⟩
            exact q ⟨i, by omega, i2⟩
      obtain ⟨M', t1, t2, t3, t4⟩ := best_loop hN hsl hK f (j + 1) V.2.1 (jX12_backTo A) (by omega) o2 s1 s2 (by rw [r2 _ _ (by omega)]; exact l4) (fun s hs => by rw [fB _ _ (by omega) (by omega) (by omega) (by omega)]; exact h128 s hs) s134 hz' X hX
      refine ⟨M', fun k i q1 q2 q3 q4 => (t1 k i q1 q2 q3 q4).trans (fB k i q1 q2 q3 q4), t2, fun k s q1 q2 q3 => ?_, Ends.le (go.ends (Go.ends (B1 := 1) (Go.one fun m => ?_) t4)) (by omega)⟩
      · rw [t3 k s q1 q2 q3]; exact fB _ _ (by omega) (by omega) (by omega) (by omega)
      · dsimp only [bF, bO]
        rw [jX12_bestO_35, jX12_bestI_35, m2.1, eo, nI_clamp (n := b) (by omega), l2]
        dsimp only
        simp (disch := omega) only [nI_leI, eq_true (Nat.le_refl (2 ^ S.ns)), eq_true vb, eq_true l1, eq_true r1, eq_false z1, eq_false z2, ↓reduceIte, not_true_eq_false, not_false_eq_true, true_imp_iff, false_imp_iff, implies_true, and_true, true_and, eq_self]
        first | exact id | exact ⟨id, rfl⟩
    · rw [if_neg (by omega), if_pos e] at hX
      rw [e, show cdR 1 = 1 from rfl] at l2
      rw [← hX]
      refine ⟨jX12_backTo A, fB, by rw [r2 _ _ (by omega)]; exact l4, gB', ?_⟩
      rw [if_neg (by decide : ¬ (1 : Nat) = 2)]
      refine Ends.le (go.ends (Ends.one fun m => ?_)) (by omega)
      dsimp only [bF, bO]
      rw [jX12_bestO_35, jX12_bestI_35, m2.1, eo, nI_clamp (n := b) (by omega), l2]
      dsimp only
      simp (disch := omega) only [nI_leI, eq_true (Nat.le_refl (2 ^ S.ns)), eq_true vb, eq_true l1, eq_true r1, eq_false z3, ↓reduceIte, not_true_eq_false, not_false_eq_true, true_imp_iff, false_imp_iff, implies_true, and_true, true_and, eq_self]
    · rw [if_pos e] at hX
      rw [e, show cdR 2 = -1000006 from rfl] at l2
      rw [← hX]
      refine ⟨jX12_backTo A, fB, by rw [r2 _ _ (by omega)]; exact l4, gB', ?_⟩
      rw [if_pos rfl]
      refine Ends.le (go.ends (Ends.one fun m => ?_)) (by omega)
      dsimp only [bF, bO]
      rw [jX12_bestO_35, jX12_bestI_35, m2.1, eo, nI_clamp (n := b) (by omega), l2]
      dsimp only
      simp (disch := omega) only [nI_leI, eq_true (Nat.le_refl (2 ^ S.ns)), eq_true vb, eq_true l1, eq_true r1, ↓reduceIte, not_true_eq_false, not_false_eq_true, true_imp_iff, false_imp_iff, implies_true, and_true, true_and, eq_self]
      rfl
end BE
end
