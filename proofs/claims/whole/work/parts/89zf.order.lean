noncomputable section
section OR
variable {T : Topo} {S : St} {C M : IM}
def St.W (S : St) (set : Nat) : Nat := sm (fun s => if set.testBit s = true then S.wo s else 0) S.ns
def St.keyS (S : St) (set : Nat) : Nat := 256 * (8000 - S.W set) + set
theorem W_le (hsl : S.slOk) (set : Nat) : S.W set ≤ 8000 := by
  have h8 := hsl.1
  have := sm_le (f := fun s => if set.testBit s = true then S.wo s else 0) (B := 1000) S.ns (fun i hi => by
    split
    · exact (hsl.2.1 i hi).2.2.2.2.2.2.2.2.2.2.1
    · omega)
  unfold St.W
  omega
theorem key_mod {set : Nat} (h : set < 256) : S.keyS set % 256 = set := by unfold St.keyS; omega
theorem keyS_lt (set : Nat) (h : set < 256) : S.keyS set < 2 ^ 30 := by unfold St.keyS; omega
theorem add_bit {k set : Nat} (h : set < 2 ^ k) (s : Nat) : (2 ^ k + set).testBit s = (decide (k = s) || set.testBit s) := by
  have := Nat.two_pow_add_eq_or_of_lt h 1
  rw [Nat.mul_one] at this
  rw [this, Nat.testBit_or, pow_bit]
theorem W_add (hsl : S.slOk) {k set : Nat} (hk : k < S.ns) (h : set < 2 ^ k) : S.W (2 ^ k + set) = S.W set + S.wo k := by
  have e := sm_one (f := fun s => if (2 ^ k + set).testBit s = true then S.wo s else 0) (g := fun s => if set.testBit s = true then S.wo s else 0) S.ns hk (fun i hi ne => by
    rw [add_bit h, show decide (k = i) = false from decide_eq_false (fun q => ne q.symm), Bool.false_or])
  rw [add_bit h, bit_no h (Nat.le_refl k)] at e
  simp at e
  unfold St.W
  simp only [add_bit h]
  simp only [add_bit h] at e
  simp at e ⊢
  omega
theorem key_add (hsl : S.slOk) {k set : Nat} (hk : k < S.ns) (h : set < 2 ^ k) : S.keyS (2 ^ k + set) + 256 * S.wo k = S.keyS set + 2 ^ k := by
  have e := W_add hsl hk h
  have l := W_le hsl (2 ^ k + set)
  unfold St.keyS
  omega
/-- the first so many keys: all sets of the first so many SLICES, upward -/
def Ord (S : St) (k : Nat) (K : Nat → Nat) : Prop := (∀ a b, a < b → b < 2 ^ k → K a < K b) ∧ (∀ a, a < 2 ^ k → ∃ set, set < 2 ^ k ∧ K a = S.keyS set) ∧ ∀ set, set < 2 ^ k → ∃ a, a < 2 ^ k ∧ K a = S.keyS set
def MgI (K K' : Nat → Nat) (c i j : Nat) (m : Nat → Nat) : Prop :=
  (∀ a b, a < b → b < i + j → m a < m b) ∧ (∀ a, a < i + j → (∃ x, x < i ∧ m a = K x) ∨ ∃ y, y < j ∧ m a = K' y) ∧ (∀ x, x < i → ∃ a, a < i + j ∧ m a = K x) ∧ (∀ y, y < j → ∃ a, a < i + j ∧ m a = K' y) ∧ ∀ a, a < i + j → (i < c → m a < K i) ∧ (j < c → m a < K' j)
theorem MgI.plain {K K' m : Nat → Nat} {c i j : Nat} (hK : ∀ a b, a < b → b < c → K a < K b) (h : MgI K K' c i j m) (hi : i < c) (hlt : j < c → K i < K' j) : MgI K K' c (i + 1) j (put m (i + j) (K i)) := by
  obtain ⟨h1, h2, h3, h4, h5⟩ := h
  refine ⟨fun a b q1 q2 => ?_, fun a q => ?_, fun x q => ?_, fun y q => ?_, fun a q => ?_⟩
  · rw [put_ne m (K i) (show a ≠ i + j by omega)]
    by_cases e : b = i + j
    · subst e; rw [put_at]; exact (h5 a q1).1 hi
    · rw [put_ne m (K i) e]; exact h1 a b q1 (by omega)
  · by_cases e : a = i + j
    · subst e; rw [put_at]; exact .inl ⟨i, by omega, rfl⟩
    · rw [put_ne m (K i) e]
      rcases h2 a (by omega) with ⟨x, x1, x2⟩ | ⟨y, y1, y2⟩
      · exact .inl ⟨x, by omega, x2⟩
      · exact .inr ⟨y, y1, y2⟩
  · by_cases e : x = i
    · subst e; exact ⟨x + j, by omega, put_at _ _ _⟩
    · obtain ⟨a, a1, a2⟩ := h3 x (by omega)
      exact ⟨a, by omega, by rw [put_ne m (K i) (by omega)]; exact a2⟩
  · obtain ⟨a, a1, a2⟩ := h4 y q
    exact ⟨a, by omega, by rw [put_ne m (K i) (by omega)]; exact a2⟩
  · by_cases e : a = i + j
    · subst e; rw [put_at]; exact ⟨fun z => hK i (i + 1) (by omega) z, hlt⟩
    · rw [put_ne m (K i) e]
      have := h5 a (by omega)
      exact ⟨fun z => Nat.lt_trans (this.1 hi) (hK i (i + 1) (by omega) z), this.2⟩
theorem MgI.shift {K K' m : Nat → Nat} {c i j : Nat} (hK : ∀ a b, a < b → b < c → K' a < K' b) (h : MgI K K' c i j m) (hj : j < c) (hlt : i < c → K' j < K i) : MgI K K' c i (j + 1) (put m (i + j) (K' j)) := by
  obtain ⟨h1, h2, h3, h4, h5⟩ := h
  refine ⟨fun a b q1 q2 => ?_, fun a q => ?_, fun x q => ?_, fun y q => ?_, fun a q => ?_⟩
  · rw [put_ne m (K' j) (show a ≠ i + j by omega)]
    by_cases e : b = i + j
    · subst e; rw [put_at]; exact (h5 a q1).2 hj
    · rw [put_ne m (K' j) e]; exact h1 a b q1 (by omega)
  · by_cases e : a = i + j
    · subst e; rw [put_at]; exact .inr ⟨j, by omega, rfl⟩
    · rw [put_ne m (K' j) e]
      rcases h2 a (by omega) with ⟨x, x1, x2⟩ | ⟨y, y1, y2⟩
      · exact .inl ⟨x, by omega, x2⟩
      · exact .inr ⟨y, by omega, y2⟩
  · obtain ⟨a, a1, a2⟩ := h3 x q
    exact ⟨a, by omega, by rw [put_ne m (K' j) (by omega)]; exact a2⟩
  · by_cases e : y = j
    · subst e; exact ⟨i + y, by omega, put_at _ _ _⟩
    · obtain ⟨a, a1, a2⟩ := h4 y (by omega)
      exact ⟨a, by omega, by rw [put_ne m (K' j) (by omega)]; exact a2⟩
  · by_cases e : a = i + j
    · subst e; rw [put_at]; exact ⟨hlt, fun z => hK j (j + 1) (by omega) z⟩
    · rw [put_ne m (K' j) e]
      have := h5 a (by omega)
      exact ⟨this.1, fun z => Nat.lt_trans (this.2 hj) (hK j (j + 1) (by omega) z)⟩
abbrev gF (a1 a2 : Int32) : Nat → Nat × Int32 × Int32 × Int32 × IM → IM := fun n t => jX3_mergeShiftedI a1 a2 n t.1 t.2.1 t.2.2.1 t.2.2.2.1 t.2.2.2.2
abbrev gO (a1 a2 : Int32) : Nat → Nat × Int32 × Int32 × Int32 × IM → Prop := fun n t => jX3_mergeShiftedO a1 a2 n t.1 t.2.1 t.2.2.1 t.2.2.2.1 t.2.2.2.2
theorem merge_C {c : Nat} (hc : 2 * c ≤ 256) {K K' : Nat → Nat} {a2 : Int32} (hK : ∀ a b, a < b → b < c → K a < K b) (hK' : ∀ a b, a < b → b < c → K' a < K' b) (hne : ∀ a b, a < c → b < c → K a ≠ K' b) (hb : ∀ a, a < c → K a < 2 ^ 30 ∧ K' a < 2 ^ 30) (h67 : ∀ a, a < c → C 67 a = nI (K a)) (hsh : ∀ a, a < c → nI (K a) + a2 = nI (K' a)) :
    jX3_mergeShiftedK C (nI c) a2 ∧ (∀ k j, k ≠ 67 → k ≠ 68 → jX3_mergeShifted C (nI c) a2 k j = C k j) ∧ ∃ m, MgI K K' c c c m ∧ ∀ a, a < c + c → jX3_mergeShifted C (nI c) a2 67 a = nI (m a) := by
  unfold jX3_mergeShiftedK jX3_mergeShifted
  have e2c : (2 : Int32) * nI c = nI (2 * c) := by rw [li2, nI_mul]
  obtain ⟨⟨tg, v3, v4, v5, C1⟩, ⟨e0, i, j, m, e3, e4, e5, p0, p1, p2, p3, p4, p5⟩, go1⟩ := Go.loopE (F := gF (nI c) a2) (O := gO (nI c) a2) (B := 1) (P := fun k t => t.1 = 0 ∧ ∃ i j m, t.2.1 = nI i ∧ t.2.2.1 = nI j ∧ t.2.2.2.1 = nI k ∧ i + j = k ∧ i ≤ c ∧ j ≤ c ∧ MgI K K' c i j m ∧ (∀ a b, a ≠ 68 → t.2.2.2.2 a b = C a b) ∧ ∀ a, a < k → t.2.2.2.2 68 a = nI (m a)) (c + c)
    (fun k hk t ht => by
      obtain ⟨tg, v3, v4, v5, I⟩ := t
      obtain ⟨e0, i, j, m, e3, e4, e5, p0, p1, p2, p3, p4, p5⟩ := ht
      dsimp only at e0 e3 e4 e5 p4 p5
      subst e0 e3 e4 e5
      have c0 : ¬ 2 * c ≤ k := by omega
      have c1 : ¬ (256 : Int32) ≤ nI k := by rw [li256]; exact fun q => absurd ((nI_leI (by omega) (by omega)).mp q) (by omega)
      have vk : vp_in (nI k) 256 := (vp_nI (by omega)).mpr (by omega)
      have i67 : ∀ a, a < c → I 67 a = nI (K a) := fun a ha => by rw [p4 _ _ (by omega)]; exact h67 a ha
      have a0 : ∀ x : Int32, x + 0 = x := Int32.add_zero
      have plain : i < c → (j < c → K i < K' j) → (∃ t', (fun k (t : Nat × Int32 × Int32 × Int32 × IM) => t.1 = 0 ∧ ∃ i j m, t.2.1 = nI i ∧ t.2.2.1 = nI j ∧ t.2.2.2.1 = nI k ∧ i + j = k ∧ i ≤ c ∧ j ≤ c ∧ MgI K K' c i j m ∧ (∀ a b, a ≠ 68 → t.2.2.2.2 a b = C a b) ∧ ∀ a, a < k → t.2.2.2.2 68 a = nI (m a)) (k + 1) t' ∧ t' = (0, nI (i + 1), nI j, nI (k + 1), up2 I 68 k (nI (K i)))) := fun q1 q2 => by
        refine ⟨_, ⟨rfl, i + 1, j, put m (i + j) (K i), rfl, rfl, rfl, by omega, by omega, p2, p3.plain hK q1 q2, fun a b q => ?_, fun a q => ?_⟩, rfl⟩
        · dsimp only
          rw [up2_ap, if_neg (by omega)]; exact p4 a b q
        · dsimp only
          by_cases e : a = k
          · rw [e, up2_at, ← p0, put_at]
          · rw [up2_ap, if_neg (by omega), put_ne _ _ (by omega)]; exact p5 a (by omega)
      have shift : j < c → (i < c → K' j < K i) → (∃ t', (fun k (t : Nat × Int32 × Int32 × Int32 × IM) => t.1 = 0 ∧ ∃ i j m, t.2.1 = nI i ∧ t.2.2.1 = nI j ∧ t.2.2.2.1 = nI k ∧ i + j = k ∧ i ≤ c ∧ j ≤ c ∧ MgI K K' c i j m ∧ (∀ a b, a ≠ 68 → t.2.2.2.2 a b = C a b) ∧ ∀ a, a < k → t.2.2.2.2 68 a = nI (m a)) (k + 1) t' ∧ t' = (0, nI i, nI (j + 1), nI (k + 1), up2 I 68 k (nI (K' j)))) := fun q1 q2 => by
        refine ⟨_, ⟨rfl, i, j + 1, put m (i + j) (K' j), rfl, rfl, rfl, by omega, p1, by omega, p3.shift hK' q1 q2, fun a b q => ?_, fun a q => ?_⟩, rfl⟩
        · dsimp only
          rw [up2_ap, if_neg (by omega)]; exact p4 a b q
        · dsimp only
          by_cases e : a = k
          · rw [e, up2_at, ← p0, put_at]
          · rw [up2_ap, if_neg (by omega), put_ne _ _ (by omega)]; exact p5 a (by omega)
      have vi : i < c → vp_in (nI i) 256 := fun q => (vp_nI (by omega)).mpr (by omega)
      have vj : j < c → vp_in (nI j) 256 := fun q => (vp_nI (by omega)).mpr (by omega)
      by_cases d4 : c ≤ j
      · have hi : i < c := by omega
        obtain ⟨t', g1, g2⟩ := plain hi fun q => by omega
        refine ⟨t', g1, ?_⟩
        rw [g2]
        refine Go.one fun n => ?_
        dsimp only [gF, gO]
        rw [jX3_mergeShiftedO_8, jX3_mergeShiftedI_8, e2c, nI_clamp (n := i) (by omega), nI_clamp (n := k) (by omega), i67 i hi, nI_1 i, nI_1 k, a0]
        simp (disch := omega) only [nI_leI, eq_false c0, eq_false c1, eq_true d4, eq_true vk, eq_true (vi hi), ↓reduceIte, not_true_eq_false, not_false_eq_true, true_imp_iff, false_imp_iff, implies_true, and_true, true_and, eq_self]
        first | exact id | exact ⟨id, rfl⟩
      · have hj : j < c := by omega
        by_cases d3 : c ≤ i
        · obtain ⟨t', g1, g2⟩ := shift hj fun q => by omega
          refine ⟨t', g1, ?_⟩
          rw [g2]
          refine Go.one fun n => ?_
          dsimp only [gF, gO]
          rw [jX3_mergeShiftedO_8, jX3_mergeShiftedI_8, e2c, nI_clamp (n := j) (by omega), nI_clamp (n := k) (by omega), i67 j hj, hsh j hj, nI_1 j, nI_1 k, a0 (nI i)]
          simp (disch := omega) only [nI_leI, eq_false c0, eq_false c1, eq_false d4, eq_true d3, eq_true vk, eq_true (vj hj), ↓reduceIte, not_true_eq_false, not_false_eq_true, true_imp_iff, false_imp_iff, implies_true, and_true, true_and, eq_self]
          first | exact id | exact ⟨id, rfl⟩
        · have hi : i < c := by omega
          obtain ⟨b1, -⟩ := hb i hi
          obtain ⟨-, b2⟩ := hb j hj
          have n0 := hne i j hi hj
          by_cases d : K' j ≤ K i
          · obtain ⟨t', g1, g2⟩ := shift hj fun q => by omega
            refine ⟨t', g1, ?_⟩
            rw [g2]
            refine Go.one fun n => ?_
            dsimp only [gF, gO]
            rw [jX3_mergeShiftedO_8, jX3_mergeShiftedI_8, e2c, nI_clamp (n := j) (by omega), nI_clamp (n := i) (by omega), nI_clamp (n := k) (by omega), i67 j hj, i67 i hi, hsh j hj, nI_1 j, nI_1 k, a0 (nI i)]
            simp (disch := omega) only [nI_leI, eq_false c0, eq_false c1, eq_false d4, eq_false d3, eq_true d, eq_true vk, eq_true (vj hj), eq_true (vi hi), ↓reduceIte, not_true_eq_false, not_false_eq_true, true_imp_iff, false_imp_iff, implies_true, and_true, true_and, eq_self]
            first | exact id | exact ⟨id, rfl⟩
          · obtain ⟨t', g1, g2⟩ := plain hi fun q => by omega
            refine ⟨t', g1, ?_⟩
            rw [g2]
            refine Go.one fun n => ?_
            dsimp only [gF, gO]
            rw [jX3_mergeShiftedO_8, jX3_mergeShiftedI_8, e2c, nI_clamp (n := j) (by omega), nI_clamp (n := i) (by omega), nI_clamp (n := k) (by omega), i67 j hj, i67 i hi, hsh j hj, nI_1 i, nI_1 k, a0 (nI j)]
            simp (disch := omega) only [nI_leI, eq_false c0, eq_false c1, eq_false d4, eq_false d3, eq_false d, eq_true vk, eq_true (vj hj), eq_true (vi hi), ↓reduceIte, not_true_eq_false, not_false_eq_true, true_imp_iff, false_imp_iff, implies_true, and_true, true_and, eq_self]
            first | exact id | exact ⟨id, rfl⟩) (0, nI 0, nI 0, nI 0, C) ⟨rfl, 0, 0, fun _ => 0, rfl, rfl, rfl, rfl, Nat.zero_le _, Nat.zero_le _, ⟨fun a b _ q => by omega, fun a q => by omega, fun a q => by omega, fun a q => by omega, fun a q => by omega⟩, fun _ _ _ => rfl, fun a q => by omega⟩
  dsimp only at e0 e3 e4 e5 p4 p5
  have ei : i = c := by omega
  have ej : j = c := by omega
  subst e0 e3 e4 e5 ei ej
  have go2 : Go (gF (nI j) a2) (gO (nI j) a2) 1 (0, nI j, nI j, nI (j + j), C1) (1, nI 0, nI 0, nI 0, C1) := by
    rw [← li0]
    refine Go.one fun n => ?_
    dsimp only [gF, gO]
    have c0 : 2 * j ≤ j + j := by omega
    rw [jX3_mergeShiftedO_8, jX3_mergeShiftedI_8, e2c]
    simp (disch := omega) only [nI_leI, eq_true c0, ↓reduceIte, not_true_eq_false, not_false_eq_true, true_imp_iff, false_imp_iff, implies_true, and_true, true_and, eq_self]
    first | exact id | exact ⟨id, rfl⟩
  obtain ⟨⟨tg, v3, v4, v5, C2⟩, ⟨e0, e3, e4, e5, r1, r2, r3⟩, go3⟩ := Go.loopE (F := gF (nI j) a2) (O := gO (nI j) a2) (B := 1) (P := fun k t => t.1 = 1 ∧ t.2.1 = nI 0 ∧ t.2.2.1 = nI 0 ∧ t.2.2.2.1 = nI k ∧ (∀ a b, a ≠ 67 → a ≠ 68 → t.2.2.2.2 a b = C a b) ∧ (∀ a, a < j + j → t.2.2.2.2 68 a = nI (m a)) ∧ ∀ a, a < k → t.2.2.2.2 67 a = nI (m a)) (j + j)
    (fun k hk t ht => by
      obtain ⟨tg, v3, v4, v5, I⟩ := t
      obtain ⟨e0, e3, e4, e5, r1, r2, r3⟩ := ht
      dsimp only at e0 e3 e4 e5 r1 r2 r3
      subst e0 e3 e4 e5
      have c0 : ¬ 2 * j ≤ k := by omega
      have c1 : ¬ (256 : Int32) ≤ nI k := by rw [li256]; exact fun q => absurd ((nI_leI (by omega) (by omega)).mp q) (by omega)
      have vk : vp_in (nI k) 256 := (vp_nI (by omega)).mpr (by omega)
      refine ⟨(1, nI 0, nI 0, nI (k + 1), up2 I 67 k (nI (m k))), ⟨rfl, rfl, rfl, rfl, fun a b q1 q2 => ?_, fun a q => ?_, fun a q => ?_⟩, ?_⟩
      · dsimp only
        rw [up2_ap, if_neg (by omega)]; exact r1 a b q1 q2
      · dsimp only
        rw [up2_ap, if_neg (by omega)]; exact r2 a q
      · dsimp only
        by_cases e : a = k
        · rw [e, up2_at]
        · rw [up2_ap, if_neg (by omega)]; exact r3 a (by omega)
      · rw [← li0]
        refine Go.one fun n => ?_
        dsimp only [gF, gO]
        rw [jX3_mergeShiftedO_127, jX3_mergeShiftedI_127, e2c, nI_clamp (n := k) (by omega), r2 k hk, nI_1 k]
        simp (disch := omega) only [nI_leI, eq_false c0, eq_false c1, eq_true vk, ↓reduceIte, not_true_eq_false, not_false_eq_true, true_imp_iff, false_imp_iff, implies_true, and_true, true_and, eq_self]
        first | exact id | exact ⟨id, rfl⟩) (1, nI 0, nI 0, nI 0, C1) ⟨rfl, rfl, rfl, rfl, fun a b _ q => p4 a b q, p5, fun a q => by omega⟩
  dsimp only at e0 e3 e4 e5 r1 r2 r3
  subst e0 e3 e4 e5
  have E := (go1.trans (go2.trans go3)).ends (B2 := 1) (b := C2) (Ends.one fun n => by
    dsimp only [gF, gO]
    have c0 : 2 * j ≤ j + j := by omega
    rw [jX3_mergeShiftedO_127, jX3_mergeShiftedI_127, e2c]
    simp (disch := omega) only [nI_leI, eq_true c0, ↓reduceIte, not_true_eq_false, not_false_eq_true, true_imp_iff, false_imp_iff, implies_true, and_true, true_and, eq_self])
  obtain ⟨u1, u2⟩ := E.use (f := FU) (by rw [FU_eq]; omega)
  dsimp only [gF, gO] at u1 u2
  rw [← li0] at u1 u2
  rw [u2]
  exact ⟨u1, r1, m, p3, r3⟩
theorem nI_plus (a b : Nat) : nI a + nI b = nI (a + b) := (Int32.ofNat_add a b).symm
theorem sh_eq {a k w b : Nat} (h : b + 256 * w = a + k) : nI a + (nI k - nI w * 256) = nI b := by
  rw [li256, nI_mul, Int32.sub_eq_add_neg, ← Int32.add_assoc, nI_plus, ← h, ← nI_plus, Nat.mul_comm w 256, ← Int32.sub_eq_add_neg, Int32.add_sub_cancel]
theorem Ord.next (hsl : S.slOk) {k : Nat} (hk : k < S.ns) {K : Nat → Nat} (h : Ord S k K) : ∃ K', (∀ a b, a < b → b < 2 ^ k → K' a < K' b) ∧ (∀ a b, a < 2 ^ k → b < 2 ^ k → K a ≠ K' b) ∧ (∀ a, a < 2 ^ k → K a < 2 ^ 30 ∧ K' a < 2 ^ 30 ∧ nI (K a) + (nI (2 ^ k) - nI (S.wo k) * 256) = nI (K' a)) ∧ ∀ m, MgI K K' (2 ^ k) (2 ^ k) (2 ^ k) m → Ord S (k + 1) m := by
  have h8 := hsl.1
  have p8 : 2 ^ (k + 1) ≤ 256 := Nat.pow_le_pow_right (n := 2) (by omega) (show k + 1 ≤ 8 by omega)
  have p1 : 2 ^ (k + 1) = 2 ^ k + 2 ^ k := by rw [Nat.pow_succ]; omega
  obtain ⟨h1, h2, h3⟩ := h
  have md : ∀ a, a < 2 ^ k → K a % 256 < 2 ^ k ∧ K a = S.keyS (K a % 256) := fun a ha => by
    obtain ⟨set, s1, s2⟩ := h2 a ha
    have := key_mod (S := S) (set := set) (by omega)
    rw [s2, this]; exact ⟨s1, rfl⟩
  have sp : ∀ a, a < 2 ^ k → S.keyS (2 ^ k + K a % 256) + 256 * S.wo k = K a + 2 ^ k := fun a ha => by
    have := key_add hsl hk (md a ha).1
    rw [← (md a ha).2] at this; exact this
  refine ⟨fun a => S.keyS (2 ^ k + K a % 256), fun a b q1 q2 => ?_, fun a b q1 q2 e => ?_, fun a q => ⟨?_, ?_, sh_eq (sp a q)⟩, fun m hm => ?_⟩
  · dsimp only
    have := sp a (by omega)
    have := sp b q2
    have := h1 a b q1 q2
    omega
  · dsimp only at e
    obtain ⟨y1, y2⟩ := md a q1
    have t1 := key_mod (S := S) (set := 2 ^ k + K b % 256) (by have := (md b q2).1; omega)
    rw [← e] at t1
    omega
  · rw [(md a q).2]; exact keyS_lt _ (by have := (md a q).1; omega)
  · exact keyS_lt _ (by have := (md a q).1; omega)
  · obtain ⟨g1, g2, g3, g4, -⟩ := hm
    rw [← p1] at g1 g2 g3 g4
    refine ⟨g1, fun a ha => ?_, fun set hset => ?_⟩
    · rcases g2 a ha with ⟨x, x1, x2⟩ | ⟨y, y1, y2⟩
      · exact ⟨K x % 256, by have := (md x x1).1; omega, by rw [x2]; exact (md x x1).2⟩
      · exact ⟨2 ^ k + K y % 256, by have := (md y y1).1; omega, y2⟩
    · by_cases c : set < 2 ^ k
      · obtain ⟨x, x1, x2⟩ := h3 set c
        obtain ⟨a, a1, a2⟩ := g3 x x1
        exact ⟨a, a1, a2.trans x2⟩
      · obtain ⟨x, x1, x2⟩ := h3 (set - 2 ^ k) (by omega)
        obtain ⟨a, a1, a2⟩ := g4 x x1
        refine ⟨a, a1, a2.trans ?_⟩
        dsimp only
        rw [x2, key_mod (by omega)]
        congr 1; omega
/-- the class's order of the sets -/
theorem order_C (hsl : S.slOk) (h15 : C 15 1 = nI S.ns) (hwo : ∀ s, s < S.ns → C (17 + 4 * s) 7 = nI (S.wo s)) : jX3_orderSetsK C ∧ ∃ C' K, jX3_orderSets C = (nI (2 ^ S.ns), C') ∧ (∀ k j, k ≠ 67 → k ≠ 68 → C' k j = C k j) ∧ Ord S S.ns K ∧ ∀ a, a < 2 ^ S.ns → C' 67 a = nI (K a) := by
  have h8 := hsl.1
  unfold jX3_orderSetsK jX3_orderSets
  have z0 : (0 : Int32).toNatClampNeg = 0 := rfl
  rw [z0]
  have w0 : S.keyS 0 = 2048000 := by
    have : S.W 0 = 0 := sm_zero _ fun i _ => by rw [if_neg (by simp)]
    unfold St.keyS; rw [this]
  have o0 : Ord S 0 (fun _ => 2048000) := ⟨fun a b q1 q2 => by omega, fun a _ => ⟨0, by omega, w0.symm⟩, fun set hset => ⟨0, by omega, by rw [show set = 0 by omega]; exact w0.symm⟩⟩
  obtain ⟨⟨v1, v2, C1⟩, ⟨e1, e2, K, p1, p2, p3⟩, go⟩ := Go.loopE (F := fun n (t : Int32 × Int32 × IM) => jX3_orderSetsI n t.1 t.2.1 t.2.2) (O := fun n t => jX3_orderSetsO n t.1 t.2.1 t.2.2) (B := 1) (P := fun k t => t.1 = nI (2 ^ k) ∧ t.2.1 = nI k ∧ ∃ K, Ord S k K ∧ (∀ a b, a ≠ 67 → a ≠ 68 → t.2.2 a b = C a b) ∧ ∀ a, a < 2 ^ k → t.2.2 67 a = nI (K a)) S.ns
    (fun k hk t ht => by
      obtain ⟨v1, v2, I⟩ := t
      obtain ⟨e1, e2, K, p1, p2, p3⟩ := ht
      dsimp only at e1 e2 p2 p3
      subst e1 e2
      have p8 : 2 ^ (k + 1) ≤ 256 := Nat.pow_le_pow_right (n := 2) (by omega) (show k + 1 ≤ 8 by omega)
      have pp : 2 ^ (k + 1) = 2 ^ k + 2 ^ k := by rw [Nat.pow_succ]; omega
      have c0 : ¬ S.ns ≤ k := by omega
      have v8 : vp_in (nI k) 8 := (vp_nI (by omega)).mpr (by omega)
      obtain ⟨K', g1, g2, g3, g4⟩ := p1.next hsl hk
      obtain ⟨m1, m2, m, m3, m4⟩ := merge_C (C := I) (c := 2 ^ k) (by omega) (a2 := nI (2 ^ k) - nI (S.wo k) * 256) p1.1 g1 g2 (fun a ha => ⟨(g3 a ha).1, (g3 a ha).2.1⟩) p3 (fun a ha => (g3 a ha).2.2)
      refine ⟨(nI (2 ^ (k + 1)), nI (k + 1), jX3_mergeShifted I (nI (2 ^ k)) (nI (2 ^ k) - nI (S.wo k) * 256)), ⟨rfl, rfl, m, g4 m m3, fun a b q1 q2 => (m2 a b q1 q2).trans (p2 a b q1 q2), fun a ha => m4 a (by omega)⟩, Go.one fun n => ?_⟩
      dsimp only
      have e2' : nI (2 ^ k) * 2 = nI (2 ^ (k + 1)) := by rw [li2, nI_mul, ← Nat.pow_succ]
      rw [jX3_orderSetsO_12, jX3_orderSetsI_12, p2 _ _ (by omega) (by omega), h15, nI_clamp (n := k) (by omega), p2 _ _ (by omega) (by omega), hwo k hk, one_nI (by omega), nI_1 k, e2']
      simp (disch := omega) only [nI_leI, eq_false c0, eq_true v8, eq_true m1, ↓reduceIte, not_true_eq_false, not_false_eq_true, true_imp_iff, false_imp_iff, implies_true, and_true, true_and, eq_self]
      first | exact id | exact ⟨id, rfl⟩) (nI 1, nI 0, up2 C 67 0 2048000) ⟨rfl, rfl, fun _ => 2048000, o0, fun a b q1 q2 => by dsimp only; rw [up2_ap, if_neg (by omega)], fun a ha => by dsimp only; rw [show a = 0 by omega, up2_at]; rfl⟩
  dsimp only at e1 e2 p2 p3
  subst e1 e2
  have E := go.ends (B2 := 1) (b := (nI (2 ^ S.ns), C1)) (Ends.one fun n => by
    dsimp only
    rw [jX3_orderSetsO_12, jX3_orderSetsI_12, p2 _ _ (by omega) (by omega), h15]
    simp (disch := omega) only [nI_leI, eq_true (Nat.le_refl S.ns), ↓reduceIte, not_true_eq_false, not_false_eq_true, true_imp_iff, false_imp_iff, implies_true, and_true, true_and, eq_self])
  obtain ⟨u1, u2⟩ := E.use (f := FU) (by rw [FU_eq]; omega)
  dsimp only at u1 u2
  rw [← li0, ← li1] at u1 u2
  exact ⟨⟨(vp_nI (n := 0) (by omega)).mpr (by omega), u1⟩, C1, K, u2, p2, p1, p3⟩
end OR
end
