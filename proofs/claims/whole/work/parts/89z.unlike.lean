noncomputable section
section UN
variable {T : Topo} {S : St} {C : IM} {n : Nat}
def St.cnt (S : St) (t : Nat) : Nat := bs (fun s => S.does s t) S.ns
theorem cnt_lt (h8 : S.ns ≤ 8) (t : Nat) : S.cnt t < 256 := Nat.lt_of_lt_of_le (bs_lt _ _) (Nat.pow_le_pow_right (by omega) h8 : 2 ^ S.ns ≤ 2 ^ 8)
def UC (S : St) (C : IM) : Prop := C 15 1 = nI S.ns ∧ cTk S C
def FrQ (C C' : IM) : Prop := ∀ k j, ¬ (k = 57 ∧ j = 4) → k ≠ 62 → k ≠ 63 → C' k j = C k j
theorem FrQ.trans {A B C : IM} (h : FrQ A B) (h2 : FrQ B C) : FrQ A C := fun a b q1 q2 q3 => (h2 a b q1 q2 q3).trans (h a b q1 q2 q3)
theorem UC.frq (h8 : S.ns ≤ 8) (h : UC S C) {C' : IM} (f : FrQ C C') : UC S C' := ⟨by rw [f _ _ (by omega) (by omega) (by omega)]; exact h.1, h.2.of fun s hs => f _ _ (by omega) (by omega) (by omega)⟩
theorem counting_C (hsl : S.slOk) (h : UC S C) {t : Nat} (ht : t < 24) : jX3_countingAtK C (nI t) ∧ jX3_countingAt C (nI t) = nI (S.cnt t) := by
  have h8 := hsl.1
  have E : Ends (fun m (x : Int32 × Int32) => jX3_countingAtI (nI t) m x.1 x.2 C) (fun m x => jX3_countingAtO (nI t) m x.1 x.2 C) (S.ns * 1 + 1) (nI (bs (fun s => S.does s t) 0), nI 0) (nI (S.cnt t)) := by
    refine Go.ends (s' := (nI (bs (fun s => S.does s t) S.ns), nI S.ns)) (Go.loop (a := fun k => (nI (bs (fun s => S.does s t) k), nI k)) S.ns fun k hk => Go.one fun m => ?_) (Ends.one fun m => ?_)
    · dsimp only
      have c0 : ¬ S.ns ≤ k := by omega
      have v8 : vp_in (nI k) 8 := (vp_nI (by omega)).mpr (by omega)
      have tk := tks_lt (S := S) k
      have tb := tks_bit (S := S) (s := k) ht
      rw [jX3_countingAtO_4, jX3_countingAtI_4, h.1, nI_clamp (by omega), h.2 k hk, nI_1, one_nI (by omega), or_nI]
      by_cases b : S.does k t = true
      · have b' : (S.tks k).testBit t = true := by rw [tb]; exact b
        have e : bs (fun s => S.does s t) (k + 1) = bs (fun s => S.does s t) k ||| 2 ^ k := by
          show _ ||| (if S.does k t = true then 2 ^ k else 0) = _
          rw [if_pos b]
        rw [e]
        simp (disch := omega) only [nI_leI, hs_nI, eq_false c0, eq_true b', eq_true v8, ↓reduceIte, not_true_eq_false, not_false_eq_true, true_imp_iff, false_imp_iff, implies_true, and_true, true_and, eq_self]
        first | exact id | exact ⟨id, rfl⟩
      · have b' : ¬ (S.tks k).testBit t = true := by rw [tb]; exact b
        have e : bs (fun s => S.does s t) (k + 1) = bs (fun s => S.does s t) k := by
          show _ ||| (if S.does k t = true then 2 ^ k else 0) = _
          rw [if_neg b, Nat.or_zero]
        rw [e]
        simp (disch := omega) only [nI_leI, hs_nI, eq_false c0, eq_false b', eq_true v8, ↓reduceIte, not_true_eq_false, not_false_eq_true, true_imp_iff, false_imp_iff, implies_true, and_true, true_and, eq_self]
        first | exact id | exact ⟨id, rfl⟩
    · dsimp only
      rw [jX3_countingAtO_4, jX3_countingAtI_4, h.1]
      simp (disch := omega) only [nI_leI, eq_true (Nat.le_refl S.ns), ↓reduceIte, not_true_eq_false, not_false_eq_true, true_imp_iff, false_imp_iff, implies_true, and_true, true_and, eq_self]
      rfl
  obtain ⟨r1, r2⟩ := E.use (f := FU) (by rw [FU_eq]; omega)
  exact ⟨r1, r2⟩
def NK (sets : Nat → Nat) (n : Nat) (C : IM) : Prop := n ≤ 24 ∧ C 57 4 = nI n ∧ (∀ k, k < n → C 62 k = nI (sets k) ∧ sets k < 256) ∧ ∀ s, s < 8 → C 63 s = nI (bs (fun k => (sets k).testBit s) n)
theorem known_C {sets : Nat → Nat} (h : NK sets n C) {x : Nat} (hx : x < 256) : jX3_isKnownK C (nI x) ∧ ((∃ k, k < n ∧ sets k = x) → jX3_isKnown C (nI x) = 1) ∧ (¬ (∃ k, k < n ∧ sets k = x) → jX3_isKnown C (nI x) = 0) := by
  obtain ⟨h1, h2, h3, h4⟩ := h
  obtain ⟨A, B⟩ := Go.loopX (F := fun m (v : Int32) => jX3_isKnownI (nI x) m v C) (O := fun m v => jX3_isKnownO (nI x) m v C) (B := 1) (a := fun k => nI k) (ok := fun k => ¬ sets k = x) (b0 := 1) (b1 := 0) n n 0 (by omega)
    (fun k hk c => Go.one fun m => by
      have c0 : ¬ n ≤ k := by omega
      have v8 : vp_in (nI k) 24 := (vp_nI (by omega)).mpr (by omega)
      obtain ⟨q1, q2⟩ := h3 k hk
      rw [jX3_isKnownO_2, jX3_isKnownI_2, h2, nI_clamp (by omega), q1, nI_1]
      simp (disch := omega) only [nI_leI, nI_eq, eq_false c0, eq_false c, eq_true v8, ↓reduceIte, not_true_eq_false, not_false_eq_true, true_imp_iff, false_imp_iff, implies_true, and_true, true_and, eq_self]
      first | exact id | exact ⟨id, rfl⟩)
    (fun k hk c => Ends.one fun m => by
      have c0 : ¬ n ≤ k := by omega
      have v8 : vp_in (nI k) 24 := (vp_nI (by omega)).mpr (by omega)
      obtain ⟨q1, q2⟩ := h3 k hk
      have c' : sets k = x := Decidable.not_not.mp c
      rw [jX3_isKnownO_2, jX3_isKnownI_2, h2, nI_clamp (by omega), q1]
      simp (disch := omega) only [nI_leI, nI_eq, eq_false c0, eq_true c', eq_true v8, ↓reduceIte, not_true_eq_false, not_false_eq_true, true_imp_iff, false_imp_iff, implies_true, and_true, true_and, eq_self])
    (Ends.one fun m => by
      rw [jX3_isKnownO_2, jX3_isKnownI_2, h2]
      simp (disch := omega) only [nI_leI, eq_true (Nat.le_refl n), ↓reduceIte, not_true_eq_false, not_false_eq_true, true_imp_iff, false_imp_iff, implies_true, and_true, true_and, eq_self])
  unfold jX3_isKnownK jX3_isKnown
  by_cases c : ∃ k, k < n ∧ sets k = x
  · have nc : ¬ ∀ j, 0 ≤ j → j < n → ¬ sets j = x := fun q => by obtain ⟨k, k1, k2⟩ := c; exact q k (Nat.zero_le _) k1 k2
    obtain ⟨r1, r2⟩ := (B nc).use (f := FU) (by rw [FU_eq]; omega)
    exact ⟨r1, fun _ => r2, fun q => absurd c q⟩
  · have nc : ∀ j, 0 ≤ j → j < n → ¬ sets j = x := fun j _ k1 k2 => c ⟨j, k1, k2⟩
    obtain ⟨r1, r2⟩ := (A nc).use (f := FU) (by rw [FU_eq]; omega)
    exact ⟨r1, fun q => absurd q c, fun _ => r2⟩
theorem note_C (hsl : S.slOk) (h : UC S C) {sets : Nat → Nat} (hn : n < 24) (hk : NK sets n C) {x : Nat} (hx : x < 2 ^ S.ns) : jX3_noteK C (nI x) ∧ FrQ C (jX3_note C (nI x)) ∧ NK (put sets n x) (n + 1) (jX3_note C (nI x)) := by
  have h8 := hsl.1
  have hx8 : x < 256 := Nat.lt_of_lt_of_le hx (Nat.pow_le_pow_right (by omega) h8 : 2 ^ S.ns ≤ 2 ^ 8)
  obtain ⟨k1, k2, k3, k4⟩ := hk
  unfold jX3_noteK jX3_note
  rw [k2, nI_clamp (by omega)]
  have v24 : vp_in (nI n) 24 := (vp_nI (by omega)).mpr (by omega)
  have bl : ∀ s, bs (fun k => (sets k).testBit s) n < 2 ^ 24 := fun s => Nat.lt_of_lt_of_le (bs_lt _ _) (Nat.pow_le_pow_right (by omega) (by omega))
  obtain ⟨⟨v, C'⟩, ⟨e, p1, p2⟩, go⟩ := Go.loopE (F := fun m (t : Int32 × IM) => jX3_noteI (nI x) m (nI n) t.1 t.2) (O := fun m t => jX3_noteO (nI x) m (nI n) t.1 t.2) (B := 1) (P := fun k t => t.1 = nI k ∧ (∀ a b, a ≠ 63 → t.2 a b = up2 C 62 n (nI x) a b) ∧ ∀ s, s < 8 → t.2 63 s = nI (bs (fun k => (sets k).testBit s) n ||| (if s < k ∧ x.testBit s = true then 2 ^ n else 0))) S.ns
    (fun k hk t ht => by
      obtain ⟨v, I⟩ := t
      obtain ⟨e, p1, p2⟩ := ht
      dsimp only at e p1 p2
      subst e
      have c0 : ¬ S.ns ≤ k := by omega
      have e15 : I 15 1 = nI S.ns := by rw [p1 _ _ (by omega), up2_ap, if_neg (by omega)]; exact h.1
      have v8 : vp_in (nI k) 8 := (vp_nI (by omega)).mpr (by omega)
      by_cases b : x.testBit k = true
      · refine ⟨(nI (k + 1), up2 I 63 k (nI (bs (fun j => (sets j).testBit k) n ||| 2 ^ n))), ⟨rfl, fun a c q => ?_, fun s hs => ?_⟩, Go.one fun m => ?_⟩
        · dsimp only
          rw [up2_ap, if_neg (by omega)]; exact p1 a c q
        · dsimp only
          rw [up2_ap]
          by_cases es : s = k
          · subst es
            rw [if_pos ⟨rfl, rfl⟩, if_pos ⟨by omega, b⟩]
          · rw [if_neg (by omega), p2 s hs]
            by_cases q : s < k ∧ x.testBit s = true
            · rw [if_pos q, if_pos ⟨by omega, q.2⟩]
            · rw [if_neg q, if_neg (fun e => q ⟨by omega, e.2⟩)]
        · dsimp only
          rw [jX3_noteO_17, jX3_noteI_17, e15, nI_clamp (n := k) (by omega), p2 k (by omega), if_neg (by omega), Nat.or_zero, one_nI (by omega), or_nI, nI_1 k]
          simp (disch := omega) only [nI_leI, hs_nI, eq_false c0, eq_true b, eq_true v8, ↓reduceIte, not_true_eq_false, not_false_eq_true, true_imp_iff, false_imp_iff, implies_true, and_true, true_and, eq_self]
          first | exact id | exact ⟨id, rfl⟩
      · refine ⟨(nI (k + 1), I), ⟨rfl, p1, fun s hs => ?_⟩, Go.one fun m => ?_⟩
        · dsimp only
          rw [p2 s hs]
          by_cases q : s < k ∧ x.testBit s = true
          · rw [if_pos q, if_pos ⟨by omega, q.2⟩]
          · rw [if_neg q, if_neg (fun e => q ⟨by
              have : s ≠ k := fun z => b (z ▸ e.2)
              omega, e.2⟩)]
        · dsimp only
          rw [jX3_noteO_17, jX3_noteI_17, e15, nI_1 k]
          simp (disch := omega) only [nI_leI, hs_nI, eq_false c0, eq_false b, eq_true v8, ↓reduceIte, not_true_eq_false, not_false_eq_true, true_imp_iff, false_imp_iff, implies_true, and_true, true_and, eq_self]
          first | exact id | exact ⟨id, rfl⟩) (nI 0, up2 C 62 n (nI x)) ⟨rfl, fun _ _ _ => rfl, fun s hs => by dsimp only; rw [up2_ap, if_neg (by omega), if_neg (by omega), Nat.or_zero]; exact k4 s hs⟩
  dsimp only at e p1 p2
  subst e
  have e15 : C' 15 1 = nI S.ns := by rw [p1 _ _ (by omega), up2_ap, if_neg (by omega)]; exact h.1
  have e57 : C' 57 4 = nI n := by rw [p1 _ _ (by omega), up2_ap, if_neg (by omega)]; exact k2
  have E := go.ends (B2 := 1) (b := up2 C' 57 4 (nI (n + 1))) (Ends.one fun m => by
    dsimp only
    rw [jX3_noteO_17, jX3_noteI_17, e15, e57, nI_1 n]
    simp (disch := omega) only [nI_leI, eq_true (Nat.le_refl S.ns), ↓reduceIte, not_true_eq_false, not_false_eq_true, true_imp_iff, false_imp_iff, implies_true, and_true, true_and, eq_self])
  obtain ⟨r1, r2⟩ := E.use (f := FU) (by rw [FU_eq]; omega)
  dsimp only at r1 r2
  rw [← li0] at r1 r2
  rw [r2]
  refine ⟨⟨v24, r1⟩, fun a b q1 q2 q3 => ?_, by omega, up2_at _ _ _ _, fun k hk => ?_, fun s hs => ?_⟩
  · rw [up2_ap, if_neg q1, p1 _ _ q3, up2_ap, if_neg (by omega)]
  · rw [up2_ap, if_neg (by omega), p1 _ _ (by omega), up2_ap]
    by_cases e : k = n
    · subst e; rw [if_pos ⟨rfl, rfl⟩, put_at]; exact ⟨rfl, hx8⟩
    · rw [if_neg (by omega), put_ne _ _ e]; exact k3 k (by omega)
  · rw [up2_ap, if_neg (by omega), p2 s hs]
    congr 1
    show _ = bs (fun k => (put sets n x k).testBit s) n ||| (if (put sets n x n).testBit s = true then 2 ^ n else 0)
    have ec : bs (fun k => (put sets n x k).testBit s) n = bs (fun k => (sets k).testBit s) n := bs_congr fun k hk => by rw [put_ne _ _ (by omega)]
    rw [put_at, ec]
    by_cases q : x.testBit s = true
    · have z : s < S.ns := by
        by_cases z : s < S.ns
        · exact z
        · rw [bit_no hx (by omega)] at q; cases q
      rw [if_pos q, if_pos ⟨z, q⟩]
    · rw [if_neg q, if_neg (fun e => q e.2)]
/-- the unlike TICKS -/
theorem unlike_C (hsl : S.slOk) (h : UC S C) : jX3_findUnlikeTicksK C ∧ FrQ C (jX3_findUnlikeTicks C) ∧ ∃ n sets, NK sets n (jX3_findUnlikeTicks C) ∧ (∀ t, t < 24 → ∃ k, k < n ∧ sets k = S.cnt t) ∧ ∀ k, k < n → ∃ t, t < 24 ∧ sets k = S.cnt t := by
  have h8 := hsl.1
  unfold jX3_findUnlikeTicksK jX3_findUnlikeTicks
  have go1 := Go.loop (F := fun m (t : Nat × Int32 × IM) => jX3_findUnlikeTicksI m t.1 t.2.1 t.2.2) (O := fun m t => jX3_findUnlikeTicksO m t.1 t.2.1 t.2.2) (B := 1) (a := fun k => (0, nI k, rowU (up2 C 57 4 0) 63 0 (fun _ => 0) k)) 8 fun k hk => Go.one fun m => by
    dsimp only
    have c : ¬ 8 ≤ k := by omega
    have v8 : vp_in (nI k) 8 := (vp_nI (by omega)).mpr hk
    rw [jX3_findUnlikeTicksO_10, jX3_findUnlikeTicksI_10, li8, nI_clamp (by omega), nI_1, rowU_1, Nat.zero_add]
    simp (disch := omega) only [nI_leI, eq_false c, eq_true v8, ↓reduceIte, not_true_eq_false, not_false_eq_true, true_imp_iff, false_imp_iff, implies_true, and_true, true_and, eq_self]
    first | exact id | exact ⟨id, rfl⟩
  rw [rowU_0] at go1
  obtain ⟨A, hA⟩ : ∃ A, A = rowU (up2 C 57 4 0) 63 0 (fun _ => 0) 8 := ⟨_, rfl⟩
  rw [← hA] at go1
  have go2 : Go (fun m (t : Nat × Int32 × IM) => jX3_findUnlikeTicksI m t.1 t.2.1 t.2.2) (fun m t => jX3_findUnlikeTicksO m t.1 t.2.1 t.2.2) 1 (0, nI 8, A) (1, nI 0, A) := Go.one fun m => by
    dsimp only
    rw [jX3_findUnlikeTicksO_10, jX3_findUnlikeTicksI_10, li8, li0]
    simp (disch := omega) only [nI_leI, eq_true (Nat.le_refl 8), ↓reduceIte, not_true_eq_false, not_false_eq_true, true_imp_iff, false_imp_iff, implies_true, and_true, true_and, eq_self]
    first | exact id | exact ⟨id, rfl⟩
  have fA : FrQ C A := fun a b q1 q2 q3 => by rw [hA, rowU_ne (by omega), up2_ap, if_neg q1]
  have nA : NK (fun _ => 0) 0 A := by
    refine ⟨by omega, ?_, fun k hk => by omega, fun s hs => ?_⟩
    · rw [hA, rowU_ne (by omega), up2_at]; rfl
    · rw [hA]
      have := rowU_at (C := up2 C 57 4 0) (a := 63) (lo := 0) (g := fun _ => (0 : Int32)) (k := 8) hs
      rw [Nat.zero_add] at this; rw [this]; rfl
  obtain ⟨⟨tg, v, C'⟩, ⟨e0, e, p1, n, sets, p2, p3, p4, p5⟩, go3⟩ := Go.loopE (F := fun m (t : Nat × Int32 × IM) => jX3_findUnlikeTicksI m t.1 t.2.1 t.2.2) (O := fun m t => jX3_findUnlikeTicksO m t.1 t.2.1 t.2.2) (B := 1) (P := fun k t => t.1 = 1 ∧ t.2.1 = nI k ∧ FrQ C t.2.2 ∧ ∃ n sets, n ≤ k ∧ NK sets n t.2.2 ∧ (∀ t, t < k → ∃ i, i < n ∧ sets i = S.cnt t) ∧ ∀ i, i < n → ∃ t, t < k ∧ sets i = S.cnt t) 24
    (fun k hk t ht => by
      obtain ⟨tg, v, I⟩ := t
      obtain ⟨e0, e, p1, n, sets, p2, p3, p4, p5⟩ := ht
      dsimp only at e0 e p1 p3
      subst e0 e
      have hI := h.frq h8 p1
      obtain ⟨q1, q2⟩ := counting_C hsl hI hk
      obtain ⟨q3, q4, q5⟩ := known_C p3 (cnt_lt h8 k)
      have c : ¬ 24 ≤ k := by omega
      by_cases kn : ∃ i, i < n ∧ sets i = S.cnt k
      · refine ⟨(1, nI (k + 1), I), ⟨rfl, rfl, p1, n, sets, by omega, p3, fun t ht => ?_, fun i hi => ?_⟩, Go.one fun m => ?_⟩
        · by_cases et : t = k
          · subst et; exact kn
          · exact p4 t (by omega)
        · obtain ⟨t, t1, t2⟩ := p5 i hi
          exact ⟨t, by omega, t2⟩
        · dsimp only
          have z : ¬ jX3_isKnown I (nI (S.cnt k)) = 0 := by rw [q4 kn]; decide
          rw [jX3_findUnlikeTicksO_31, jX3_findUnlikeTicksI_31, li24, q2, nI_1]
          simp (disch := omega) only [nI_leI, eq_false c, eq_true q1, eq_true q3, eq_false z, ↓reduceIte, not_true_eq_false, not_false_eq_true, true_imp_iff, false_imp_iff, implies_true, and_true, true_and, eq_self]
          first | exact id | exact ⟨id, rfl⟩
      · obtain ⟨w1, w2, w3⟩ := note_C hsl hI (show n < 24 by omega) p3 (x := S.cnt k) (bs_lt _ _)
        refine ⟨(1, nI (k + 1), jX3_note I (nI (S.cnt k))), ⟨rfl, rfl, p1.trans w2, n + 1, put sets n (S.cnt k), by omega, w3, fun t ht => ?_, fun i hi => ?_⟩, Go.one fun m => ?_⟩
        · by_cases et : t = k
          · subst et; exact ⟨n, by omega, put_at _ _ _⟩
          · obtain ⟨i, i1, i2⟩ := p4 t (by omega)
            exact ⟨i, by omega, by rw [put_ne _ _ (by omega)]; exact i2⟩
        · by_cases ei : i = n
          · subst ei; exact ⟨k, by omega, put_at _ _ _⟩
          · obtain ⟨t, t1, t2⟩ := p5 i (by omega)
            exact ⟨t, by omega, by rw [put_ne _ _ ei]; exact t2⟩
        · dsimp only
          have z : jX3_isKnown I (nI (S.cnt k)) = 0 := q5 kn
          rw [jX3_findUnlikeTicksO_31, jX3_findUnlikeTicksI_31, li24, q2, nI_1]
          simp (disch := omega) only [nI_leI, eq_false c, eq_true q1, eq_true q3, eq_true z, eq_true w1, ↓reduceIte, not_true_eq_false, not_false_eq_true, true_imp_iff, false_imp_iff, implies_true, and_true, true_and, eq_self]
          first | exact id | exact ⟨id, rfl⟩) (1, nI 0, A) ⟨rfl, rfl, fA, 0, fun _ => 0, Nat.le_refl _, nA, fun t ht => by omega, fun i hi => by omega⟩
  dsimp only at e0 e p1 p3
  subst e0 e
  have E := (go1.trans (go2.trans go3)).ends (B2 := 1) (b := C') (Ends.one fun m => by
    dsimp only
    rw [jX3_findUnlikeTicksO_31, jX3_findUnlikeTicksI_31, li24]
    simp (disch := omega) only [nI_leI, eq_true (Nat.le_refl 24), ↓reduceIte, not_true_eq_false, not_false_eq_true, true_imp_iff, false_imp_iff, implies_true, and_true, true_and, eq_self])
  obtain ⟨r1, r2⟩ := E.use (f := FU) (by rw [FU_eq]; omega)
  dsimp only at r1 r2
  rw [← li0] at r1 r2
  rw [r2]
  exact ⟨r1, p1, n, sets, p3, p4, p5⟩
end UN
end
