noncomputable section
/-! keys and rows of a WAY -/
theorem rowB_split (B : Nat) : ∀ (q : List Nat) (c : Nat), rowB B q c = c * B ^ q.length + rowB B q 0
  | [], c => by simp [rowB]
  | l :: q, c => by
    show rowB B q (B * c + l) = c * B ^ (q.length + 1) + rowB B q (B * 0 + l)
    rw [rowB_split B q (B * c + l), rowB_split B q (B * 0 + l), Nat.pow_succ, Nat.add_mul, Nat.add_mul, Nat.mul_zero, Nat.zero_mul, Nat.zero_add, ← Nat.add_assoc]
    congr 2
    rw [Nat.mul_comm B c, Nat.mul_assoc, Nat.mul_comm B]
theorem rowB_digit {B : Nat} (hB : 0 < B) : ∀ (p : List Nat) (r k : Nat), (∀ l ∈ p, l < B) → k < p.length → rowB B p r / B ^ (p.length - 1 - k) % B = p.getD k 0
  | [], r, k, _, hk => absurd hk (Nat.not_lt_zero _)
  | l :: q, r, 0, h, _ => by
    show rowB B q (B * r + l) / B ^ (q.length + 1 - 1 - 0) % B = l
    rw [rowB_split, show q.length + 1 - 1 - 0 = q.length by omega]
    have h1 := rowB_lt q 0 (fun x hx => h x (List.mem_cons_of_mem _ hx))
    rw [Nat.zero_add, Nat.one_mul] at h1
    have hp : 0 < B ^ q.length := Nat.pow_pos hB
    rw [Nat.add_comm, Nat.add_mul_div_right _ _ hp, Nat.div_eq_of_lt h1, Nat.zero_add, Nat.mul_add_mod, Nat.mod_eq_of_lt (h l List.mem_cons_self)]
  | l :: q, r, k + 1, h, hk => by
    have hk' : k < q.length := by simpa using hk
    show rowB B q (B * r + l) / B ^ (q.length + 1 - 1 - (k + 1)) % B = (l :: q).getD (k + 1) 0
    rw [show q.length + 1 - 1 - (k + 1) = q.length - 1 - k by omega, rowB_digit hB q _ k (fun x hx => h x (List.mem_cons_of_mem _ hx)) hk']
    simp
section KEY
variable {S : St} {p : List Nat}
theorem late_key (h : wOk S p) : jLateOf (nI (keyN S p)) = nI (lateN S p) := by
  have h1 := row16_lt h
  have h2 := key_lt h
  have h3 := h.1
  unfold jLateOf
  rw [show (23 : Int32) = nI 23 from rfl, shr_nI h2 (by omega)]
  congr 1
  unfold keyN
  omega
theorem count_key (h : wOk S p) : jCountOf (nI (keyN S p)) = nI p.length := by
  have h1 := row16_lt h
  have h2 := key_lt h
  have h3 := h.1
  unfold jCountOf
  rw [show (20 : Int32) = nI 20 from rfl, shr_nI h2 (by omega), li7, and_nI]
  congr 1
  rw [show (7 : Nat) = 2 ^ 3 - 1 from rfl, Nat.and_two_pow_sub_one_eq_mod]
  unfold keyN
  omega
theorem key_digit (h : wOk S p) {j : Nat} (hj : j < p.length) : keyN S p / 16 ^ j % 16 = p.getD (p.length - 1 - j) 0 := by
  have h1 := row16_lt h
  have h3 := h.1
  have := rowB_digit (B := 16) (by decide) p 0 (p.length - 1 - j) (fun l hl => by have := (h.2 l hl).1; omega) (by omega)
  rw [show p.length - 1 - (p.length - 1 - j) = j by omega] at this
  rw [← this]
  unfold keyN
  have hj5 : j = 0 ∨ j = 1 ∨ j = 2 ∨ j = 3 ∨ j = 4 := by omega
  rcases hj5 with rfl | rfl | rfl | rfl | rfl <;> simp only [Nat.reducePow] <;> omega
end KEY
theorem neg_lt {a b : Nat} (h : a < b) (hb : b < 2 ^ 31) : ¬ 0 ≤ nI a - nI b := by
  rw [Int32.le_iff_toInt_le, Int32.toInt_sub, nI_toInt (by omega), nI_toInt hb]
  simp only [Int.bmod, Int32.toInt_zero]
  omega
theorem mem_set : ∀ (p : List Nat) (l : Nat), (setOf p).testBit l = true ↔ l ∈ p
  | [], l => by simp [setOf]
  | k :: p, l => by
    unfold setOf
    rw [Nat.testBit_or, pow_bit, Bool.or_eq_true, mem_set p l, List.mem_cons]
    simp [eq_comm]
theorem set_drop {p : List Nat} {j : Nat} (hj : j < p.length) : setOf (p.drop (p.length - (j + 1))) = setOf (p.drop (p.length - j)) ||| 2 ^ (p.getD (p.length - 1 - j) 0) := by
  have h1 : p.length - (j + 1) < p.length := by omega
  rw [List.drop_eq_getElem_cons h1, show p.length - (j + 1) + 1 = p.length - j by omega]
  show 2 ^ p[p.length - (j + 1)] ||| setOf (p.drop (p.length - j)) = _
  rw [Nat.or_comm]
  have e : p.getD (p.length - 1 - j) 0 = p[p.length - (j + 1)] := by
    rw [List.getD_eq_getElem?_getD, show p.length - 1 - j = p.length - (j + 1) by omega, List.getElem?_eq_getElem h1]
    rfl
  rw [e]
theorem linesIn_key {S : St} {p : List Nat} (h : wOk S p) (I : IM) : jLinesInK I (nI (keyN S p)) ∧ jLinesIn I (nI (keyN S p)) = nI (setOf p) := by
  have h2 := key_lt h
  have h3 := h.1
  unfold jLinesInK jLinesIn
  rw [count_key h]
  have E : Ends (fun n (s : Int32 × Int32 × Int32) => jLinesInI (nI (keyN S p)) n s.1 s.2.1 s.2.2 I) (fun n s => jLinesInO (nI (keyN S p)) n s.1 s.2.1 s.2.2 I) (p.length * 1 + 1) ((nI (setOf (p.drop (p.length - 0))), nI (keyN S p / 16 ^ 0), nI (p.length - 0)) : Int32 × Int32 × Int32) (nI (setOf (p.drop (p.length - p.length)))) := by
    refine Go.ends (Go.loop (a := fun j => (nI (setOf (p.drop (p.length - j))), nI (keyN S p / 16 ^ j), nI (p.length - j))) p.length fun j hj => Go.one fun n => ?_) (Ends.one fun n => ?_)
    · dsimp only
      have c0 : ¬ nI (p.length - j) ≤ 0 := nI_nle (by omega) (by omega)
      have hk : keyN S p / 16 ^ j < 2 ^ 31 := Nat.lt_of_le_of_lt (Nat.div_le_self _ _) h2
      have hd := key_digit h hj
      have hl : p.getD (p.length - 1 - j) 0 < 9 := by
        have : p.length - 1 - j < p.length := by omega
        rw [List.getD_eq_getElem?_getD, List.getElem?_eq_getElem this]
        exact (h.2 _ (List.getElem_mem _)).1
      have e1 : nI (keyN S p / 16 ^ j) &&& 15 = nI (p.getD (p.length - 1 - j) 0) := by
        rw [li15, and_nI, ← hd]
        congr 1
        exact Nat.and_two_pow_sub_one_eq_mod _ 4
      have e2 : nI (keyN S p / 16 ^ j) >>> ((4 : Int32) &&& 31) = nI (keyN S p / 16 ^ (j + 1)) := by
        rw [li4, shr_nI hk (by omega), Nat.div_div_eq_div_mul, Nat.pow_succ 16 j]
      have e3 : nI (p.length - j) + (-1) = nI (p.length - (j + 1)) := by
        rw [show p.length - j = p.length - (j + 1) + 1 by omega, ← nI_1, Int32.add_assoc]
        rw [show (1 : Int32) + -1 = 0 from by decide, Int32.add_zero]
      rw [jLinesInO_9, jLinesInI_9, e1, one_nI (by omega), or_nI, e2, e3, set_drop hj]
      simp only [eq_false c0, ↓reduceIte, not_true_eq_false, not_false_eq_true, true_imp_iff, false_imp_iff, implies_true, and_true, true_and, eq_self]
      first | exact id | exact ⟨id, rfl⟩
    · dsimp only
      have c0 : nI (p.length - p.length) ≤ 0 := by rw [Nat.sub_self]; decide
      rw [jLinesInO_9, jLinesInI_9]
      simp only [eq_true c0, ↓reduceIte, not_true_eq_false, not_false_eq_true, true_imp_iff, false_imp_iff, implies_true, and_true, true_and, eq_self]
  obtain ⟨r1, r2⟩ := E.use (f := FU) (by rw [FU_eq]; omega)
  rw [Nat.sub_self, List.drop_zero] at r2
  rw [Nat.sub_zero, List.drop_length, Nat.pow_zero, Nat.div_one] at r1 r2
  exact ⟨r1, r2⟩
/-- NODES of a WAY are the ends of its LINES -/
theorem nodes_mem {S : St} {b : Nat} : ∀ (p : List Nat) (x seen : Nat), S.path x seen b p → p ≠ [] → ∀ z, (nodesOf S x p).testBit z = true ↔ ∃ l, l ∈ p ∧ (z = S.ea l ∨ z = S.eb l)
  | [], _, _, _, h, _ => absurd rfl h
  | l :: p, x, seen, ⟨h1, h2, y, h3, h4, h5⟩, _, z => by
    have ho : (x = S.ea l ∧ y = S.eb l) ∨ (x = S.eb l ∧ y = S.ea l) := by
      unfold St.oth at h3
      split at h3
      · rename_i e; cases h3; exact .inl ⟨e, rfl⟩
      · split at h3
        · rename_i e; cases h3; exact .inr ⟨e, rfl⟩
        · cases h3
    unfold nodesOf
    rw [h3, Nat.testBit_or, pow_bit, Bool.or_eq_true, Option.getD_some]
    by_cases hp : p = []
    · subst hp
      unfold nodesOf
      rw [pow_bit]
      simp only [decide_eq_true_eq, List.mem_singleton]
      constructor
      · intro q; exact ⟨l, rfl, by omega⟩
      · rintro ⟨k, rfl, q⟩; omega
    · have ih := nodes_mem p y _ h5 hp
      rw [ih z]
      simp only [decide_eq_true_eq, List.mem_cons]
      constructor
      · rintro (q | ⟨k, q1, q2⟩)
        · exact ⟨l, .inl rfl, by omega⟩
        · exact ⟨k, .inr q1, q2⟩
      · rintro ⟨k, rfl | q1, q2⟩
        · have hy : (nodesOf S y p).testBit y = true := nodes_self S y p
          by_cases c : x = z
          · exact .inl c
          · have : z = y := by omega
            subst this
            exact .inr ((ih z).mp hy)
        · exact .inr ⟨k, q1, q2⟩
/-- the ends of a set of LINES -/
def St.endsOf (S : St) (s : Nat) : Nat → Nat
  | 0 => 0
  | l + 1 => S.endsOf s l ||| (if s.testBit l = true then 2 ^ S.ea l ||| 2 ^ S.eb l else 0)
theorem ends_bit {S : St} {s z : Nat} : ∀ n, (S.endsOf s n).testBit z = true ↔ ∃ l, l < n ∧ s.testBit l = true ∧ (z = S.ea l ∨ z = S.eb l)
  | 0 => by simp [St.endsOf]
  | n + 1 => by
    unfold St.endsOf
    rw [Nat.testBit_or, Bool.or_eq_true, ends_bit n]
    constructor
    · rintro (⟨l, h1, h2⟩ | h)
      · exact ⟨l, by omega, h2⟩
      · by_cases c : s.testBit n = true
        · rw [if_pos c, Nat.testBit_or, pow_bit, pow_bit] at h
          simp only [Bool.or_eq_true, decide_eq_true_eq] at h
          exact ⟨n, by omega, c, by omega⟩
        · rw [if_neg c] at h; simp at h
    · rintro ⟨l, h1, h2, h3⟩
      by_cases e : l = n
      · subst e
        right
        rw [if_pos h2, Nat.testBit_or, pow_bit, pow_bit]
        simp only [Bool.or_eq_true, decide_eq_true_eq]
        omega
      · exact .inl ⟨l, by omega, h2, h3⟩
theorem nodesOn_C {S : St} (hN : S.netOk) {C : IM} (hC : cNet S C) {s : Nat} (hs : s < 512) : jX5_nodesOnK C (nI s) ∧ jX5_nodesOn C (nI s) = nI (S.endsOf s S.nl) := by
  have h9 := hN.2.1
  have h6 := hN.1
  unfold jX5_nodesOnK jX5_nodesOn
  have E : Ends (fun n (t : Int32 × Int32) => jX5_nodesOnI (nI s) n t.1 t.2 C) (fun n t => jX5_nodesOnO (nI s) n t.1 t.2 C) (S.nl * 1 + 1) ((nI 0, nI 0) : Int32 × Int32) (nI (S.endsOf s S.nl)) := by
    refine Go.ends (Go.loop (a := fun k => (nI (S.endsOf s k), nI k)) S.nl fun l hl => Go.one fun n => ?_) (Ends.one fun n => ?_)
    · dsimp only
      have v : vp_in (nI l) 9 := (vp_nI (by omega)).mpr (by omega)
      have c0 : ¬ S.nl ≤ l := by omega
      obtain ⟨k1, k2, -⟩ := hN.2.2.2.2 l hl
      rw [jX5_nodesOnO_4, jX5_nodesOnI_4, hC.2.1, nI_clamp (by omega), (hC.2.2.2 l (by omega)).1, (hC.2.2.2 l (by omega)).2.1, one_nI (by omega), one_nI (by omega), or_nI, or_nI, nI_1, St.endsOf]
      by_cases c : s.testBit l = true
      · simp (disch := omega) only [nI_leI, hs_nI, eq_false c0, eq_true c, eq_true v, ↓reduceIte, not_true_eq_false, not_false_eq_true, true_imp_iff, false_imp_iff, implies_true, and_true, true_and, eq_self]
        first | exact id | exact ⟨id, rfl⟩
      · simp (disch := omega) only [nI_leI, hs_nI, eq_false c0, eq_false c, eq_true v, Nat.or_zero, ↓reduceIte, not_true_eq_false, not_false_eq_true, true_imp_iff, false_imp_iff, implies_true, and_true, true_and, eq_self]
        first | exact id | exact ⟨id, rfl⟩
    · dsimp only
      have c0 : S.nl ≤ S.nl := Nat.le_refl _
      rw [jX5_nodesOnO_4, jX5_nodesOnI_4, hC.2.1]
      simp (disch := omega) only [nI_leI, eq_true c0, ↓reduceIte, not_true_eq_false, not_false_eq_true, true_imp_iff, false_imp_iff, implies_true, and_true, true_and, eq_self]
  exact E.use (by rw [FU_eq]; omega)
theorem path_lt {S : St} {b : Nat} : ∀ (p : List Nat) (x seen : Nat), S.path x seen b p → ∀ l ∈ p, l < S.nl
  | [], _, _, _, _, h => absurd h List.not_mem_nil
  | k :: p, x, seen, ⟨_, h2, y, _, _, h5⟩, l, h => by
    rcases List.mem_cons.mp h with h | h
    · rw [h]; exact h2
    · exact path_lt p y _ h5 l h
theorem ends_path {S : St} {a b : Nat} {p : List Nat} (h : S.path a (2 ^ a) b p) (hab : a ≠ b) : S.endsOf (setOf p) S.nl = nodesOf S a p := by
  have hp : p ≠ [] := fun e => by rw [e] at h; exact hab h
  refine set_eq fun z => ?_
  have h1 := ends_bit (S := S) (s := setOf p) (z := z) S.nl
  have h2 := nodes_mem p a _ h hp z
  have : ((S.endsOf (setOf p) S.nl).testBit z = true) ↔ ((nodesOf S a p).testBit z = true) := by
    rw [h1, h2]
    constructor
    · rintro ⟨l, _, q2, q3⟩; exact ⟨l, (mem_set p l).mp q2, q3⟩
    · rintro ⟨l, q2, q3⟩; exact ⟨l, path_lt p a _ h l q2, (mem_set p l).mpr q2, q3⟩
  cases e1 : (S.endsOf (setOf p) S.nl).testBit z <;> cases e2 : (nodesOf S a p).testBit z <;> simp_all
end
