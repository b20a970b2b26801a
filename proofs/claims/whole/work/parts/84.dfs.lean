noncomputable section
/-! WAYS in order: insertion from the right, and the search in depth -/
def insF {α : Type} (ah : α → α → Bool) (f : Nat → α) : Nat → α → Nat → α
  | 0, w => fun k => if k = 0 then w else f k
  | n + 1, w => if ah w (f n) = true then (fun k => if k = n + 1 then f n else insF ah f n w k) else (fun k => if k = n + 1 then w else f k)
theorem insF_out {α : Type} (ah : α → α → Bool) (f : Nat → α) (w : α) : ∀ n k, n < k → insF ah f n w k = f k
  | 0, k, h => by unfold insF; exact if_neg (by omega)
  | n + 1, k, h => by
    unfold insF
    split
    · show (if k = n + 1 then f n else insF ah f n w k) = f k
      rw [if_neg (by omega)]; exact insF_out ah f w n k (by omega)
    · exact if_neg (by omega)
/-- what all have, and the new one, all have then -/
theorem insF_all {α : Type} {ah : α → α → Bool} {f : Nat → α} {w : α} {Q : α → Prop} (hw : Q w) : ∀ n, (∀ k, k < n → Q (f k)) → ∀ k, k < n + 1 → Q (insF ah f n w k)
  | 0, _, k, hk => by
    unfold insF
    rw [if_pos (by omega)]; exact hw
  | n + 1, h, k, hk => by
    unfold insF
    split
    · show Q (if k = n + 1 then f n else insF ah f n w k)
      split
      · exact h n (by omega)
      · exact insF_all hw n (fun k hk => h k (by omega)) k (by omega)
    · show Q (if k = n + 1 then w else f k)
      split
      · exact hw
      · exact h k (by omega)
/-- in order it stays in order -/
theorem insF_sorted {α : Type} {ah : α → α → Bool} {f : Nat → α} {w : α} {g : α → Nat} (hg : ∀ x y, ah x y = true → g x ≤ g y) (hn : ∀ x y, ah x y = false → g y ≤ g x) : ∀ n, (∀ i j, i ≤ j → j < n → g (f i) ≤ g (f j)) → ∀ i j, i ≤ j → j < n + 1 → g (insF ah f n w i) ≤ g (insF ah f n w j) := by
  intro n
  induction n with
  | zero =>
    intro _ i j h1 h2
    obtain rfl : j = 0 := by omega
    obtain rfl : i = 0 := by omega
    exact Nat.le_refl _
  | succ n ih =>
    intro h i j h1 h2
    have ih := ih (fun i j a b => h i j a (by omega))
    unfold insF
    by_cases ha : ah w (f n) = true
    · rw [if_pos ha]
      show g (if i = n + 1 then f n else insF ah f n w i) ≤ g (if j = n + 1 then f n else insF ah f n w j)
      by_cases hj : j = n + 1
      · rw [if_pos hj]
        by_cases hi : i = n + 1
        · rw [if_pos hi]; exact Nat.le_refl _
        · rw [if_neg hi]
          exact insF_all (Q := fun x => g x ≤ g (f n)) (hg _ _ ha) n (fun k hk => h k n (by omega) (by omega)) i (by omega)
      · rw [if_neg hj, if_neg (by omega)]
        exact ih i j h1 (by omega)
    · rw [if_neg ha]
      show g (if i = n + 1 then w else f i) ≤ g (if j = n + 1 then w else f j)
      have hle := hn _ _ (Bool.eq_false_iff.mpr ha)
      by_cases hj : j = n + 1
      · rw [if_pos hj]
        by_cases hi : i = n + 1
        · rw [if_pos hi]; exact Nat.le_refl _
        · rw [if_neg hi]
          exact Nat.le_trans (h i n (by omega) (by omega)) hle
      · rw [if_neg hj, if_neg (by omega)]
        exact h i j h1 (by omega)
/-! keys -/
def rowB (B : Nat) : List Nat → Nat → Nat
  | [], r => r
  | l :: p, r => rowB B p (B * r + l)
theorem rowB_lt {B : Nat} : ∀ (p : List Nat) (r : Nat), (∀ l ∈ p, l < B) → rowB B p r < (r + 1) * B ^ p.length
  | [], r, _ => by simp [rowB]
  | l :: p, r, h => by
    have h1 := rowB_lt p (B * r + l) (fun x hx => h x (List.mem_cons_of_mem _ hx))
    have h2 : l < B := h l List.mem_cons_self
    refine Nat.lt_of_lt_of_le h1 ?_
    rw [List.length_cons, Nat.pow_succ, Nat.mul_comm (B ^ _) B, ← Nat.mul_assoc]
    refine Nat.mul_le_mul_right _ ?_
    rw [Nat.add_mul, Nat.one_mul, Nat.mul_comm B r]; omega
theorem rowB_app (B : Nat) : ∀ (p : List Nat) (l r : Nat), rowB B (p ++ [l]) r = B * rowB B p r + l
  | [], l, r => rfl
  | x :: p, l, r => rowB_app B p l (B * r + x)
def lexLt : List Nat → List Nat → Bool
  | x :: p, y :: q => decide (x < y) || (decide (x = y) && lexLt p q)
  | _, _ => false
theorem rowB_lex {B : Nat} : ∀ (p q : List Nat) (a c : Nat), p.length = q.length → (∀ l ∈ p, l < B) → (∀ l ∈ q, l < B) → (rowB B p a < rowB B q c ↔ a < c ∨ a = c ∧ lexLt p q = true)
  | [], [], a, c, _, _, _ => by simp [rowB, lexLt]
  | [], _ :: _, _, _, h, _, _ => by simp at h
  | _ :: _, [], _, _, h, _, _ => by simp at h
  | x :: p, y :: q, a, c, h, hp, hq => by
    have hx : x < B := hp x List.mem_cons_self
    have hy : y < B := hq y List.mem_cons_self
    have ih := rowB_lex (B := B) p q (B * a + x) (B * c + y) (by simpa using h) (fun l hl => hp l (List.mem_cons_of_mem _ hl)) (fun l hl => hq l (List.mem_cons_of_mem _ hl))
    show rowB B p (B * a + x) < rowB B q (B * c + y) ↔ _
    rw [ih]
    have e : (B * a + x < B * c + y ↔ a < c ∨ a = c ∧ x < y) ∧ (B * a + x = B * c + y ↔ a = c ∧ x = y) := by
      rcases Nat.lt_trichotomy a c with h1 | h1 | h1
      · have : B * (a + 1) ≤ B * c := Nat.mul_le_mul_left B h1
        rw [Nat.mul_add, Nat.mul_one] at this
        constructor <;> constructor <;> intro <;> omega
      · subst h1; constructor <;> constructor <;> intro <;> omega
      · have : B * (c + 1) ≤ B * a := Nat.mul_le_mul_left B h1
        rw [Nat.mul_add, Nat.mul_one] at this
        constructor <;> constructor <;> intro <;> omega
    rw [e.1, e.2]
    simp only [lexLt, Bool.or_eq_true, Bool.and_eq_true, decide_eq_true_eq]
    constructor
    · rintro ((h1 | ⟨h1, h2⟩) | ⟨⟨h1, h2⟩, h3⟩)
      · exact .inl h1
      · exact .inr ⟨h1, .inl h2⟩
      · exact .inr ⟨h1, .inr ⟨h2, h3⟩⟩
    · rintro (h1 | ⟨h1, h2 | ⟨h2, h3⟩⟩)
      · exact .inl (.inl h1)
      · exact .inl (.inr ⟨h1, h2⟩)
      · exact .inr ⟨⟨h1, h2⟩, h3⟩
theorem rowN_eq : ∀ (p : List Nat) (r : Nat), rowN p r = rowB 10 p r
  | [], _ => rfl
  | l :: p, r => rowN_eq p (10 * r + l)
/-- a WAY's key -/
def keyN (S : St) (p : List Nat) : Nat := lateN S p * 8388608 + p.length * 1048576 + rowB 16 p 0
/-- a WAY that can be: at most 5 LINES, numbered below 9, LATENESS below 9 each -/
def wOk (S : St) (p : List Nat) : Prop := p.length ≤ 5 ∧ (∀ l ∈ p, l < 9 ∧ S.lt l ≤ 9)
theorem late_le {S : St} : ∀ (p : List Nat), (∀ l ∈ p, l < 9 ∧ S.lt l ≤ 9) → lateN S p ≤ 9 * p.length
  | [], _ => Nat.le_refl _
  | l :: p, h => by
    have h1 := late_le p (fun x hx => h x (List.mem_cons_of_mem _ hx))
    have h2 := (h l List.mem_cons_self).2
    show S.lt l + lateN S p ≤ 9 * (p.length + 1)
    omega
theorem late_app (S : St) : ∀ (p : List Nat) (l : Nat), lateN S (p ++ [l]) = lateN S p + S.lt l
  | [], l => by simp [lateN]
  | x :: p, l => by
    show S.lt x + lateN S (p ++ [l]) = S.lt x + lateN S p + S.lt l
    rw [late_app S p l]; omega
theorem row16_lt {S : St} {p : List Nat} (h : wOk S p) : rowB 16 p 0 < 1048576 := by
  have h1 := rowB_lt (B := 16) p 0 (fun l hl => by have := (h.2 l hl).1; omega)
  have h2 : 16 ^ p.length ≤ 16 ^ 5 := Nat.pow_le_pow_right (by decide) h.1
  omega
theorem row16_lt4 {S : St} {p : List Nat} (h : wOk S p) (h4 : p.length ≤ 4) : rowB 16 p 0 < 65536 := by
  have h1 := rowB_lt (B := 16) p 0 (fun l hl => by have := (h.2 l hl).1; omega)
  have h2 : 16 ^ p.length ≤ 16 ^ 4 := Nat.pow_le_pow_right (by decide) h4
  omega
theorem key_lt {S : St} {p : List Nat} (h : wOk S p) : keyN S p < 2 ^ 31 := by
  have h1 := row16_lt h
  have h2 := late_le p h.2
  have h3 := h.1
  unfold keyN
  omega
/-- which of two is ahead, as the reference asks -/
def ahd (S : St) (p q : List Nat) : Bool := decide (lateN S p < lateN S q) || (decide (lateN S p = lateN S q) && (decide (p.length < q.length) || (decide (p.length = q.length) && decide (rowN p 0 < rowN q 0))))
theorem ahd_key {S : St} {p q : List Nat} (hp : wOk S p) (hq : wOk S q) : ahd S p q = true ↔ keyN S p < keyN S q := by
  have h1 := row16_lt hp
  have h2 := row16_lt hq
  have h3 := hp.1
  have h4 := hq.1
  have e : p.length = q.length → (rowN p 0 < rowN q 0 ↔ rowB 16 p 0 < rowB 16 q 0) := by
    intro e
    rw [rowN_eq, rowN_eq, rowB_lex p q 0 0 e (fun l hl => by have := (hp.2 l hl).1; omega) (fun l hl => by have := (hq.2 l hl).1; omega), rowB_lex p q 0 0 e (fun l hl => by have := (hp.2 l hl).1; omega) (fun l hl => by have := (hq.2 l hl).1; omega)]
  unfold ahd keyN
  simp only [Bool.or_eq_true, Bool.and_eq_true, decide_eq_true_eq]
  constructor
  · rintro (h | ⟨h, h5 | ⟨h5, h6⟩⟩)
    · omega
    · omega
    · have := (e h5).mp h6; omega
  · intro h
    by_cases h5 : lateN S p < lateN S q
    · exact .inl h5
    · have h6 : lateN S p = lateN S q := by omega
      refine .inr ⟨h6, ?_⟩
      by_cases h7 : p.length < q.length
      · exact .inl h7
      · have h8 : p.length = q.length := by omega
        exact .inr ⟨h8, (e h8).mpr (by omega)⟩
/-! the search: all WAYS on from x, in the order in which they are met -/
abbrev Acc : Type := (Nat → List Nat) × Nat
/-- the LINES below l, one behind the other -/
def lpA (S : St) (x seen : Nat) (p : List Nat) (F : Nat → Nat → List Nat → Acc → Acc) (A : Acc) : Nat → Acc
  | 0 => A
  | l + 1 => match S.oth l x with
    | none => lpA S x seen p F A l
    | some y => if seen.testBit y = true then lpA S x seen p F A l else F y (seen ||| 2 ^ y) (p ++ [l]) (lpA S x seen p F A l)
def dfs (S : St) (b : Nat) : Nat → Nat → Nat → List Nat → Acc → Acc
  | 0, _, _, _, A => A
  | k + 1, x, seen, p, A => if x = b then (insF (ahd S) A.1 A.2 p, A.2 + 1) else lpA S x seen p (dfs S b k) A S.nl
def cnt (S : St) (b : Nat) : Nat → Nat → Nat → Nat
  | 0, _, _ => 0
  | k + 1, x, seen => if x = b then 1 else sm (fun l => match S.oth l x with
        | none => 0
        | some y => if seen.testBit y = true then 0 else cnt S b k y (seen ||| 2 ^ y)) S.nl

theorem dfs_cnt (S : St) (b : Nat) : ∀ (k x seen : Nat) (p : List Nat) (A : Acc), (dfs S b k x seen p A).2 = A.2 + cnt S b k x seen
  | 0, _, _, _, _ => rfl
  | k + 1, x, seen, p, A => by
    unfold dfs cnt
    split
    · rfl
    · have : ∀ n, (lpA S x seen p (dfs S b k) A n).2 = A.2 + sm (fun l => match S.oth l x with
        | none => 0
        | some y => if seen.testBit y = true then 0 else cnt S b k y (seen ||| 2 ^ y)) n := by
        intro n
        induction n with
        | zero => rfl
        | succ n ih =>
          unfold lpA sm
          cases h : S.oth n x with
          | none => simpa using ih
          | some y =>
            dsimp only
            split
            · simpa using ih
            · rw [dfs_cnt S b k, ih]; omega
      exact this S.nl
/-- a WAY so far, from a to x -/
def Pre (S : St) (a b x seen : Nat) (p : List Nat) : Prop := ∀ Q : Nat → Nat → List Nat → Prop, Q a (2 ^ a) [] → (∀ (x seen : Nat) (p : List Nat) (l y : Nat), Q x seen p → x ≠ b → l < S.nl → S.oth l x = some y → seen.testBit y = false → Q y (seen ||| 2 ^ y) (p ++ [l])) → Q x seen p
theorem Pre.nil {S : St} {a b : Nat} : Pre S a b a (2 ^ a) [] := fun _ h _ => h
theorem Pre.snoc {S : St} {a b x seen : Nat} {p : List Nat} {l y : Nat} (h : Pre S a b x seen p) (h1 : x ≠ b) (h2 : l < S.nl) (h3 : S.oth l x = some y) (h4 : seen.testBit y = false) : Pre S a b y (seen ||| 2 ^ y) (p ++ [l]) := fun Q q0 q1 => q1 x seen p l y (h Q q0 q1) h1 h2 h3 h4
theorem Pre.ind {S : St} {a b : Nat} {Q : ∀ (x seen : Nat) (p : List Nat), Pre S a b x seen p → Prop} (nil : Q a (2 ^ a) [] Pre.nil) (snoc : ∀ {x seen : Nat} {p : List Nat} {l y : Nat} (h1 : Pre S a b x seen p) (h2 : x ≠ b) (h3 : l < S.nl) (h4 : S.oth l x = some y) (h5 : seen.testBit y = false), Q x seen p h1 → Q y (seen ||| 2 ^ y) (p ++ [l]) (Pre.snoc h1 h2 h3 h4 h5)) {x seen : Nat} {p : List Nat} (h : Pre S a b x seen p) : Q x seen p h := by
  obtain ⟨_, q⟩ := h (fun x seen p => ∃ h : Pre S a b x seen p, Q x seen p h) ⟨_, nil⟩ (fun x seen p l y ⟨h1, q⟩ h2 h3 h4 h5 => ⟨_, snoc h1 h2 h3 h4 h5 q⟩)
  exact q
theorem Pre.path {S : St} {a b x seen : Nat} {p : List Nat} (h : Pre S a b x seen p) : ∀ q, S.path x seen b q → S.path a (2 ^ a) b (p ++ q) := by
  induction h using Pre.ind with
  | nil => intro q hq; exact hq
  | snoc h1 h2 h3 h4 h5 ih =>
    intro q hq
    rw [List.append_assoc]
    exact ih _ ⟨h2, h3, _, h4, h5, hq⟩
theorem Pre.done {S : St} {a b seen : Nat} {p : List Nat} (h : Pre S a b b seen p) : S.path a (2 ^ a) b p := by
  have := h.path [] rfl
  rwa [List.append_nil] at this
theorem nodes_self (S : St) (x : Nat) (q : List Nat) : (nodesOf S x q).testBit x = true := by
  cases q with
  | nil => unfold nodesOf; rw [pow_bit]; simp
  | cons l q => unfold nodesOf; rw [Nat.testBit_or, pow_bit]; simp
theorem Pre.self {S : St} {a b x seen : Nat} {p : List Nat} (h : Pre S a b x seen p) : seen.testBit x = true := by
  induction h using Pre.ind with
  | nil => rw [pow_bit]; simp
  | snoc => rw [Nat.testBit_or, pow_bit]; simp
theorem Pre.nodes {S : St} {a b x seen : Nat} {p : List Nat} (h : Pre S a b x seen p) : ∀ q, nodesOf S a (p ++ q) = seen ||| nodesOf S x q := by
  induction h using Pre.ind with
  | nil =>
    intro q
    apply set_eq
    intro k
    rw [Nat.testBit_or, pow_bit, List.nil_append]
    by_cases hk : a = k
    · subst hk; rw [nodes_self]; simp
    · simp [hk]
  | @snoc x seen p l y h1 h2 h3 h4 h5 ih =>
    intro q
    rw [List.append_assoc, ih]
    show seen ||| (2 ^ x ||| nodesOf S ((S.oth l x).getD 0) q) = _
    rw [h4]
    apply set_eq
    intro k
    have e1 := h1.self
    have e2 := nodes_self S y q
    simp only [Nat.testBit_or, pow_bit, Option.getD_some]
    by_cases hk : x = k
    · subst hk; simp [e1]
    · by_cases hk2 : y = k
      · subst hk2; simp [e2]
      · simp [hk, hk2]
theorem Pre.seen {S : St} {a b x seen : Nat} {p : List Nat} (h : Pre S a b x seen p) : nodesOf S a p = seen := by
  have := h.nodes []
  rw [List.append_nil] at this
  rw [this]
  apply set_eq
  intro k
  unfold nodesOf
  rw [Nat.testBit_or, pow_bit]
  by_cases hk : x = k
  · subst hk; simp [h.self]
  · simp [hk]
theorem oth_lt {S : St} (hS : S.netOk) {l x y : Nat} (hl : l < S.nl) (h : S.oth l x = some y) : y < S.nn ∧ x < S.nn ∧ (x = S.ea l ∧ y = S.eb l ∨ x = S.eb l ∧ y = S.ea l) := by
  obtain ⟨h1, h2, h3, -⟩ := hS.2.2.2.2 l hl
  unfold St.oth at h
  split at h
  · rename_i e; cases h; exact ⟨h2, e ▸ h1, .inl ⟨e, rfl⟩⟩
  · split at h
    · rename_i e; cases h; exact ⟨h1, e ▸ h2, .inr ⟨e, rfl⟩⟩
    · cases h
/-- how many NODES were met -/
def pop6 (s : Nat) : Nat := sm (fun a => if s.testBit a = true then 1 else 0) 6
theorem pop6_add {s y : Nat} (hy : y < 6) (h : s.testBit y = false) : pop6 (s ||| 2 ^ y) = pop6 s + 1 := by
  have := sm_one (f := fun a => if (s ||| 2 ^ y).testBit a = true then 1 else 0) (g := fun a => if s.testBit a = true then 1 else 0) (k := y) 6 hy (fun i hi hne => by
    have : (2 ^ y).testBit i = false := by rw [pow_bit, decide_eq_false (fun q => hne q.symm)]
    simp [Nat.testBit_or, this])
  simp only [Nat.testBit_or, pow_bit, h] at this
  unfold pop6
  simp only [Nat.testBit_or, pow_bit]
  simpa using this
theorem Pre.pop {S : St} (hS : S.netOk) {a b x seen : Nat} {p : List Nat} (ha : a < S.nn) (h : Pre S a b x seen p) : pop6 seen = p.length + 1 ∧ x < S.nn ∧ seen < 64 ∧ ∀ l ∈ p, l < S.nl := by
  have h6 := hS.1
  induction h using Pre.ind with
  | nil =>
    refine ⟨?_, ha, ?_, by simp⟩
    · exact (by decide +kernel : ∀ a, a < 6 → pop6 (2 ^ a) = 1) a (by omega)
    · exact (by decide +kernel : ∀ a, a < 6 → 2 ^ a < 64) a (by omega)
  | snoc h1 h2 h3 h4 h5 ih =>
    obtain ⟨i1, i2, i3, i4⟩ := ih
    have hy := (oth_lt hS h3 h4).1
    refine ⟨?_, hy, ?_, ?_⟩
    · rw [pop6_add (by omega) h5, i1, List.length_append]; rfl
    · exact or_lt (m := 6) i3 ((by decide +kernel : ∀ a, a < 6 → 2 ^ a < 2 ^ 6) _ (by omega))
    · intro l hl
      rcases List.mem_append.mp hl with h | h
      · exact i4 l h
      · rw [List.mem_singleton.mp h]; exact h3
theorem pop6_le (s : Nat) : pop6 s ≤ 6 := by
  have := sm_le (f := fun a => if s.testBit a = true then 1 else 0) (B := 1) 6 (fun i _ => by split <;> omega)
  simpa [pop6] using this
theorem pop6_full {s : Nat} (h : pop6 s = 6) {a : Nat} (ha : a < 6) : s.testBit a = true := by
  by_cases hb : s.testBit a = true
  · exact hb
  · have := pop6_add ha (Bool.eq_false_iff.mpr hb)
    have := pop6_le (s ||| 2 ^ a)
    omega
theorem Pre.len {S : St} (hS : S.netOk) {a b x seen : Nat} {p : List Nat} (ha : a < S.nn) (h : Pre S a b x seen p) : p.length ≤ 5 := by
  have h1 := (h.pop hS ha).1
  have h2 := pop6_le seen
  omega
theorem Pre.wOk {S : St} (hS : S.netOk) {a b x seen : Nat} {p : List Nat} (ha : a < S.nn) (h : Pre S a b x seen p) : wOk S p := by
  refine ⟨h.len hS ha, fun l hl => ?_⟩
  have h1 := (h.pop hS ha).2.2.2 l hl
  have h2 := hS.2.2.2.2 l h1
  have h3 := hS.2.1
  exact ⟨by omega, h2.2.2.2.2.2.2.1⟩
/-- at 6 NODES nothing goes on -/
theorem Pre.stop {S : St} (hS : S.netOk) {a b x seen : Nat} {p : List Nat} (ha : a < S.nn) (h : Pre S a b x seen p) (h5 : p.length = 5) (F : Nat → Nat → List Nat → Acc → Acc) (A : Acc) : ∀ n, n ≤ S.nl → lpA S x seen p F A n = A := by
  have h1 := (h.pop hS ha).1
  have h6 := hS.1
  intro n
  induction n with
  | zero => intro _; rfl
  | succ n ih =>
    intro hn
    unfold lpA
    cases e : S.oth n x with
    | none => exact ih (by omega)
    | some y =>
      dsimp only
      have hy := (oth_lt hS (by omega) e).1
      rw [if_pos (pop6_full (by omega) (by omega))]
      exact ih (by omega)
/-! at most 27 -/
def f27 (m : Nat) : Nat := match m with
  | 0 => 1 | 1 => 1 | 2 => 2 | 3 => 3 | 4 => 4 | 5 => 6 | 6 => 9 | 7 => 12 | 8 => 18 | _ => 27
theorem f27_step : ∀ m, m ≤ 9 → ∀ d, d ≤ m → 1 ≤ d → ∀ q, q ≤ m - d → d * f27 q ≤ f27 m := by decide +kernel
def inU (S : St) (x seen l : Nat) : Bool := (decide (S.ea l = x) || !seen.testBit (S.ea l)) && (decide (S.eb l = x) || !seen.testBit (S.eb l))
def uC (S : St) (x seen : Nat) : Nat := sm (fun l => if inU S x seen l = true then 1 else 0) S.nl
def isGo (S : St) (x seen l : Nat) : Bool := match S.oth l x with
  | none => false
  | some y => !seen.testBit y
def dC (S : St) (x seen : Nat) : Nat := sm (fun l => if isGo S x seen l = true then 1 else 0) S.nl
theorem sm_add {f g h : Nat → Nat} : ∀ n, (∀ i, i < n → f i + g i ≤ h i) → sm f n + sm g n ≤ sm h n
  | 0, _ => Nat.le_refl _
  | n + 1, e => by
    have h1 := sm_add n (fun i hi => e i (by omega))
    have h2 := e n (by omega)
    unfold sm
    omega
theorem uC_step {S : St} (hS : S.netOk) {x y l seen : Nat} (hl : l < S.nl) (h : S.oth l x = some y) (hs : seen.testBit y = false) (hx : seen.testBit x = true) : uC S y (seen ||| 2 ^ y) + dC S x seen ≤ uC S x seen := by
  unfold uC dC
  apply sm_add
  intro i hi
  have e1 := hS.2.2.2.2 i hi
  obtain ⟨-, -, e2, -⟩ := e1
  unfold isGo inU St.oth
  have hxy : y ≠ x := fun q => by rw [q, hx] at hs; cases hs
  simp only [Nat.testBit_or, pow_bit]
  by_cases c1 : x = S.ea i
  · subst c1
    have c2 : ¬ S.eb i = S.ea i := fun q => e2 q.symm
    have c3 : ¬ S.ea i = y := fun q => hxy q.symm
    have c4 : ¬ y = S.ea i := hxy
    simp [hx, c2, c3, c4]
  · by_cases c2 : x = S.eb i
    · subst c2
      have c3 : ¬ S.eb i = y := fun q => hxy q.symm
      simp [hx, c1, c3, hxy, e2]
    · have c1' : ¬ S.ea i = x := fun q => c1 q.symm
      have c2' : ¬ S.eb i = x := fun q => c2 q.symm
      simp only [if_neg c1, if_neg c2]
      by_cases d1 : S.ea i = y
      · rw [d1]
        by_cases d2 : seen.testBit (S.eb i) = true
        · by_cases d3 : y = S.eb i
          · exact absurd (d1.trans d3) e2
          · have d3' : ¬ S.eb i = y := fun q => d3 q.symm
            simp [hs, d2, d3, d3', c1', c2']
        · simp [hs, d2]; split <;> omega
      · by_cases d2 : S.eb i = y
        · rw [d2]
          by_cases d4 : seen.testBit (S.ea i) = true
          · simp [hs, d4, d1, c1', fun q : y = S.ea i => d1 q.symm]
          · simp [hs, d4]; split <;> omega
        · by_cases d4 : seen.testBit (S.ea i) = true <;> by_cases d5 : seen.testBit (S.eb i) = true <;> simp [d4, d5, d1, d2, c1', c2', fun q : y = S.ea i => d1 q.symm, fun q : y = S.eb i => d2 q.symm] <;> (try split) <;> omega
theorem sm_le_if {f : Nat → Nat} {g : Nat → Bool} {B : Nat} : ∀ n, (∀ i, i < n → f i ≤ if g i = true then B else 0) → sm f n ≤ sm (fun i => if g i = true then 1 else 0) n * B
  | 0, _ => by simp [sm]
  | n + 1, h => by
    have h1 := sm_le_if n (fun i hi => h i (by omega))
    have h2 := h n (by omega)
    unfold sm
    rw [Nat.add_mul]
    refine Nat.add_le_add h1 ?_
    split at h2
    · rename_i e; rw [if_pos e]; omega
    · rename_i e; rw [if_neg e]; omega
theorem cnt_le {S : St} (hS : S.netOk) (b : Nat) : ∀ (k x seen : Nat), seen.testBit x = true → cnt S b k x seen ≤ f27 (uC S x seen)
  | 0, _, _, _ => Nat.zero_le _
  | k + 1, x, seen, hx => by
    have hu : uC S x seen ≤ 9 := by
      have := sm_le (f := fun l => if inU S x seen l = true then 1 else 0) (B := 1) S.nl (fun i _ => by split <;> omega)
      have h9 := hS.2.1
      unfold uC; omega
    unfold cnt
    split
    · exact (by decide +kernel : ∀ m, m ≤ 9 → 1 ≤ f27 m) _ hu
    · have key : ∀ l, l < S.nl → (match S.oth l x with
        | none => 0
        | some y => if seen.testBit y = true then 0 else cnt S b k y (seen ||| 2 ^ y)) ≤ if isGo S x seen l = true then f27 (uC S x seen - dC S x seen) else 0 := by
        intro l hl
        unfold isGo
        cases h : S.oth l x with
        | none => simp
        | some y =>
          dsimp only
          by_cases hs : seen.testBit y = true
          · simp [hs]
          · have hs' := Bool.eq_false_iff.mpr hs
            rw [if_neg hs, if_pos (by rw [hs']; rfl)]
            have h1 := cnt_le hS b k y (seen ||| 2 ^ y) (by rw [Nat.testBit_or, pow_bit]; simp)
            have h2 := uC_step hS hl h hs' hx
            refine Nat.le_trans h1 ?_
            exact (by decide +kernel : ∀ m, m ≤ 9 → ∀ q, q ≤ m → f27 q ≤ f27 m) _ (by omega) _ (by omega)
      have h1 := sm_le_if (B := f27 (uC S x seen - dC S x seen)) S.nl key
      refine Nat.le_trans h1 ?_
      show dC S x seen * _ ≤ _
      have hd : dC S x seen ≤ uC S x seen := by
        refine sm_mono _ (fun i hi => ?_)
        have e1 := hS.2.2.2.2 i hi
        obtain ⟨-, -, e2, -⟩ := e1
        unfold isGo inU St.oth
        by_cases c1 : x = S.ea i
        · subst c1
          by_cases d : seen.testBit (S.eb i) = true <;> simp [d, fun q : S.eb i = S.ea i => e2 q.symm]
        · by_cases c2 : x = S.eb i
          · subst c2
            by_cases d : seen.testBit (S.ea i) = true <;> simp [d, c1]
          · simp [c1, c2]
      by_cases h0 : dC S x seen = 0
      · rw [h0]; omega
      · exact f27_step _ hu _ hd (by omega) _ (Nat.le_refl _)
theorem cnt_27 {S : St} (hS : S.netOk) (b k : Nat) {x seen : Nat} (h : seen.testBit x = true) : cnt S b k x seen ≤ 27 := by
  refine Nat.le_trans (cnt_le hS b k x seen h) ?_
  have hu : uC S x seen ≤ 9 := by
    have := sm_le (f := fun l => if inU S x seen l = true then 1 else 0) (B := 1) S.nl (fun i _ => by split <;> omega)
    have h9 := hS.2.1
    unfold uC; omega
  exact (by decide +kernel : ∀ m, m ≤ 9 → f27 m ≤ 27) _ hu
end
