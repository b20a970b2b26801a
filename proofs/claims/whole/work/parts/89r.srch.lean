noncomputable section
/-! the search over sets, as both do it -/
def scan (g : Nat → Bool) : List Nat → Nat → Nat × Nat × List Nat × Nat
  | [], q => (0, 0, [], q)
  | p :: r, q => if q = 2000 then (2, 0, [], q) else if g p = true then (1, p, r, q + 1) else scan g r (q + 1)
def St.hold (S : St) (P : Nat → Nat) (s : Nat) : Nat → Bool := fun p => gB (S.lnP P S.does 24 s p ∧ S.wkP P S.does 24 s p)
def srch (S : St) : Nat → List (Nat × List Nat) → Nat → List Nat → List Nat → (Nat → Nat) → Nat → Nat × Nat × (Nat → Nat)
  | 0, _, _, _, _, P, q => (0, q, P)
  | f + 1, st, s, U, td, P, q =>
    if (scan (S.hold P s) U q).1 = 1 then
      (match td with
        | [] => (1, (scan (S.hold P s) U q).2.2.2, put P s (scan (S.hold P s) U q).2.1)
        | s' :: td' => srch S f ((s, (scan (S.hold P s) U q).2.2.1) :: st) s' (S.ups s') td' (put P s (scan (S.hold P s) U q).2.1) (scan (S.hold P s) U q).2.2.2)
    else if (scan (S.hold P s) U q).1 = 2 then (2, (scan (S.hold P s) U q).2.2.2, P)
    else (match st with
        | [] => (0, (scan (S.hold P s) U q).2.2.2, P)
        | (s', U') :: st' => srch S f st' s' U' (s :: td) (put P s' 0) (scan (S.hold P s) U q).2.2.2)
theorem scan_facts (g : Nat → Bool) : ∀ (U : List Nat) (q : Nat), q ≤ 2000 → ((scan g U q).1 = 0 ∨ (scan g U q).1 = 1 ∨ (scan g U q).1 = 2) ∧ q ≤ (scan g U q).2.2.2 ∧ (scan g U q).2.2.2 ≤ 2000 ∧ ((scan g U q).1 = 1 → g (scan g U q).2.1 = true ∧ q < (scan g U q).2.2.2 ∧ ∃ pre, U = pre ++ (scan g U q).2.1 :: (scan g U q).2.2.1) ∧ ((scan g U q).1 = 2 → (scan g U q).2.2.2 = 2000)
  | [], q, hq => ⟨.inl rfl, Nat.le_refl _, hq, fun h => absurd h (by decide : ¬ (0 : Nat) = 1), fun h => absurd h (by decide : ¬ (0 : Nat) = 2)⟩
  | p :: r, q, hq => by
    unfold scan
    by_cases c : q = 2000
    · rw [if_pos c]
      exact ⟨.inr (.inr rfl), Nat.le_refl _, hq, fun h => absurd h (by decide : ¬ (2 : Nat) = 1), fun _ => c⟩
    · rw [if_neg c]
      by_cases d : g p = true
      · rw [if_pos d]
        exact ⟨.inr (.inl rfl), by dsimp only; omega, by dsimp only; omega, fun _ => ⟨d, by dsimp only; omega, [], rfl⟩, fun h => absurd h (by decide : ¬ (1 : Nat) = 2)⟩
      · rw [if_neg d]
        obtain ⟨i1, i2, i3, i4, i5⟩ := scan_facts g r (q + 1) (by omega)
        refine ⟨i1, by omega, i3, fun h => ?_, i5⟩
        obtain ⟨j1, j2, pre, j3⟩ := i4 h
        exact ⟨j1, by omega, p :: pre, by rw [List.cons_append, ← j3]⟩
/-- members upward and downward -/
def chn (S : St) (set : Nat) : Nat → List Nat → Prop
  | a, [] => ∀ k, a ≤ k → k < S.ns → set.testBit k = false
  | a, s :: L => a ≤ s ∧ s < S.ns ∧ set.testBit s = true ∧ (∀ k, a ≤ k → k < s → set.testBit k = false) ∧ chn S set (s + 1) L
def chr (set : Nat) : Nat → List (Nat × List Nat) → Prop
  | b, [] => ∀ k, k < b → set.testBit k = false
  | b, e :: L => e.1 < b ∧ set.testBit e.1 = true ∧ (∀ k, e.1 < k → k < b → set.testBit k = false) ∧ chr set e.1 L
def St.mems (S : St) (set a m : Nat) : List Nat := (List.range' a m).filter fun k => set.testBit k
theorem chn_mems (S : St) (set : Nat) : ∀ m a b, a + m = S.ns → b ≤ a → (∀ k, b ≤ k → k < a → set.testBit k = false) → chn S set b (S.mems set a m)
  | 0, a, b, h, hb, hz => fun k h1 h2 => hz k h1 (by omega)
  | m + 1, a, b, h, hb, hz => by
    unfold St.mems
    rw [List.range'_succ, List.filter_cons]
    by_cases c : set.testBit a = true
    · rw [if_pos c]
      exact ⟨hb, by omega, c, hz, chn_mems S set m (a + 1) (a + 1) (by omega) (Nat.le_refl _) fun k h1 h2 => by omega⟩
    · rw [if_neg c]
      refine chn_mems S set m (a + 1) b (by omega) (by omega) fun k h1 h2 => ?_
      by_cases e : k = a
      · subst e; exact Bool.eq_false_iff.mpr c
      · exact hz k h1 (by omega)
theorem chr_lt {set : Nat} : ∀ {b : Nat} {L : List (Nat × List Nat)}, chr set b L → ∀ e, e ∈ L → e.1 < b
  | b, [], _, e, h => by cases h
  | b, x :: L, h, e, he => by
    cases he with
    | head => exact h.1
    | tail _ q => exact Nat.lt_trans (chr_lt h.2.2.2 e q) h.1
theorem chn_ge {S : St} {set : Nat} : ∀ {a : Nat} {L : List Nat}, chn S set a L → ∀ e, e ∈ L → a ≤ e
  | a, [], _, e, h => by cases h
  | a, x :: L, h, e, he => by
    cases he with
    | head => exact h.1
    | tail _ q => have := chn_ge h.2.2.2.2 e q; have := h.1; omega
/-- every member below is on the stack -/
theorem chr_mem {set : Nat} : ∀ {b : Nat} {L : List (Nat × List Nat)}, chr set b L → ∀ k, k < b → (set.testBit k = true ↔ ∃ e, e ∈ L ∧ e.1 = k)
  | b, [], h, k, hk => ⟨fun q => (by rw [h k hk] at q; cases q), fun ⟨e, q, _⟩ => (by cases q)⟩
  | b, x :: L, h, k, hk => by
    obtain ⟨h1, h2, h3, h4⟩ := h
    by_cases c : k < x.1
    · refine (chr_mem h4 k c).trans ⟨fun ⟨e, q, r⟩ => ⟨e, .tail _ q, r⟩, fun ⟨e, q, r⟩ => ?_⟩
      cases q with
      | head => omega
      | tail _ q => exact ⟨e, q, r⟩
    · by_cases d : k = x.1
      · subst d; exact ⟨fun _ => ⟨x, .head _, rfl⟩, fun _ => h2⟩
      · refine ⟨fun q => (by rw [h3 k (by omega) hk] at q; cases q), fun ⟨e, q, r⟩ => ?_⟩
        cases q with
        | head => exact absurd r.symm d
        | tail _ q => have := chr_lt h4 e q; omega
def SI (S : St) (set : Nat) (st : List (Nat × List Nat)) (s : Nat) (U td : List Nat) (P : Nat → Nat) (q : Nat) : Prop :=
  S.plOk P ∧ S.allOk P S.does 24 ∧ chr set s st ∧ chn S set (s + 1) td ∧ s < S.ns ∧ set.testBit s = true ∧ (∀ i, P i ≠ 0 ↔ ∃ e, e ∈ st ∧ e.1 = i) ∧ (∀ i, P i ≠ 0 → P i ∈ S.ups i) ∧ (∃ pre, S.ups s = pre ++ U) ∧ (∀ e, e ∈ st → ∃ pre, S.ups e.1 = pre ++ e.2) ∧ q ≤ 2000
theorem SI.zero {S : St} {set : Nat} {st : List (Nat × List Nat)} {s : Nat} {U td : List Nat} {P : Nat → Nat} {q : Nat} (h : SI S set st s U td P q) : P s = 0 := by
  obtain ⟨-, -, h3, -, -, -, h7, -⟩ := h
  by_cases c : P s = 0
  · exact c
  · obtain ⟨e, q1, q2⟩ := (h7 s).mp c
    have := chr_lt h3 e q1; omega
theorem SI.nxt {S : St} {set : Nat} {st : List (Nat × List Nat)} {s : Nat} {U td : List Nat} {P : Nat → Nat} {q : Nat} (hN : S.netOk) (hsl : S.slOk) (h : SI S set st s U td P q) {X : Nat × Nat × List Nat × Nat} (hX : scan (S.hold P s) U q = X) (c : X.1 = 1) :
    X.2.1 ∈ S.ups s ∧ X.2.1 ∈ S.plist s ∧ X.2.1 ≠ 0 ∧ S.plOk (put P s X.2.1) ∧ S.allOk (put P s X.2.1) S.does 24 ∧ (∀ i, put P s X.2.1 i ≠ 0 ↔ ∃ e, e ∈ (s, X.2.2.1) :: st ∧ e.1 = i) ∧ (∀ i, put P s X.2.1 i ≠ 0 → put P s X.2.1 i ∈ S.ups i) ∧ (∃ pre, S.ups s = pre ++ X.2.1 :: X.2.2.1) := by
  obtain ⟨h1, h2, h3, h4, h5, h6, h7, h8, ⟨pre, h9⟩, h10, h11⟩ := h
  obtain ⟨-, -, -, i4, -⟩ := scan_facts (S.hold P s) U q h11
  rw [hX] at i4
  obtain ⟨j1, j2, pr2, j3⟩ := i4 c
  have e1 : S.ups s = (pre ++ pr2) ++ X.2.1 :: X.2.2.1 := by rw [h9, j3, List.append_assoc]
  have m1 : X.2.1 ∈ S.ups s := by rw [e1]; exact List.mem_append_right _ (.head _)
  have m2 : X.2.1 ∈ S.plist s := (List.mem_filter.mp m1).1
  obtain ⟨f0, f1, -⟩ := place_facts hN hsl h5 m2
  have g := gB_iff.mp j1
  refine ⟨m1, m2, f1, plOk_put h1 h5 f0, fun t ht => ⟨g.1 t ht, g.2 t ht⟩, fun i => ?_, fun i hi => ?_, _, e1⟩
  · by_cases e : i = s
    · subst e
      rw [put_at]
      exact ⟨fun _ => ⟨_, .head _, rfl⟩, fun _ => f1⟩
    · rw [put_ne _ _ e, h7 i]
      refine ⟨fun ⟨y, q1, q2⟩ => ⟨y, .tail _ q1, q2⟩, fun ⟨y, q1, q2⟩ => ?_⟩
      cases q1 with
      | head => exact absurd q2.symm e
      | tail _ q1 => exact ⟨y, q1, q2⟩
  · by_cases e : i = s
    · subst e
      rw [put_at]; exact m1
    · rw [put_ne _ _ e] at hi ⊢; exact h8 i hi
theorem SI.push {S : St} {set : Nat} {st : List (Nat × List Nat)} {s s' : Nat} {U td : List Nat} {P : Nat → Nat} {q : Nat} (hN : S.netOk) (hsl : S.slOk) (h : SI S set st s U (s' :: td) P q) (c : (scan (S.hold P s) U q).1 = 1) :
    SI S set ((s, (scan (S.hold P s) U q).2.2.1) :: st) s' (S.ups s') td (put P s (scan (S.hold P s) U q).2.1) (scan (S.hold P s) U q).2.2.2 := by
  obtain ⟨n1, n2, n3, n4, n5, n6, n7, pre, n8⟩ := SI.nxt hN hsl h rfl c
  obtain ⟨h1, h2, h3, h4, h5, h6, h7, h8, h9, h10, h11⟩ := h
  obtain ⟨-, -, i3, -, -⟩ := scan_facts (S.hold P s) U q h11
  obtain ⟨k1, k2, k3, k4, k5⟩ := h4
  refine ⟨n4, n5, ⟨k1, h6, k4, h3⟩, k5, k2, k3, n6, n7, ⟨[], rfl⟩, fun e he => ?_, i3⟩
  cases he with
  | head => exact ⟨pre ++ [_], by rw [n8, List.append_assoc]; rfl⟩
  | tail _ q1 => exact h10 e q1
theorem SI.pop {S : St} {set : Nat} {st : List (Nat × List Nat)} {s s' : Nat} {U U' td : List Nat} {P : Nat → Nat} {q : Nat} (h : SI S set ((s', U') :: st) s U td P q) :
    SI S set st s' U' (s :: td) (put P s' 0) (scan (S.hold P s) U q).2.2.2 := by
  obtain ⟨h1, h2, h3, h4, h5, h6, h7, h8, h9, h10, h11⟩ := h
  obtain ⟨-, -, i3, -, -⟩ := scan_facts (S.hold P s) U q h11
  obtain ⟨k1, k2, k3, k4⟩ := h3
  have hs' : s' < S.ns := Nat.lt_trans k1 h5
  refine ⟨plOk_put0 h1 s', fun t ht => ⟨(less_ok hs').1 (h2 t ht).1, (less_ok hs').2 (h2 t ht).2⟩, k4, ⟨k1, h5, h6, fun k a b => k3 k a b, h4⟩, hs', k2, fun i => ?_, fun i hi => ?_, h10 _ (.head _), fun e he => h10 e (.tail _ he), i3⟩
  · by_cases e : i = s'
    · subst e
      rw [put_at]
      refine ⟨fun q => absurd rfl q, fun ⟨y, q1, q2⟩ => ?_⟩
      have := chr_lt k4 y q1; omega
    · rw [put_ne _ _ e, h7 i]
      refine ⟨fun ⟨y, q1, q2⟩ => ?_, fun ⟨y, q1, q2⟩ => ⟨y, .tail _ q1, q2⟩⟩
      cases q1 with
      | head => exact absurd q2.symm e
      | tail _ q1 => exact ⟨y, q1, q2⟩
  · by_cases e : i = s'
    · subst e; rw [put_at] at hi; exact absurd rfl hi
    · rw [put_ne _ _ e] at hi ⊢; exact h8 i hi
/-- what a laid set is -/
theorem srch_ok {S : St} (hN : S.netOk) (hsl : S.slOk) {set : Nat} : ∀ (f : Nat) (st : List (Nat × List Nat)) (s : Nat) (U td : List Nat) (P : Nat → Nat) (q : Nat), SI S set st s U td P q →
    ((srch S f st s U td P q).1 = 0 ∨ (srch S f st s U td P q).1 = 1 ∨ (srch S f st s U td P q).1 = 2) ∧ (srch S f st s U td P q).2.1 ≤ 2000 ∧ ((srch S f st s U td P q).1 = 1 → S.plOk (srch S f st s U td P q).2.2 ∧ S.allOk (srch S f st s U td P q).2.2 S.does 24 ∧ (∀ i, (srch S f st s U td P q).2.2 i ≠ 0 ↔ i < S.ns ∧ set.testBit i = true) ∧ ∀ i, (srch S f st s U td P q).2.2 i ≠ 0 → (srch S f st s U td P q).2.2 i ∈ S.ups i)
  | 0, st, s, U, td, P, q, h => ⟨.inl rfl, h.2.2.2.2.2.2.2.2.2.2, fun c => absurd c (by decide : ¬ (0 : Nat) = 1)⟩
  | f + 1, st, s, U, td, P, q, h => by
    obtain ⟨i1, i2, i3, i4, i5⟩ := scan_facts (S.hold P s) U q h.2.2.2.2.2.2.2.2.2.2
    unfold srch
    by_cases c : (scan (S.hold P s) U q).1 = 1
    · rw [if_pos c]
      cases td with
      | nil =>
        dsimp only
        obtain ⟨n1, n2, n3, n4, n5, n6, n7, n8⟩ := SI.nxt hN hsl h rfl c
        refine ⟨.inr (.inl rfl), i3, fun _ => ⟨n4, n5, fun i => (n6 i).trans ?_, n7⟩⟩
        obtain ⟨-, -, h3, h4, h5, h6, -⟩ := h
        by_cases k : i < s
        · refine (Iff.trans ?_ ((chr_mem h3 i k).symm.trans ⟨fun q => ⟨by omega, q⟩, fun q => q.2⟩))
          refine ⟨fun ⟨e, q1, q2⟩ => ?_, fun ⟨e, q1, q2⟩ => ⟨e, .tail _ q1, q2⟩⟩
          cases q1 with
          | head => exact absurd q2 (by dsimp only; omega)
          | tail _ q1 => exact ⟨e, q1, q2⟩
        · by_cases k2 : i = s
          · subst k2
            exact ⟨fun _ => ⟨h5, h6⟩, fun _ => ⟨_, .head _, rfl⟩⟩
          · refine ⟨fun ⟨e, q1, q2⟩ => ?_, fun ⟨q1, q2⟩ => ?_⟩
            · cases q1 with
              | head => exact absurd q2.symm k2
              | tail _ q1 => have := chr_lt h3 e q1; omega
            · have := h4 i (by omega) q1
              rw [this] at q2; cases q2
      | cons s' td' =>
        exact srch_ok hN hsl f _ _ _ _ _ _ (h.push hN hsl c)
    · rw [if_neg c]
      by_cases d : (scan (S.hold P s) U q).1 = 2
      · rw [if_pos d]
        exact ⟨.inr (.inr rfl), i3, fun q => absurd q (by decide : ¬ (2 : Nat) = 1)⟩
      · rw [if_neg d]
        cases st with
        | nil => exact ⟨.inl rfl, i3, fun q => absurd q (by decide : ¬ (0 : Nat) = 1)⟩
        | cons e st' => exact srch_ok hN hsl f _ _ _ _ _ _ h.pop
/-- the whole of it -/
def St.lays (S : St) (set q : Nat) : Nat × Nat × (Nat → Nat) :=
  match S.mems set 0 S.ns with
  | [] => (1, q, fun _ => 0)
  | s :: td => srch S 4002 [] s (S.ups s) td (fun _ => 0) q
theorem zero_all {S : St} {D : Nat → Nat → Bool} {t : Nat} {P : Nat → Nat} (h : ∀ i, i < S.ns → P i = 0) : (∀ l, S.ld P D l t = 0) ∧ (∀ l f, S.pa P D l f t = 0) ∧ (∀ l, S.fl P D l t = 0) ∧ (∀ a, S.wo' P D a t = 0) ∧ S.linesOk P D t ∧ S.worksOk P D t := by
  have a1 : ∀ l, S.ld P D l t = 0 := fun l => sm_zero _ fun i hi => by rw [h i hi, if_neg (by omega)]
  have a2 : ∀ l f, S.pa P D l f t = 0 := fun l f => sm_zero _ fun i hi => by rw [h i hi, if_neg (by omega)]
  have a3 : ∀ l, S.fl P D l t = 0 := fun l => Nat.le_zero.mp ((mx_le 9).mpr fun f _ => Nat.le_of_eq (a2 l f))
  have a4 : ∀ a, S.wo' P D a t = 0 := fun a => sm_zero _ fun i hi => by rw [h i hi, if_neg (by omega)]
  exact ⟨a1, a2, a3, a4, fun l _ => by rw [a1, a3]; exact Nat.zero_le _, fun a _ => by rw [a4]; exact Nat.zero_le _⟩
theorem SI.start {S : St} {set q s : Nat} {td : List Nat} (hq : q ≤ 2000) (e : S.mems set 0 S.ns = s :: td) : SI S set [] s (S.ups s) td (fun _ => 0) q := by
  have h := chn_mems S set S.ns 0 0 (by omega) (Nat.le_refl _) fun k _ h => by omega
  rw [e] at h
  obtain ⟨h1, h2, h3, h4, h5⟩ := h
  exact ⟨fun i _ c => absurd rfl c, fun t _ => ⟨(zero_all fun _ _ => rfl).2.2.2.2.1, (zero_all fun _ _ => rfl).2.2.2.2.2⟩, fun k hk => h4 k (Nat.zero_le _) hk, h5, h2, h3, fun i => ⟨fun c => absurd rfl c, fun ⟨e, q, _⟩ => (by cases q)⟩, fun i c => absurd rfl c, ⟨[], rfl⟩, fun e he => (by cases he), hq⟩
theorem lays_ok {S : St} (hN : S.netOk) (hsl : S.slOk) {set q : Nat} (hq : q ≤ 2000) : ((S.lays set q).1 = 0 ∨ (S.lays set q).1 = 1 ∨ (S.lays set q).1 = 2) ∧ (S.lays set q).2.1 ≤ 2000 ∧ ((S.lays set q).1 = 1 → S.plOk (S.lays set q).2.2 ∧ S.allOk (S.lays set q).2.2 S.does 24 ∧ (∀ i, (S.lays set q).2.2 i ≠ 0 ↔ i < S.ns ∧ set.testBit i = true) ∧ ∀ i, (S.lays set q).2.2 i ≠ 0 → (S.lays set q).2.2 i ∈ S.ups i) := by
  unfold St.lays
  split
  · next e =>
    have h := chn_mems S set S.ns 0 0 (by omega) (Nat.le_refl _) fun k _ h => by omega
    rw [e] at h
    refine ⟨.inr (.inl rfl), hq, fun _ => ⟨fun i _ c => absurd rfl c, fun t _ => ⟨(zero_all fun _ _ => rfl).2.2.2.2.1, (zero_all fun _ _ => rfl).2.2.2.2.2⟩, fun i => ⟨fun c => absurd rfl c, fun c => ?_⟩, fun i c => absurd rfl c⟩⟩
    rw [h i (Nat.zero_le _) c.1] at c; cases c.2
  · next s td e => exact srch_ok hN hsl _ _ _ _ _ _ _ (SI.start hq e)
end
