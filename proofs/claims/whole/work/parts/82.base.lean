noncomputable section
/-! numbers: nI of Nat, bits of Nat -/
theorem li0 : (0 : Int32) = nI 0 := rfl
theorem li1 : (1 : Int32) = nI 1 := rfl
theorem li2 : (2 : Int32) = nI 2 := rfl
theorem li3 : (3 : Int32) = nI 3 := rfl
theorem li4 : (4 : Int32) = nI 4 := rfl
theorem li5 : (5 : Int32) = nI 5 := rfl
theorem li6 : (6 : Int32) = nI 6 := rfl
theorem li7 : (7 : Int32) = nI 7 := rfl
theorem li8 : (8 : Int32) = nI 8 := rfl
theorem li9 : (9 : Int32) = nI 9 := rfl
theorem li10 : (10 : Int32) = nI 10 := rfl
theorem li15 : (15 : Int32) = nI 15 := rfl
theorem li17 : (17 : Int32) = nI 17 := rfl
theorem li18 : (18 : Int32) = nI 18 := rfl
theorem li20 : (20 : Int32) = nI 20 := rfl
theorem li23 : (23 : Int32) = nI 23 := rfl
theorem li24 : (24 : Int32) = nI 24 := rfl
theorem li27 : (27 : Int32) = nI 27 := rfl
theorem li50 : (50 : Int32) = nI 50 := rfl
theorem li63 : (63 : Int32) = nI 63 := rfl
theorem li99 : (99 : Int32) = nI 99 := rfl
theorem li100 : (100 : Int32) = nI 100 := rfl
theorem li256 : (256 : Int32) = nI 256 := rfl
theorem li511 : (511 : Int32) = nI 511 := rfl
theorem li1000 : (1000 : Int32) = nI 1000 := rfl
theorem li2000 : (2000 : Int32) = nI 2000 := rfl
theorem li2048 : (2048 : Int32) = nI 2048 := rfl
theorem li10000 : (10000 : Int32) = nI 10000 := rfl

theorem nI_tb (n : Nat) : (nI n).toBitVec = BitVec.ofNat 32 n := rfl
theorem and31 : ∀ k, k < 32 → ((nI k &&& 31).toBitVec.smod 32).toNat = k := by decide +kernel
/-- a bit of a set -/
theorem hs_nI {n k : Nat} (hn : n < 2 ^ 31) (hk : k < 32) : hs (nI n) (nI k) ↔ n.testBit k = true := by
  have e1 : nI n >>> (nI k &&& 31) = nI (n / 2 ^ k) := pk_shrN hn _ k (and31 k hk)
  have e2 : nI (n / 2 ^ k) &&& 1 = nI (n / 2 ^ k % 2 ^ 1) := pk_andN (Nat.lt_of_le_of_lt (Nat.div_le_self _ _) (by omega)) 1 rfl
  unfold hs
  rw [e1, e2, Nat.testBit_eq_decide_div_mod_eq, decide_eq_true_eq, Nat.pow_one]
  have : n / 2 ^ k % 2 < 2 := Nat.mod_lt _ (by decide)
  rw [li0, nI_eq (by omega) (by omega)]
  omega
theorem or_nI (a b : Nat) : nI a ||| nI b = nI (a ||| b) := by
  apply Int32.toBitVec_inj.1
  show BitVec.ofNat 32 a ||| BitVec.ofNat 32 b = BitVec.ofNat 32 (a ||| b)
  apply BitVec.eq_of_getLsbD_eq
  intro i hi
  simp [hi]
theorem and_nI (a b : Nat) : nI a &&& nI b = nI (a &&& b) := by
  apply Int32.toBitVec_inj.1
  show BitVec.ofNat 32 a &&& BitVec.ofNat 32 b = BitVec.ofNat 32 (a &&& b)
  apply BitVec.eq_of_getLsbD_eq
  intro i hi
  simp [hi]
theorem shl_nI {n k : Nat} (hk : k < 32) (h : n * 2 ^ k < 2 ^ 32) : nI n <<< (nI k &&& 31) = nI (n * 2 ^ k) := pk_shlN _ k (and31 k hk) h
theorem one_nI {k : Nat} (hk : k < 32) : (1 : Int32) <<< (nI k &&& 31) = nI (2 ^ k) := by
  have := shl_nI (n := 1) hk (by rw [Nat.one_mul]; exact Nat.pow_lt_pow_right (by decide) hk)
  rwa [Nat.one_mul] at this
theorem shr_nI {n k : Nat} (hn : n < 2 ^ 31) (hk : k < 32) : nI n >>> (nI k &&& 31) = nI (n / 2 ^ k) := pk_shrN hn _ k (and31 k hk)
/-- a set without one member -/
theorem clr_nI {n k : Nat} (hk : k < 31) (hn : n < 2 ^ 31) : ∃ m, m < 2 ^ 31 ∧ nI n &&& (((1 : Int32) <<< (nI k &&& 31)) ^^^ (-1)) = nI m ∧ ∀ j, m.testBit j = (n.testBit j && !decide (j = k)) := by
  have hx : (((1 : Int32) <<< (nI k &&& 31)) ^^^ (-1)) = nI (2 ^ 32 - 1 - 2 ^ k) := by
    rw [one_nI (by omega)]
    exact (by decide +kernel : ∀ k, k < 31 → nI (2 ^ k) ^^^ (-1) = nI (2 ^ 32 - 1 - 2 ^ k)) k hk
  refine ⟨n &&& (2 ^ 32 - 1 - 2 ^ k), Nat.lt_of_le_of_lt Nat.and_le_left hn, ?_, ?_⟩
  · rw [hx, and_nI]
  · intro j
    rw [Nat.testBit_and]
    by_cases hj : j < 32
    · have := (by decide +kernel : ∀ k, k < 31 → ∀ j, j < 32 → (2 ^ 32 - 1 - 2 ^ k).testBit j = !decide (j = k)) k hk j hj
      rw [this]
    · have h1 : n.testBit j = false := Nat.testBit_lt_two_pow (Nat.lt_of_lt_of_le hn (Nat.pow_le_pow_right (by decide) (by omega)))
      simp [h1]
theorem bit_lt {n k : Nat} (h : n.testBit k = true) : 2 ^ k ≤ n := Nat.ge_two_pow_of_testBit h
theorem bit_no {n k m : Nat} (h : n < 2 ^ m) (hk : m ≤ k) : n.testBit k = false := Nat.testBit_lt_two_pow (Nat.lt_of_lt_of_le h (Nat.pow_le_pow_right (by decide) hk))
theorem or_lt {a b m : Nat} (ha : a < 2 ^ m) (hb : b < 2 ^ m) : a ||| b < 2 ^ m := Nat.or_lt_two_pow ha hb
theorem set_eq {a b : Nat} (h : ∀ k, a.testBit k = b.testBit k) : a = b := Nat.eq_of_testBit_eq h
theorem set_lt {a m : Nat} (h : ∀ k, m ≤ k → a.testBit k = false) : a < 2 ^ m := Nat.lt_pow_two_of_testBit a h
theorem pow_bit (j k : Nat) : (2 ^ j).testBit k = decide (j = k) := Nat.testBit_two_pow
/-- numbers in bounds -/
theorem wi_nI {x : Int32} {a b : Nat} (hb : b < 2 ^ 31) (h : wi x (nI a) (nI b)) (ha : a < 2 ^ 31) : ∃ n, a ≤ n ∧ n ≤ b ∧ x = nI n := by
  obtain ⟨h1, h2⟩ := h
  have h0 : ¬ x < 0 := by
    intro h
    have := Int32.lt_of_le_of_lt h1 h
    exact nI_pos ha this
  obtain ⟨n, hn, rfl⟩ := nI_of h0
  exact ⟨n, (nI_leI ha hn).mp h1, (nI_leI hn hb).mp h2, rfl⟩
theorem wi_nI' {n a b : Nat} (hb : b < 2 ^ 31) (ha : a < 2 ^ 31) (hn : n < 2 ^ 31) : wi (nI n) (nI a) (nI b) ↔ a ≤ n ∧ n ≤ b := by
  unfold wi
  rw [nI_leI ha hn, nI_leI hn hb]
theorem vp_nI {n N : Nat} (hn : n < 2 ^ 31) : vp_in (nI n) N ↔ n < N := by
  unfold vp_in
  rw [nI_clamp hn]
  have := nI_pos hn
  constructor
  · intro h; exact Nat.not_le.mp fun q => h (Or.inr q)
  · rintro h (h1 | h1)
    · exact this h1
    · omega
theorem up2_ap (I : IM) (k j : Nat) (v : Int32) (k' j' : Nat) : up2 I k j v k' j' = if k' = k ∧ j' = j then v else I k' j' := by
  by_cases h : k' = k
  · subst h
    by_cases h2 : j' = j
    · subst h2; simp [up2_at]
    · rw [up2_sj _ _ _ h2, if_neg (by simp [h2])]
  · rw [up2_o _ _ _ _ h, if_neg (by simp [h])]
/-- sums over the first n -/
def sm (f : Nat → Nat) : Nat → Nat
  | 0 => 0
  | n + 1 => sm f n + f n
theorem sm_le {f : Nat → Nat} {B : Nat} : ∀ n, (∀ i, i < n → f i ≤ B) → sm f n ≤ n * B
  | 0, _ => by simp [sm]
  | n + 1, h => by
    have h1 := sm_le n (fun i hi => h i (by omega))
    have h2 := h n (by omega)
    rw [Nat.add_mul, Nat.one_mul]
    exact Nat.add_le_add h1 h2
theorem sm_congr {f g : Nat → Nat} : ∀ n, (∀ i, i < n → f i = g i) → sm f n = sm g n
  | 0, _ => rfl
  | n + 1, h => by
    unfold sm
    rw [sm_congr n (fun i hi => h i (by omega)), h n (by omega)]
theorem sm_mono {f g : Nat → Nat} : ∀ n, (∀ i, i < n → f i ≤ g i) → sm f n ≤ sm g n
  | 0, _ => Nat.le_refl _
  | n + 1, h => Nat.add_le_add (sm_mono n (fun i hi => h i (by omega))) (h n (by omega))
theorem sm_zero {f : Nat → Nat} : ∀ n, (∀ i, i < n → f i = 0) → sm f n = 0
  | 0, _ => rfl
  | n + 1, h => by
    unfold sm
    rw [sm_zero n (fun i hi => h i (by omega)), h n (by omega)]
/-- one summand otherwise -/
theorem sm_one {f g : Nat → Nat} {k : Nat} : ∀ n, k < n → (∀ i, i < n → i ≠ k → f i = g i) → sm f n + g k = sm g n + f k
  | 0, h, _ => absurd h (Nat.not_lt_zero _)
  | n + 1, h, e => by
    unfold sm
    by_cases hk : k = n
    · subst hk
      rw [sm_congr k (fun i hi => e i (by omega) (by omega))]
      omega
    · have h1 := sm_one n (by omega) (fun i hi => e i (by omega))
      have h2 := e n (by omega) (fun q => hk q.symm)
      omega
/-- the greatest of the first n, at least 0 -/
def mx (f : Nat → Nat) : Nat → Nat
  | 0 => 0
  | n + 1 => max (mx f n) (f n)
theorem mx_le {f : Nat → Nat} {B : Nat} : ∀ n, mx f n ≤ B ↔ ∀ i, i < n → f i ≤ B
  | 0 => by simp [mx]
  | n + 1 => by
    unfold mx
    rw [Nat.max_le, mx_le n]
    constructor
    · rintro ⟨h1, h2⟩ i hi
      by_cases h : i = n
      · subst h; exact h2
      · exact h1 i (by omega)
    · intro h
      exact ⟨fun i hi => h i (by omega), h n (by omega)⟩
theorem mx_congr {f g : Nat → Nat} : ∀ n, (∀ i, i < n → f i = g i) → mx f n = mx g n
  | 0, _ => rfl
  | n + 1, h => by
    unfold mx
    rw [mx_congr n (fun i hi => h i (by omega)), h n (by omega)]
end
