noncomputable section
def pop9 (n : Nat) : Nat := sm (fun k => if n.testBit k = true then 1 else 0) 9
theorem bits64 : ∀ n, n < 64 → jBits (nI n) = nI (pop9 n) := by decide +kernel
theorem pop9_le (n : Nat) : pop9 n ≤ 9 := by
  have := sm_le (f := fun k => if n.testBit k = true then 1 else 0) (B := 1) 9 (fun i _ => by split <;> omega)
  simpa [pop9] using this
theorem bit1 {n k : Nat} (hn : n < 2 ^ 31) (hk : k < 31) : (nI n >>> (nI k &&& 31)) &&& 1 = nI (if n.testBit k = true then 1 else 0) := by
  rw [shr_nI hn (by omega), li1, and_nI]
  congr 1
  rw [Nat.and_one_is_mod, Nat.testBit_eq_decide_div_mod_eq]
  by_cases h : n / 2 ^ k % 2 = 1
  · rw [h]; simp
  · rw [if_neg (by simp [h])]; omega
theorem ones_M (M : IM) {n : Nat} (hn : n < 2 ^ 31) : jX12_onesK M (nI n) ∧ jX12_ones M (nI n) = nI (pop9 n) := by
  unfold jX12_onesK jX12_ones
  have E : Ends (fun m (s : Int32 × Int32) => jX12_onesI (nI n) m s.1 s.2 M) (fun m s => jX12_onesO (nI n) m s.1 s.2 M) (9 * 1 + 1) ((nI 0, nI 0) : Int32 × Int32) (nI (pop9 n)) := by
    refine Go.ends (Go.loop (a := fun k => (nI (sm (fun k => if n.testBit k = true then 1 else 0) k), nI k)) 9 fun k hk => Go.one fun m => ?_) (Ends.one fun m => ?_)
    · dsimp only
      have c0 : ¬ (9 : Int32) ≤ nI k := by rw [li9]; exact nI_ge (by omega) (by omega)
      rw [jX12_onesO_4, jX12_onesI_4, bit1 hn (by omega), nI_add, nI_1, sm]
      simp only [eq_false c0, ↓reduceIte, not_true_eq_false, not_false_eq_true, true_imp_iff, false_imp_iff, implies_true, and_true, true_and, eq_self]
      first | exact id | exact ⟨id, rfl⟩
    · dsimp only
      have c0 : (9 : Int32) ≤ nI 9 := by decide
      rw [jX12_onesO_4, jX12_onesI_4]
      simp only [eq_true c0, ↓reduceIte, not_true_eq_false, not_false_eq_true, true_imp_iff, false_imp_iff, implies_true, and_true, true_and, eq_self]
      rfl
  exact E.use (by rw [FU_eq]; omega)
section SIM
variable {T : Topo} {S : St} {C M : IM}
/-- what is left of a LINE that is UP -/
def St.fr (S : St) (t l : Nat) : Nat := if S.dn.testBit l = true then 0 else S.rm l - S.ld S.pl S.does l t - S.fl S.pl S.does l t
def St.crs (S : St) (n l : Nat) : Bool := n.testBit (S.ea l) != n.testBit (S.eb l)
def St.out (S : St) (t n : Nat) : Nat := sm (fun l => if S.crs n l = true then S.fr t l else 0) S.nl
theorem fr_le (hS : S.ok) (t : Nat) {l : Nat} (hl : l < S.nl) : S.fr t l ≤ 50 := by
  have := (hS.1.2.2.2.2 l hl).2.2.2.2.1
  unfold St.fr
  split <;> omega
theorem out_le (hS : S.ok) (t n : Nat) : S.out t n ≤ 450 := by
  have h9 := hS.1.2.1
  refine Nat.le_trans (sm_le (B := 50) _ fun l hl => ?_) (Nat.mul_le_mul_right 50 h9)
  have := fr_le hS t hl
  split <;> omega
theorem crs_bI (hS : S.ok) {n l : Nat} (hn : n < 64) (hl : l < S.nl) : (bI (hs (nI n) (nI (S.ea l))) = bI (hs (nI n) (nI (S.eb l)))) = ¬ S.crs n l = true := by
  have h6 := hS.1.1
  obtain ⟨h1, h2, -⟩ := hS.1.2.2.2.2 l hl
  have e : ∀ k, k < 6 → bI (hs (nI n) (nI k)) = if n.testBit k = true then 1 else 0 := fun k hk => by
    unfold bI
    have := hs_nI (n := n) (k := k) (by omega) (by omega)
    by_cases c : n.testBit k = true
    · rw [if_pos (this.mpr c), if_pos c]
    · rw [if_neg (mt this.mp c), if_neg c]
  rw [e _ (by omega), e _ (by omega)]
  unfold St.crs
  cases h : n.testBit (S.ea l) <;> cases h' : n.testBit (S.eb l) <;> simp
theorem roomOut_C (hS : S.ok) (hC : cNet S C) {t n : Nat} (hn : n < 64) (h55 : ∀ l, l < S.nl → C 55 l = nI (S.fr t l)) : jX1_roomOutOfK C (nI n) ∧ jX1_roomOutOf C (nI n) = nI (S.out t n) := by
  have h9 := hS.1.2.1
  unfold jX1_roomOutOfK jX1_roomOutOf
  have E : Ends (fun m (s : Int32 × Int32) => jX1_roomOutOfI (nI n) m s.1 s.2 C) (fun m s => jX1_roomOutOfO (nI n) m s.1 s.2 C) (S.nl * 1 + 1) ((nI 0, nI 0) : Int32 × Int32) (nI (S.out t n)) := by
    refine Go.ends (Go.loop (a := fun k => (nI (sm (fun l => if S.crs n l = true then S.fr t l else 0) k), nI k)) S.nl fun l hl => Go.one fun m => ?_) (Ends.one fun m => ?_)
    · dsimp only
      have v : vp_in (nI l) 9 := (vp_nI (by omega)).mpr (by omega)
      have c0 : ¬ S.nl ≤ l := by omega
      have cb := crs_bI hS hn hl
      rw [jX1_roomOutOfO_5, jX1_roomOutOfI_5, hC.2.1, nI_clamp (by omega), (hC.2.2.2 l (by omega)).1, (hC.2.2.2 l (by omega)).2.1, h55 l hl, nI_add, nI_1, sm]
      by_cases c : S.crs n l = true
      · simp (disch := omega) only [nI_leI, cb, c, eq_false c0, eq_true v, ↓reduceIte, not_true_eq_false, not_false_eq_true, true_imp_iff, false_imp_iff, implies_true, and_true, true_and, eq_self]
        first | exact id | exact ⟨id, rfl⟩
      · simp (disch := omega) only [nI_leI, cb, c, eq_false c0, eq_true v, ↓reduceIte, not_true_eq_false, not_false_eq_true, true_imp_iff, false_imp_iff, implies_true, and_true, true_and, eq_self, Bool.false_eq_true, Nat.add_zero]
        first | exact id | exact ⟨id, rfl⟩
    · dsimp only
      have c0 : S.nl ≤ S.nl := Nat.le_refl _
      rw [jX1_roomOutOfO_5, jX1_roomOutOfI_5, hC.2.1]
      simp (disch := omega) only [nI_leI, eq_true c0, ↓reduceIte, not_true_eq_false, not_false_eq_true, true_imp_iff, false_imp_iff, implies_true, and_true, true_and, eq_self]
      rfl
  exact E.use (by rw [FU_eq]; omega)
/-- the best of the sets below n: (set, room); set 0: none yet -/
def St.bst (S : St) (a b t : Nat) : Nat → Nat × Nat
  | 0 => (0, 0)
  | n + 1 => if n.testBit a = true ∧ ¬ n.testBit b = true ∧ ((S.bst a b t n).1 = 0 ∨ S.out t n < (S.bst a b t n).2 ∨ (S.out t n = (S.bst a b t n).2 ∧ pop9 n < pop9 (S.bst a b t n).1)) then (n, S.out t n) else S.bst a b t n
theorem bst_lt (a b t : Nat) : ∀ n, (S.bst a b t n).1 ≤ n
  | 0 => Nat.le_refl _
  | n + 1 => by
    have := bst_lt a b t n
    unfold St.bst
    split
    · exact Nat.le_succ n
    · omega
theorem bst_out (hS : S.ok) (a b t : Nat) : ∀ n, (S.bst a b t n).2 ≤ 450
  | 0 => Nat.zero_le _
  | n + 1 => by
    have := bst_out hS a b t n
    have := out_le hS t n
    unfold St.bst
    split <;> assumption
theorem bst_some (a b t : Nat) : ∀ n m, m < n → m.testBit a = true → ¬ m.testBit b = true → (S.bst a b t n).1 ≠ 0
  | 0, m, h, _, _ => by omega
  | n + 1, m, h, h1, h2 => by
    unfold St.bst
    split
    · rename_i q
      intro e
      have e : n = 0 := e
      rw [e] at q
      exact absurd q.1 (by simp)
    · rename_i q
      by_cases e : m = n
      · subst e
        intro z
        exact q ⟨h1, h2, .inl z⟩
      · exact bst_some a b t n m (by omega) h1 h2
/-- THE CUT of the class -/
theorem find_C (hS : S.ok) (hC : RC T S C) {a b t : Nat} (ha : a < S.nn) (hb : b < S.nn) (ht : t < 24) : jX1_findK C 49 (nI a) (nI b) (nI t) ∧ (∀ k, k ≠ 54 → k ≠ 55 → jX1_find C 49 (nI a) (nI b) (nI t) k = C k) ∧ jX1_find C 49 (nI a) (nI b) (nI t) 54 2 = nI (S.bst a b t (2 ^ S.nn)).1 ∧ ((S.bst a b t (2 ^ S.nn)).1 ≠ 0 → jX1_find C 49 (nI a) (nI b) (nI t) 54 1 = nI (S.bst a b t (2 ^ S.nn)).2) := by
  have h9 := hS.1.2.1
  have h6 := hS.1.1
  have p6 : 2 ^ S.nn ≤ 64 := show 2 ^ S.nn ≤ 2 ^ 6 from Nat.pow_le_pow_right (by decide) h6
  have hd : S.dn < 2 ^ 9 := Nat.lt_of_lt_of_le hS.1.2.2.2.1 (Nat.pow_le_pow_right (by decide) h9)
  unfold jX1_findK jX1_find
  let C1 : IM := up2 (rowU C 55 0 (fun l => nI (S.fr t l)) S.nl) 54 2 0
  have C1o : ∀ k, k ≠ 54 → k ≠ 55 → C1 k = C k := fun k q1 q2 => funext fun j => by
    show up2 (rowU C 55 0 (fun l => nI (S.fr t l)) S.nl) 54 2 0 k j = C k j
    rw [up2_ap, if_neg (by omega), rowU_ne (by omega)]
  have C15 : ∀ l, l < S.nl → C1 55 l = nI (S.fr t l) := fun l hl => by
    show up2 (rowU C 55 0 (fun l => nI (S.fr t l)) S.nl) 54 2 0 55 l = _
    rw [up2_ap, if_neg (by omega)]
    have := rowU_at (C := C) (a := 55) (lo := 0) (g := fun l => nI (S.fr t l)) hl
    rw [Nat.zero_add] at this
    exact this
  let W : Nat → IM → IM := fun n I => if n.testBit a = true ∧ ¬ n.testBit b = true then jX1_weighM I (nI n) (nI (S.out t n)) else I
  let it : Nat → IM := fun n => Nat.rec C1 (fun n I => W n I) n
  have it1 : ∀ n, it (n + 1) = W n (it n) := fun n => rfl
  have wo : ∀ I x y k, k ≠ 54 → jX1_weighM I x y k = I k := fun I x y k q => by
    have u : up2 (up2 I 54 2 x) 54 1 y k = I k := by rw [up2_ne q, up2_ne q]
    unfold jX1_weighM
    split
    · exact u
    · split
      · exact u
      · split
        · split
          · rfl
          · exact u
        · rfl
  have inv : ∀ n, n ≤ 64 → (∀ k, k ≠ 54 → it n k = C1 k) ∧ it n 54 2 = nI (S.bst a b t n).1 ∧ ((S.bst a b t n).1 ≠ 0 → it n 54 1 = nI (S.bst a b t n).2) := by
    intro n
    induction n with
    | zero =>
      intro _
      refine ⟨fun k _ => rfl, ?_, fun q => absurd rfl q⟩
      show up2 (rowU C 55 0 (fun l => nI (S.fr t l)) S.nl) 54 2 0 54 2 = nI 0
      rw [up2_at]; rfl
    | succ n ih =>
      intro hn
      obtain ⟨i1, i2, i3⟩ := ih (by omega)
      rw [it1]
      have b1 := bst_lt (S := S) a b t n
      have b2 := bst_out hS a b t n
      have b3 := out_le hS t n
      have b4 := pop9_le n
      have b5 := pop9_le (S.bst a b t n).1
      by_cases c : n.testBit a = true ∧ ¬ n.testBit b = true
      · have e : W n (it n) = jX1_weighM (it n) (nI n) (nI (S.out t n)) := if_pos c
        have n0 : n ≠ 0 := fun q => by rw [q] at c; exact absurd c.1 (by simp)
        have z : (nI (S.bst a b t n).1 = 0) = ((S.bst a b t n).1 = 0) := propext (nI_eq (b := 0) (by omega) (by omega))
        rw [e]
        refine ⟨fun k q => (wo _ _ _ k q).trans (i1 k q), ?_⟩
        unfold jX1_weighM St.bst
        rw [i2]
        have fin : up2 (up2 (it n) 54 2 (nI n)) 54 1 (nI (S.out t n)) 54 2 = nI n ∧ up2 (up2 (it n) 54 2 (nI n)) 54 1 (nI (S.out t n)) 54 1 = nI (S.out t n) := by
          constructor
          · rw [up2_sj _ _ _ (by omega), up2_at]
          · rw [up2_at]
        by_cases c1 : (S.bst a b t n).1 = 0
        · rw [if_pos (z.mpr c1), if_pos ⟨c.1, c.2, .inl c1⟩]
          exact ⟨fin.1, fun _ => fin.2⟩
        · rw [if_neg (mt z.mp c1), i3 c1, bits64 _ (by omega), bits64 _ (by omega)]
          by_cases c2 : S.out t n < (S.bst a b t n).2
          · rw [if_pos (nI_lt c2 (by omega)), if_pos ⟨c.1, c.2, .inr (.inl c2)⟩]
            exact ⟨fin.1, fun _ => fin.2⟩
          · rw [if_neg (nI_nlt (by omega) (by omega))]
            by_cases c3 : S.out t n = (S.bst a b t n).2
            · rw [if_pos (by rw [c3])]
              by_cases c4 : pop9 n < pop9 (S.bst a b t n).1
              · rw [if_neg (nI_ge c4 (by omega)), if_pos ⟨c.1, c.2, .inr (.inr ⟨c3, c4⟩)⟩]
                exact ⟨fin.1, fun _ => fin.2⟩
              · rw [if_pos (nI_le (by omega) (by omega)), if_neg (fun q => by omega)]
                exact ⟨i2, i3⟩
            · rw [if_neg (fun q => c3 ((nI_eq (by omega) (by omega)).mp q)), if_neg (fun q => by omega)]
              exact ⟨i2, i3⟩
      · have e : W n (it n) = it n := if_neg c
        rw [e]
        unfold St.bst
        rw [if_neg (fun q => c ⟨q.1, q.2.1⟩)]
        exact ⟨i1, i2, i3⟩
  have cN : ∀ n, n ≤ 64 → cNet S (it n) := fun n hn => hC.1.of fun k j q => by rw [(inv n hn).1 k (by omega), C1o k (by omega) (by omega)]
  have E : Ends (fun m (s : Nat × Int32 × IM) => jX1_findI 49 (nI a) (nI b) (nI t) m s.1 s.2.1 s.2.2) (fun m s => jX1_findO 49 (nI a) (nI b) (nI t) m s.1 s.2.1 s.2.2) (S.nl * 1 + (1 + (2 ^ S.nn * 1 + 1))) ((0, nI 0, C) : Nat × Int32 × IM) (it (2 ^ S.nn)) := by
    have L1 := Go.loop (F := fun m (s : Nat × Int32 × IM) => jX1_findI 49 (nI a) (nI b) (nI t) m s.1 s.2.1 s.2.2) (O := fun m s => jX1_findO 49 (nI a) (nI b) (nI t) m s.1 s.2.1 s.2.2) (B := 1) (a := fun l => (0, nI l, rowU C 55 0 (fun l => nI (S.fr t l)) l)) S.nl fun l hl => Go.one fun m => ?_
    · rw [rowU_0] at L1
      refine L1.ends (Go.ends (s' := (1, nI 0, C1)) (Go.one fun m => ?_) (Go.ends (Go.loop (a := fun n => (1, nI n, it n)) (2 ^ S.nn) fun n hn => Go.one fun m => ?_) (Ends.one fun m => ?_)))
      · dsimp only
        have c0 : S.nl ≤ S.nl := Nat.le_refl _
        rw [jX1_findO_3, jX1_findI_3, rowU_ne (by omega), hC.1.2.1]
        simp (disch := omega) only [nI_leI, eq_true c0, ↓reduceIte, not_true_eq_false, not_false_eq_true, true_imp_iff, false_imp_iff, implies_true, and_true, true_and, eq_self]
        first | exact id | exact ⟨id, rfl⟩
      · dsimp only
        obtain ⟨r1, r2⟩ := roomOut_C hS (cN n (by omega)) (t := t) (n := n) (by omega) (fun l hl => by rw [(inv n (by omega)).1 55 (by omega)]; exact C15 l hl)
        have c0 : ¬ 2 ^ S.nn ≤ n := by omega
        have n3 : it n 1 3 = nI S.nn := (cN n (by omega)).1
        rw [jX1_findO_57, jX1_findI_57, n3, one_nI (by omega), r2, nI_1, it1]
        by_cases c1 : n.testBit a = true
        · by_cases c2 : n.testBit b = true
          · have e : W n (it n) = it n := if_neg fun q => q.2 c2
            rw [e]
            simp (disch := omega) only [nI_leI, hs_nI, eq_false c0, eq_true c1, eq_true c2, ↓reduceIte, not_true_eq_false, not_false_eq_true, true_imp_iff, false_imp_iff, implies_true, and_true, true_and, eq_self]
            first | exact id | exact ⟨id, rfl⟩
          · have e : W n (it n) = jX1_weighM (it n) (nI n) (nI (S.out t n)) := if_pos ⟨c1, c2⟩
            rw [e]
            simp (disch := omega) only [nI_leI, hs_nI, eq_false c0, eq_true c1, eq_false c2, eq_true r1, ↓reduceIte, not_true_eq_false, not_false_eq_true, true_imp_iff, false_imp_iff, implies_true, and_true, true_and, eq_self]
            first | exact id | exact ⟨id, rfl⟩
        · have e : W n (it n) = it n := if_neg fun q => c1 q.1
          rw [e]
          simp (disch := omega) only [nI_leI, hs_nI, eq_false c0, eq_false c1, ↓reduceIte, not_true_eq_false, not_false_eq_true, true_imp_iff, false_imp_iff, implies_true, and_true, true_and, eq_self]
          first | exact id | exact ⟨id, rfl⟩
      · dsimp only
        have c0 : 2 ^ S.nn ≤ 2 ^ S.nn := Nat.le_refl _
        have n3 : it (2 ^ S.nn) 1 3 = nI S.nn := (cN _ p6).1
        rw [jX1_findO_57, jX1_findI_57, n3, one_nI (by omega)]
        simp (disch := omega) only [nI_leI, eq_true c0, ↓reduceIte, not_true_eq_false, not_false_eq_true, true_imp_iff, false_imp_iff, implies_true, and_true, true_and, eq_self]
    · dsimp only
      have c0 : ¬ S.nl ≤ l := by omega
      have v : vp_in (nI l) 9 := (vp_nI (by omega)).mpr (by omega)
      have hz : (nI (2 ^ l) &&& nI S.dn = 0) = ¬ S.dn.testBit l = true := propext ((and0 (Nat.lt_of_le_of_lt (Nat.pow_le_pow_right (show 0 < 2 by decide) (show l ≤ 9 by omega)) (by decide))).trans pow_and)
      have rc : RC T S C := hC
      obtain ⟨f1, f2⟩ := free_C hS hC hl ht
      have f3 : jX0_freeAt (rowU C 55 0 (fun l => nI (S.fr t l)) l) 49 (nI l) (nI t) = jX0_freeAt C 49 (nI l) (nI t) := by
        unfold jX0_freeAt jX0_loadAt jX0_fallAt
        rw [nI_clamp (by omega), rowU_ne (by omega), rowU_ne (by omega), rowU_ne (by omega)]
      rw [jX1_findO_3, jX1_findI_3, rowU_ne (by omega), rowU_ne (by omega), hC.1.2.1, hC.dnC, f3, f2, one_nI (by omega), nI_clamp (by omega), nI_1, rowU_1, Nat.zero_add]
      by_cases c : S.dn.testBit l = true
      · have e : S.fr t l = 0 := if_pos c
        rw [e, nI_0]
        simp (disch := omega) only [nI_leI, hz, c, eq_false c0, eq_true v, eq_true f1, ↓reduceIte, not_true_eq_false, not_false_eq_true, true_imp_iff, false_imp_iff, implies_true, and_true, true_and, eq_self]
        first | exact id | exact ⟨id, rfl⟩
      · have e : S.fr t l = S.rm l - S.ld S.pl S.does l t - S.fl S.pl S.does l t := if_neg c
        rw [e]
        simp (disch := omega) only [nI_leI, hz, c, eq_false c0, eq_true v, eq_true f1, ↓reduceIte, not_true_eq_false, not_false_eq_true, true_imp_iff, false_imp_iff, implies_true, and_true, true_and, eq_self, Bool.false_eq_true]
        first | exact id | exact ⟨id, rfl⟩
  obtain ⟨r1, r2⟩ := E.use (f := FU) (by rw [FU_eq]; omega)
  have r2' : jX1_findI 49 (nI a) (nI b) (nI t) FU 0 0 C = it (2 ^ S.nn) := r2
  rw [r2']
  obtain ⟨i1, i2, i3⟩ := inv (2 ^ S.nn) p6
  exact ⟨r1, fun k q1 q2 => (i1 k q1).trans (C1o k q1 q2), i2, i3⟩
end SIM
end
