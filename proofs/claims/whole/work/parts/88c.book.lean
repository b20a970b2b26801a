noncomputable section
/-! numbers -/
theorem nI_mul (a b : Nat) : nI a * nI b = nI (a * b) := (Int32.ofNat_mul a b).symm
theorem nI_sub {a b : Nat} (h : b ≤ a) : nI a - nI b = nI (a - b) := by
  have : nI (a - b) + nI b = nI a := by rw [nI_add]; congr 1; omega
  rw [← this, Int32.add_sub_cancel]
theorem neg_small : ∀ d, 1 ≤ d → d < 64 → nI 0 - nI d < 0 := by
  have : ∀ d, d < 64 → 1 ≤ d → nI 0 - nI d < 0 := by decide +kernel
  exact fun d h1 h2 => this d h2 h1
theorem nI_le_sub {x a b : Nat} (hx : x < 2 ^ 31) (ha : a < 2 ^ 31) (hb : b < 64) : nI x ≤ nI a - nI b ↔ x + b ≤ a := by
  by_cases h : b ≤ a
  · rw [nI_sub h, nI_leI hx (by omega)]; omega
  · have e : nI a - nI b = nI 0 - nI (b - a) := by
      have : nI b = nI (b - a) + nI a := by rw [nI_add]; congr 1; omega
      rw [this, Int32.sub_eq_add_neg, Int32.neg_add, Int32.sub_eq_add_neg, Int32.add_comm (nI a), Int32.sub_eq_add_neg, Int32.add_assoc, Int32.add_left_neg, Int32.add_zero, nI_0, Int32.zero_add]
    constructor
    · intro q
      rw [e] at q
      exact absurd (Int32.lt_of_le_of_lt q (neg_small _ (by omega) (by omega))) (nI_pos hx)
    · intro q; omega
theorem max_nI {a b : Nat} (ha : a < 2 ^ 31) (hb : b < 2 ^ 31) : jMax (nI a) (nI b) = nI (max a b) := by
  unfold jMax
  by_cases h : a < b
  · rw [if_pos (nI_lt h hb), Nat.max_eq_right (by omega)]
  · rw [if_neg (nI_nlt (by omega) ha), Nat.max_eq_left (by omega)]
theorem min_nI {a b : Nat} (ha : a < 2 ^ 31) (hb : b < 2 ^ 31) : jMin (nI a) (nI b) = nI (min a b) := by
  unfold jMin
  by_cases h : b < a
  · rw [if_pos (nI_lt h ha), Nat.min_eq_right (by omega)]
  · rw [if_neg (nI_nlt (by omega) hb), Nat.min_eq_left (by omega)]
theorem way_nI {p : Nat} (hp : p < 2 ^ 31) : jWayIn (nI p) = nI (wayN p) := by
  unfold jWayIn
  rw [li511, and_nI]
  congr 1
  exact Nat.and_two_pow_sub_one_eq_mod p 9
theorem spa_nI {p : Nat} (hp : p < 2 ^ 31) : jSpareOf (nI p) = nI (spaN p) := by
  unfold jSpareOf
  rw [show (9 : Int32) = nI 9 from rfl, shr_nI hp (by omega), li511, and_nI]
  congr 1
  exact Nat.and_two_pow_sub_one_eq_mod _ 9
theorem hos_nI {p : Nat} (hp : p < 2 ^ 31) : jHostOf (nI p) = nI (hosN p) := by
  unfold jHostOf
  rw [show (18 : Int32) = nI 18 from rfl, shr_nI hp (by omega)]
/-- a row of numbers set, from lo on -/
def rowU (C : IM) (a lo : Nat) (g : Nat → Int32) (k : Nat) : IM := fun c j => if c = a ∧ lo ≤ j ∧ j < lo + k then g (j - lo) else C c j
theorem rowU_0 (C : IM) (a lo : Nat) (g : Nat → Int32) : rowU C a lo g 0 = C := funext fun c => funext fun j => if_neg (by omega)
theorem rowU_1 (C : IM) (a lo : Nat) (g : Nat → Int32) (k : Nat) : rowU C a lo g (k + 1) = up2 (rowU C a lo g k) a (lo + k) (g k) := by
  funext c j
  rw [up2_ap]
  unfold rowU
  by_cases h : c = a ∧ j = lo + k
  · rw [if_pos h, if_pos (by omega), h.2, Nat.add_sub_cancel_left]
  · rw [if_neg h]
    by_cases h2 : c = a ∧ lo ≤ j ∧ j < lo + k
    · rw [if_pos h2, if_pos (by omega)]
    · rw [if_neg h2, if_neg (by omega)]
theorem rowU_same {C : IM} {a lo : Nat} {g : Nat → Int32} {k : Nat} (h : g k = C a (lo + k)) : rowU C a lo g (k + 1) = rowU C a lo g k := by
  funext c j
  unfold rowU
  by_cases h1 : c = a ∧ lo ≤ j ∧ j < lo + (k + 1)
  · by_cases h2 : j = lo + k
    · rw [if_pos h1, if_neg (by omega), h2, h1.1, Nat.add_sub_cancel_left, h]
    · rw [if_pos h1, if_pos (by omega)]
  · rw [if_neg h1, if_neg (by omega)]
theorem rowU_at {C : IM} {a lo : Nat} {g : Nat → Int32} {k i : Nat} (h : i < k) : rowU C a lo g k a (lo + i) = g i := by
  unfold rowU
  rw [if_pos ⟨rfl, by omega, by omega⟩, Nat.add_sub_cancel_left]
theorem rowU_ne {C : IM} {a lo : Nat} {g : Nat → Int32} {k c j : Nat} (h : ¬ (c = a ∧ lo ≤ j ∧ j < lo + k)) : rowU C a lo g k c j = C c j := if_neg h
/-! one TICK of a book -/
def bkT (S : St) (P : Nat → Nat) (D : Nat → Nat → Bool) (b t : Nat) (C : IM) : Prop := (∀ l, l < 9 → C (b + 1 + 0) (9 * t + l) = nI (S.ld P D l t) ∧ C (b + 1 + 1) (9 * t + l) = nI (S.fl P D l t) ∧ ∀ f, f < 9 → C (b + 1 + 2) ((9 * t + l) * 9 + f) = nI (S.pa P D l f t)) ∧ ∀ a, a < 6 → C (b + 1 + 3) (6 * t + a) = nI (S.wo' P D a t)
theorem bk_iff {S : St} {P : Nat → Nat} {D : Nat → Nat → Bool} {b n : Nat} {C : IM} : cBk S P D b n C ↔ ∀ t, t < n → bkT S P D b t C := Iff.rfl
/-- the PLACES change from Q to Q' by one that has WAY w, SPARE u, HOST h -/
def Mv (S : St) (Q Q' : Nat → Nat) (D : Nat → Nat → Bool) (t w u h : Nat) (v vw : Int32) : Prop :=
  (∀ l, l < 9 → nI (S.ld Q' D l t) = if w.testBit l = true then nI (S.ld Q D l t) + v else nI (S.ld Q D l t)) ∧
  (∀ l f, l < 9 → f < 9 → nI (S.pa Q' D l f t) = if w.testBit f = true ∧ u.testBit l = true then nI (S.pa Q D l f t) + v else nI (S.pa Q D l f t)) ∧
  ∀ a, a < 6 → nI (S.wo' Q' D a t) = if a = h then nI (S.wo' Q D a t) + vw else nI (S.wo' Q D a t)
section BOOK
variable {S : St} {Q Q' : Nat → Nat} {D : Nat → Nat → Bool} {C : IM} {b t w u h : Nat} {v vw : Int32}
theorem idx9 (t l : Nat) : nI t * 9 + nI l = nI (9 * t + l) := by
  rw [li9, nI_mul, nI_add]; congr 1; omega
theorem idx6 (t l : Nat) : nI t * 6 + nI l = nI (6 * t + l) := by
  rw [li6, nI_mul, nI_add]; congr 1; omega
theorem fl_same (hM : Mv S Q Q' D t w u h v vw) (hsl : S.slOk) {l : Nat} (hl : l < 9) (hu : u.testBit l = false) : S.fl Q' D l t = S.fl Q D l t := mx_congr 9 fun f hf => by
  have := hM.2.1 l f hl hf
  rw [if_neg (fun q => by rw [hu] at q; exact absurd q.2 (by decide))] at this
  exact (nI_eq (by have := pa_le (P := Q') (D := D) hsl l f t; omega) (by have := pa_le (P := Q) (D := D) hsl l f t; omega)).mp this
/-- one LINE of a SPARE -/
theorem enterFalls_S (hsl : S.slOk) (hM : Mv S Q Q' D t w u h v vw) (ht : t < 24) (hw : w < 512) {l : Nat} (hl : l < 9) (hu : u.testBit l = true) (hC : ∀ f, f < 9 → C (b + 1 + 2) ((9 * t + l) * 9 + f) = nI (S.pa Q D l f t)) :
    jX0_enterFallsK C b (nI l) (nI w) v (nI t) ∧ jX0_enterFalls C b (nI l) (nI w) v (nI t) = up2 (rowU C (b + 1 + 2) ((9 * t + l) * 9) (fun f => nI (S.pa Q' D l f t)) 9) (b + 1 + 1) (9 * t + l) (nI (S.fl Q' D l t)) := by
  unfold jX0_enterFallsK jX0_enterFalls
  rw [idx9]
  have E : Ends (fun n (s : Int32 × Int32 × IM) => jX0_enterFallsI b (nI l) (nI w) v (nI t) n (nI (9 * t + l)) s.1 s.2.1 s.2.2) (fun n s => jX0_enterFallsO b (nI l) (nI w) v (nI t) n (nI (9 * t + l)) s.1 s.2.1 s.2.2) (9 * 1 + 1) ((nI 0, nI 0, C) : Int32 × Int32 × IM) (up2 (rowU C (b + 1 + 2) ((9 * t + l) * 9) (fun f => nI (S.pa Q' D l f t)) 9) (b + 1 + 1) (9 * t + l) (nI (S.fl Q' D l t))) := by
    refine Go.ends (s' := (nI (S.fl Q' D l t), nI 9, rowU C (b + 1 + 2) ((9 * t + l) * 9) (fun f => nI (S.pa Q' D l f t)) 9)) ?_ (Ends.one fun n => ?_)
    · have := Go.loop (F := fun n (s : Int32 × Int32 × IM) => jX0_enterFallsI b (nI l) (nI w) v (nI t) n (nI (9 * t + l)) s.1 s.2.1 s.2.2) (O := fun n s => jX0_enterFallsO b (nI l) (nI w) v (nI t) n (nI (9 * t + l)) s.1 s.2.1 s.2.2) (B := 1) (a := fun k => (nI (mx (fun f => S.pa Q' D l f t) k), nI k, rowU C (b + 1 + 2) ((9 * t + l) * 9) (fun f => nI (S.pa Q' D l f t)) k)) 9 fun f hf => Go.one fun n => ?_
      · rw [rowU_0] at this
        exact this
      · dsimp only
        have k1 := pa_le (P := Q') (D := D) hsl l f t
        have k2 : mx (fun f => S.pa Q' D l f t) f ≤ 160 := (mx_le f).mpr fun i _ => pa_le hsl l i t
        have e0 : rowU C (b + 1 + 2) ((9 * t + l) * 9) (fun f => nI (S.pa Q' D l f t)) f (b + 1 + 2) ((9 * t + l) * 9 + f) = nI (S.pa Q D l f t) := by
          rw [rowU_ne (by omega)]; exact hC f hf
        have c0 : ¬ (9 : Int32) ≤ nI f := by rw [li9]; exact nI_ge hf (by omega)
        have vp : vp_in (nI ((9 * t + l) * 9 + f)) 1944 := (vp_nI (by omega)).mpr (by omega)
        have m := hM.2.1 l f hl hf
        rw [jX0_enterFallsO_15, jX0_enterFallsI_15, show nI (9 * t + l) * 9 + nI f = nI ((9 * t + l) * 9 + f) by rw [li9, nI_mul, nI_add], nI_clamp (by omega), e0, nI_1]
        by_cases c : w.testBit f = true
        · rw [if_pos ⟨c, hu⟩] at m
          rw [← m, rowU_1, mx, ← max_nI (by omega) (by omega)]
          simp (disch := omega) only [hs_nI, eq_false c0, eq_true c, eq_true vp, ↓reduceIte, not_true_eq_false, not_false_eq_true, true_imp_iff, false_imp_iff, implies_true, and_true, true_and, eq_self]
          first | exact id | exact ⟨id, rfl⟩
        · rw [if_neg (fun q => c q.1)] at m
          rw [rowU_same (by rw [m]; exact (hC f hf).symm), mx, ← max_nI (by omega) (by omega), m]
          simp (disch := omega) only [hs_nI, eq_false c0, eq_false c, eq_true vp, ↓reduceIte, not_true_eq_false, not_false_eq_true, true_imp_iff, false_imp_iff, implies_true, and_true, true_and, eq_self]
          first | exact id | exact ⟨id, rfl⟩
    · dsimp only
      have vp : vp_in (nI (9 * t + l)) 216 := (vp_nI (by omega)).mpr (by omega)
      have c0 : (9 : Int32) ≤ nI 9 := by decide
      rw [jX0_enterFallsO_15, jX0_enterFallsI_15, nI_clamp (by omega)]
      simp only [eq_true c0, eq_true vp, ↓reduceIte, not_true_eq_false, not_false_eq_true, true_imp_iff, false_imp_iff, implies_true, and_true, true_and, eq_self]
  exact E.use (by rw [FU_eq]; omega)
end BOOK
end
