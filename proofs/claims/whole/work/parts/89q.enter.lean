noncomputable section
/-! entering a book: also the ticks beyond stay as they were -/
def HiS (b n : Nat) (C C' : IM) : Prop := ∀ k j, ((k = b + 1 + 0 ∨ k = b + 1 + 1) ∧ 9 * n ≤ j) ∨ (k = b + 1 + 2 ∧ 81 * n ≤ j) ∨ (k = b + 1 + 3 ∧ 6 * n ≤ j) → C' k j = C k j
section BOOK
variable {S : St} {Q Q' : Nat → Nat} {D : Nat → Nat → Bool} {C : IM} {b t w u h : Nat} {v vw : Int32}
theorem enter_S4 {n s wh p : Nat} {a5 : Int32} (hs : S.slOk) (hnl : S.nl ≤ 9) (hn : n ≤ 24) (hM : ∀ t, t < n → wh.testBit t = true → Mv S Q Q' D t w u h (jX8_needed C s * a5) (C (17 + 4 * s) 6 * a5)) (hM0 : ∀ t, t < n → wh.testBit t = false → Mv S Q Q' D t 0 0 6 0 0)
    (hw : w < 2 ^ S.nl) (hu : u < 2 ^ S.nl) (hh : h < 6) (hb : b = 49 ∨ b = 57) (h8 : s < 8) (hN : C 1 4 = nI S.nl) (hB : C b 4 = nI n) (hwh : wh < 2 ^ 24) (hp : p < 2 ^ 31) (ew : wayN p = w) (eu : spaN p = u) (eh : hosN p = h) (hC : cBk S Q D b n C) :
    jX0_enterK C b s (nI p) (nI wh) a5 ∧ cBk S Q' D b n (jX0_enter C b s (nI p) (nI wh) a5) ∧ (∀ k, ¬ (b < k ∧ k < b + 5) → jX0_enter C b s (nI p) (nI wh) a5 k = C k) ∧ HiS b n C (jX0_enter C b s (nI p) (nI wh) a5) := by
  unfold jX0_enterK jX0_enter
  rw [hos_nI hp, eh]
  obtain ⟨v, hv⟩ : ∃ v, v = jX8_needed C s * a5 := ⟨_, rfl⟩
  obtain ⟨vw, hvw⟩ : ∃ v, v = C (17 + 4 * s) 6 * a5 := ⟨_, rfl⟩
  rw [← hv, ← hvw] at hM
  rw [← hv]
  let st : Nat → IM → IM := fun k I => if wh.testBit k = true then up2 (jX0_enterLines I b (nI p) v (nI k)) (b + 1 + 3) (6 * k + h) (jX0_enterLines I b (nI p) v (nI k) (b + 1 + 3) (6 * k + h) + vw) else I
  let it : Nat → IM := fun k => Nat.rec C (fun k I => st k I) k
  have it0 : it 0 = C := rfl
  have it1 : ∀ k, it (k + 1) = st k (it k) := fun k => rfl
  have inv : ∀ k, k ≤ n → (∀ t, t < n → bkT S (if t < k then Q' else Q) D b t (it k)) ∧ (∀ c, ¬ (b < c ∧ c < b + 5) → it k c = C c) ∧ (∀ m, m < k → wh.testBit m = true → jX0_enterLinesK (it m) b (nI p) v (nI m) ∧ jX0_enterLines (it m) b (nI p) v (nI m) (17 + 4 * s) 6 * a5 = vw) ∧ HiS b n C (it k) := by
    intro k
    induction k with
    | zero => exact fun _ => ⟨fun t ht => by rw [if_neg (by omega)]; exact hC t ht, fun _ _ => rfl, fun m hm => by omega, fun _ _ _ => rfl⟩
    | succ k ih =>
      intro hk
      obtain ⟨i1, i2, i3, i4⟩ := ih (by omega)
      rw [it1]
      by_cases c : wh.testBit k = true
      · have e : st k (it k) = up2 (jX0_enterLines (it k) b (nI p) v (nI k)) (b + 1 + 3) (6 * k + h) (jX0_enterLines (it k) b (nI p) v (nI k) (b + 1 + 3) (6 * k + h) + vw) := if_pos c
        have ik := i1 k (by omega)
        rw [if_neg (by omega)] at ik
        have mv := hM k (by omega) c
        obtain ⟨q1, q2, q3⟩ := enterLines_S (C := it k) (b := b) hs hnl mv (by omega) hw hu hb (by rw [i2 1 (by omega)]; exact hN) hp ew eu (fun l hl => by rw [if_neg (by omega)]; exact ik.1 l hl)
        rw [e]
        refine ⟨fun t ht => ?_, fun c hc => ?_, fun m hm cm => ?_, fun c j hj => ?_⟩
        · by_cases et : t = k
          · subst et
            rw [if_pos (by omega)]
            refine ⟨fun l hl => ?_, fun a ha => ?_⟩
            · have := q2 l hl
              rw [if_pos hl] at this
              refine ⟨?_, ?_, fun f hf => ?_⟩
              · rw [up2_ap, if_neg (by omega)]; exact this.1
              · rw [up2_ap, if_neg (by omega)]; exact this.2.1
              · rw [up2_ap, if_neg (by omega)]; exact this.2.2 f hf
            · rw [up2_ap, mv.2.2 a ha]
              by_cases ea : a = h
              · rw [if_pos ⟨rfl, by omega⟩, if_pos ea, q3 _ _ (by omega) (by omega) (by omega), ea, ik.2 h hh]
              · rw [if_neg (by omega), if_neg ea, q3 _ _ (by omega) (by omega) (by omega)]
                exact ik.2 a ha
          · have it' := i1 t ht
            have ee : (if t < k + 1 then Q' else Q) = if t < k then Q' else Q := by
              by_cases q : t < k
              · rw [if_pos q, if_pos (by omega)]
              · rw [if_neg q, if_neg (by omega)]
            rw [ee]
            refine ⟨fun l hl => ?_, fun a ha => ?_⟩
            · have := it'.1 l hl
              refine ⟨?_, ?_, fun f hf => ?_⟩
              · rw [up2_ap, if_neg (by omega), q3 _ _ (by omega) (by omega) (by omega)]; exact this.1
              · rw [up2_ap, if_neg (by omega), q3 _ _ (by omega) (by omega) (by omega)]; exact this.2.1
              · rw [up2_ap, if_neg (by omega), q3 _ _ (by omega) (by omega) (by omega)]; exact this.2.2 f hf
            · rw [up2_ap, if_neg (by omega), q3 _ _ (by omega) (by omega) (by omega)]; exact it'.2 a ha
        · funext j
          rw [up2_ap, if_neg (by omega), q3 _ _ (by omega) (by omega) (by omega), i2 c hc]
        · by_cases em : m = k
          · subst em
            refine ⟨q1, ?_⟩
            rw [q3 _ _ (by omega) (by omega) (by omega), i2 _ (by omega), ← hvw]
          · exact i3 m (by omega) cm
        · rw [up2_ap, if_neg (by omega), q3 _ _ (by omega) (by omega) (by omega)]; exact i4 c j hj
      · have e : st k (it k) = it k := if_neg c
        rw [e]
        refine ⟨fun t ht => ?_, i2, fun m hm cm => i3 m (by rcases Nat.lt_succ_iff_lt_or_eq.mp hm with q | q; exact q; subst q; exact absurd cm c) cm, i4⟩
        by_cases et : t = k
        · subst et
          have it' := i1 t ht
          rw [if_neg (by omega)] at it'
          rw [if_pos (by omega)]
          have mv := hM0 t ht (Bool.eq_false_iff.mpr c)
          refine ⟨fun l hl => ?_, fun a ha => ?_⟩
          · have := it'.1 l hl
            refine ⟨?_, ?_, fun f hf => ?_⟩
            · rw [mv.1 l hl, if_neg (by simp)]; exact this.1
            · rw [fl_same mv hs hl (by simp)]; exact this.2.1
            · rw [mv.2.1 l f hl hf, if_neg (by simp)]; exact this.2.2 f hf
          · rw [mv.2.2 a ha, if_neg (by omega)]; exact it'.2 a ha
        · have it' := i1 t ht
          have ee : (if t < k + 1 then Q' else Q) = if t < k then Q' else Q := by
            by_cases q : t < k
            · rw [if_pos q, if_pos (by omega)]
            · rw [if_neg q, if_neg (by omega)]
          rw [ee]; exact it'
  have E : Ends (fun m (s' : Int32 × IM) => jX0_enterI b s (nI p) (nI wh) a5 m v (nI h) s'.1 s'.2) (fun m s' => jX0_enterO b s (nI p) (nI wh) a5 m v (nI h) s'.1 s'.2) (n * 1 + 1) ((nI 0, C) : Int32 × IM) (it n) := by
    refine Go.ends (s' := (nI n, it n)) (Go.loop (a := fun k => (nI k, it k)) n fun k hk => Go.one fun m => ?_) (Ends.one fun m => ?_)
    · dsimp only
      obtain ⟨i1, i2, -, -⟩ := inv k (by omega)
      obtain ⟨-, -, i3, -⟩ := inv (k + 1) (by omega)
      have e0 : it k b 4 = nI n := by rw [i2 b (by omega)]; exact hB
      have vp : vp_in (nI (6 * k + h)) 144 := (vp_nI (by omega)).mpr (by omega)
      have c0 : ¬ n ≤ k := by omega
      rw [jX0_enterO_18, jX0_enterI_18, e0, idx6, nI_clamp (by omega), nI_1]
      by_cases c : wh.testBit k = true
      · obtain ⟨j1, j2⟩ := i3 k (by omega) c
        have e : it (k + 1) = up2 (jX0_enterLines (it k) b (nI p) v (nI k)) (b + 1 + 3) (6 * k + h) (jX0_enterLines (it k) b (nI p) v (nI k) (b + 1 + 3) (6 * k + h) + vw) := if_pos c
        rw [e, j2]
        simp (disch := omega) only [nI_leI, hs_nI, eq_false c0, eq_true c, eq_true vp, eq_true j1, ↓reduceIte, not_true_eq_false, not_false_eq_true, true_imp_iff, false_imp_iff, implies_true, and_true, true_and, eq_self]
        first | exact id | exact ⟨id, rfl⟩
      · have e : it (k + 1) = it k := if_neg c
        rw [e]
        simp (disch := omega) only [nI_leI, hs_nI, eq_false c0, eq_false c, eq_true vp, ↓reduceIte, not_true_eq_false, not_false_eq_true, true_imp_iff, false_imp_iff, implies_true, and_true, true_and, eq_self]
        first | exact id | exact ⟨id, rfl⟩
    · dsimp only
      obtain ⟨i1, i2, -, -⟩ := inv n (Nat.le_refl _)
      have e0 : it n b 4 = nI n := by rw [i2 b (by omega)]; exact hB
      have c0 : n ≤ n := Nat.le_refl _
      rw [jX0_enterO_18, jX0_enterI_18, e0]
      simp (disch := omega) only [nI_leI, eq_true c0, ↓reduceIte, not_true_eq_false, not_false_eq_true, true_imp_iff, false_imp_iff, implies_true, and_true, true_and, eq_self]
  obtain ⟨r1, r2⟩ := E.use (f := FU) (by rw [FU_eq]; omega)
  have r2' : jX0_enterI b s (nI p) (nI wh) a5 FU v (nI h) 0 C = it n := r2
  refine ⟨r1, ?_⟩
  rw [r2']
  obtain ⟨i1, i2, -, i4⟩ := inv n (Nat.le_refl _)
  refine ⟨fun t ht => ?_, i2, i4⟩
  have := i1 t ht
  rw [if_pos ht] at this
  exact this
end BOOK
section HOLD
variable {S : St} {P : Nat → Nat} {D : Nat → Nat → Bool} {C : IM} {b n s p wh : Nat}
/-- a SLICE comes in -/
theorem come_S4 (hsl : S.slOk) (hN : S.netOk) (hn : n ≤ 24) (hs : s < S.ns) (h0 : P s = 0) (hb : b = 49 ∨ b = 57) (hp : p < 2 ^ 31) (hp0 : p ≠ 0) (hw : wayN p < 2 ^ S.nl) (hu : spaN p < 2 ^ S.nl) (hh : hosN p < 6) (hc : C 1 4 = nI S.nl) (hB : C b 4 = nI n) (hnd : jX8_needed C s = nI (S.need s)) (hwk : C (17 + 4 * s) 6 = nI (S.wk s)) (hwh : wh < 2 ^ 24) (hD : ∀ t, t < n → wh.testBit t = D s t) (hC : cBk S P D b n C) :
    jX0_enterK C b s (nI p) (nI wh) 1 ∧ cBk S (put P s p) D b n (jX0_enter C b s (nI p) (nI wh) 1) ∧ (∀ k, ¬ (b < k ∧ k < b + 5) → jX0_enter C b s (nI p) (nI wh) 1 k = C k) ∧ HiS b n C (jX0_enter C b s (nI p) (nI wh) 1) := by
  have h8 := hsl.1
  have e : put P s 0 = P := by rw [← h0]; exact put_self
  refine enter_S4 (Q := P) hsl hN.2.1 hn (fun t ht q => ?_) (fun t ht q => ?_) hw hu hh hb (by omega) hc hB hwh hp rfl rfl rfl hC
  · have := mv_in (S := S) (P := P) (D := D) (t := t) hs hp0 (by rw [← hD t ht]; exact q)
    rw [e] at this
    rw [hnd, hwk]
    exact this
  · have := (mv_no (S := S) (P := P) (D := D) (t := t) hs hp0 (by rw [← hD t ht]; exact q)).1
    rw [e] at this
    exact this
/-- a SLICE goes out -/
theorem go_S4 (hsl : S.slOk) (hN : S.netOk) (hn : n ≤ 24) (hs : s < S.ns) (h0 : P s = p) (hb : b = 49 ∨ b = 57) (hp : p < 2 ^ 31) (hp0 : p ≠ 0) (hw : wayN p < 2 ^ S.nl) (hu : spaN p < 2 ^ S.nl) (hh : hosN p < 6) (hc : C 1 4 = nI S.nl) (hB : C b 4 = nI n) (hnd : jX8_needed C s = nI (S.need s)) (hwk : C (17 + 4 * s) 6 = nI (S.wk s)) (hwh : wh < 2 ^ 24) (hD : ∀ t, t < n → wh.testBit t = D s t) (hC : cBk S P D b n C) :
    jX0_enterK C b s (nI p) (nI wh) (-1) ∧ cBk S (put P s 0) D b n (jX0_enter C b s (nI p) (nI wh) (-1)) ∧ (∀ k, ¬ (b < k ∧ k < b + 5) → jX0_enter C b s (nI p) (nI wh) (-1) k = C k) ∧ HiS b n C (jX0_enter C b s (nI p) (nI wh) (-1)) := by
  have h8 := hsl.1
  have e : put P s p = P := by rw [← h0]; exact put_self
  refine enter_S4 (Q := P) hsl hN.2.1 hn (fun t ht q => ?_) (fun t ht q => ?_) hw hu hh hb (by omega) hc hB hwh hp rfl rfl rfl hC
  · have := mv_out (S := S) (P := P) (D := D) (t := t) hs hp0 (by rw [← hD t ht]; exact q)
    rw [e] at this
    rw [hnd, hwk]
    exact this
  · have := (mv_no (S := S) (P := P) (D := D) (t := t) hs hp0 (by rw [← hD t ht]; exact q)).2
    rw [e] at this
    exact this
end HOLD
end
