noncomputable section
section BOOK
variable {S : St} {Q Q' : Nat → Nat} {D : Nat → Nat → Bool} {C : IM} {b t w u h : Nat} {v vw : Int32}
/-- LINES below k of one TICK have what they have with Q', the others what they have with Q -/
def bkL (S : St) (Q Q' : Nat → Nat) (D : Nat → Nat → Bool) (b t k : Nat) (C : IM) : Prop := (∀ l, l < 9 → C (b + 1 + 0) (9 * t + l) = nI (S.ld (if l < k then Q' else Q) D l t) ∧ C (b + 1 + 1) (9 * t + l) = nI (S.fl (if l < k then Q' else Q) D l t) ∧ ∀ f, f < 9 → C (b + 1 + 2) ((9 * t + l) * 9 + f) = nI (S.pa (if l < k then Q' else Q) D l f t))
/-- all but one TICK of a book at b is as it was -/
def FrB (b t : Nat) (C C' : IM) : Prop := ∀ k j, ¬ (k = b + 1 + 0 ∧ 9 * t ≤ j ∧ j < 9 * t + 9) → ¬ (k = b + 1 + 1 ∧ 9 * t ≤ j ∧ j < 9 * t + 9) → ¬ (k = b + 1 + 2 ∧ 81 * t ≤ j ∧ j < 81 * t + 81) → C' k j = C k j
theorem FrB.refl {b t : Nat} {C : IM} : FrB b t C C := fun _ _ _ _ _ => rfl
def stE (b t w u : Nat) (v : Int32) (k : Nat) (I : IM) : IM :=
  if w.testBit k = true then (if u.testBit k = true then jX0_enterFalls (up2 I (b + 1 + 0) (9 * t + k) (I (b + 1 + 0) (9 * t + k) + v)) b (nI k) (nI w) v (nI t) else up2 I (b + 1 + 0) (9 * t + k) (I (b + 1 + 0) (9 * t + k) + v))
  else (if u.testBit k = true then jX0_enterFalls I b (nI k) (nI w) v (nI t) else I)
def itE (b t w u : Nat) (v : Int32) (C : IM) : Nat → IM
  | 0 => C
  | k + 1 => stE b t w u v k (itE b t w u v C k)
/-- one LINE -/
theorem stE_S (hs : S.slOk) (hM : Mv S Q Q' D t w u h v vw) (ht : t < 24) (hw : w < 512) (hb : b = 49 ∨ b = 57) {k : Nat} (hk : k < 9) (hC : bkL S Q Q' D b t k C) :
    bkL S Q Q' D b t (k + 1) (stE b t w u v k C) ∧ FrB b t C (stE b t w u v k C) ∧ (u.testBit k = true → jX0_enterFallsK (if w.testBit k = true then up2 C (b + 1 + 0) (9 * t + k) (C (b + 1 + 0) (9 * t + k) + v) else C) b (nI k) (nI w) v (nI t)) := by
  -- the LOAD
  obtain ⟨C1, hC1⟩ : ∃ C1 : IM, C1 = if w.testBit k = true then up2 C (b + 1 + 0) (9 * t + k) (C (b + 1 + 0) (9 * t + k) + v) else C := ⟨_, rfl⟩
  have k0 := hC k hk
  rw [if_neg (by omega)] at k0
  have m1 := hM.1 k hk
  have e1 : C1 (b + 1 + 0) (9 * t + k) = nI (S.ld Q' D k t) := by
    rw [hC1, m1]
    by_cases c : w.testBit k = true
    · rw [if_pos c, if_pos c, up2_at, k0.1]
    · rw [if_neg c, if_neg c, k0.1]
  have e2 : ∀ c j, ¬ (c = b + 1 + 0 ∧ j = 9 * t + k) → C1 c j = C c j := fun c j q => by
    rw [hC1]
    by_cases c : w.testBit k = true
    · rw [if_pos c, up2_ap, if_neg q]
    · rw [if_neg c]
  have hst : stE b t w u v k C = if u.testBit k = true then jX0_enterFalls C1 b (nI k) (nI w) v (nI t) else C1 := by
    rw [hC1]
    unfold stE
    by_cases c : w.testBit k = true
    · simp only [if_pos c]
    · simp only [if_neg c]
  rw [hst, ← hC1]
  by_cases c : u.testBit k = true
  · obtain ⟨f1, f2⟩ := enterFalls_S (C := C1) (b := b) hs hM ht hw hk c (fun f hf => by rw [e2 _ _ (by omega)]; exact k0.2.2 f hf)
    rw [if_pos c, f2]
    refine ⟨fun l hl => ?_, fun a j q1 q2 q3 => ?_, fun _ => f1⟩
    · by_cases e : l = k
      · subst e
        rw [if_pos (by omega)]
        refine ⟨?_, ?_, fun f hf => ?_⟩
        · rw [up2_ap, if_neg (by omega), rowU_ne (by omega), e1]
        · rw [up2_ap, if_pos ⟨rfl, rfl⟩]
        · rw [up2_ap, if_neg (by omega), rowU_at hf]
      · have := hC l hl
        have i : (if l < k + 1 then Q' else Q) = if l < k then Q' else Q := by
          by_cases q : l < k
          · rw [if_pos q, if_pos (by omega)]
          · rw [if_neg q, if_neg (by omega)]
        rw [i]
        refine ⟨?_, ?_, fun f hf => ?_⟩
        · rw [up2_ap, if_neg (by omega), rowU_ne (by omega), e2 _ _ (by omega)]; exact this.1
        · rw [up2_ap, if_neg (by omega), rowU_ne (by omega), e2 _ _ (by omega)]; exact this.2.1
        · rw [up2_ap, if_neg (by omega), rowU_ne (by omega), e2 _ _ (by omega)]; exact this.2.2 f hf
    · rw [up2_ap, if_neg (by omega), rowU_ne (by omega), e2 _ _ (by omega)]
  · rw [if_neg c]
    refine ⟨fun l hl => ?_, fun a j q1 q2 q3 => e2 _ _ (by omega), fun q => absurd q c⟩
    by_cases e : l = k
    · subst e
      rw [if_pos (by omega)]
      refine ⟨e1, ?_, fun f hf => ?_⟩
      · rw [e2 _ _ (by omega), fl_same hM hs hk (Bool.eq_false_iff.mpr c)]; exact k0.2.1
      · rw [e2 _ _ (by omega), hM.2.1 _ f hk hf, if_neg (fun q => c q.2)]; exact k0.2.2 f hf
    · have := hC l hl
      have i : (if l < k + 1 then Q' else Q) = if l < k then Q' else Q := by
        by_cases q : l < k
        · rw [if_pos q, if_pos (by omega)]
        · rw [if_neg q, if_neg (by omega)]
      rw [i, e2 _ _ (by omega), e2 _ _ (by omega)]
      refine ⟨this.1, this.2.1, fun f hf => ?_⟩
      rw [e2 _ _ (by omega)]; exact this.2.2 f hf
theorem FrB.trans {b t : Nat} {C C' C'' : IM} (h1 : FrB b t C C') (h2 : FrB b t C' C'') : FrB b t C C'' := fun k j q1 q2 q3 => (h2 k j q1 q2 q3).trans (h1 k j q1 q2 q3)
theorem itE_S (hs : S.slOk) (hM : Mv S Q Q' D t w u h v vw) (ht : t < 24) (hw : w < 512) (hb : b = 49 ∨ b = 57) (hC : bkL S Q Q' D b t 0 C) : ∀ k, k ≤ 9 → bkL S Q Q' D b t k (itE b t w u v C k) ∧ FrB b t C (itE b t w u v C k)
  | 0, _ => ⟨hC, FrB.refl⟩
  | k + 1, hk => by
    obtain ⟨i1, i2⟩ := itE_S hs hM ht hw hb hC k (by omega)
    obtain ⟨j1, j2, -⟩ := stE_S hs hM ht hw hb (by omega) i1
    exact ⟨j1, i2.trans j2⟩
/-- one TICK's LINES -/
theorem enterLines_S (hs : S.slOk) (hn : S.nl ≤ 9) (hM : Mv S Q Q' D t w u h v vw) (ht : t < 24) (hw : w < 2 ^ S.nl) (hu : u < 2 ^ S.nl) (hb : b = 49 ∨ b = 57) (hN : C 1 4 = nI S.nl) {p : Nat} (hp : p < 2 ^ 31) (ew : wayN p = w) (eu : spaN p = u) (hC : bkL S Q Q' D b t 0 C) :
    jX0_enterLinesK C b (nI p) v (nI t) ∧ bkL S Q Q' D b t 9 (jX0_enterLines C b (nI p) v (nI t)) ∧ FrB b t C (jX0_enterLines C b (nI p) v (nI t)) := by
  have w9 : w < 512 := Nat.lt_of_lt_of_le hw (show 2 ^ S.nl ≤ 2 ^ 9 from Nat.pow_le_pow_right (by decide) hn)
  have u9 : u < 512 := Nat.lt_of_lt_of_le hu (show 2 ^ S.nl ≤ 2 ^ 9 from Nat.pow_le_pow_right (by decide) hn)
  have it := itE_S hs hM ht w9 hb hC
  unfold jX0_enterLinesK jX0_enterLines
  rw [way_nI hp, spa_nI hp, ew, eu]
  have E : Ends (fun n (s : Int32 × IM) => jX0_enterLinesI b (nI p) v (nI t) n (nI w) (nI u) s.1 s.2) (fun n s => jX0_enterLinesO b (nI p) v (nI t) n (nI w) (nI u) s.1 s.2) (S.nl * 1 + 1) ((nI 0, C) : Int32 × IM) (itE b t w u v C S.nl) := by
    refine Go.ends (s' := (nI S.nl, itE b t w u v C S.nl)) (Go.loop (a := fun k => (nI k, itE b t w u v C k)) S.nl fun k hk => Go.one fun n => ?_) (Ends.one fun n => ?_)
    · dsimp only
      obtain ⟨i1, i2⟩ := it k (by omega)
      obtain ⟨-, -, j3⟩ := stE_S hs hM ht w9 hb (show k < 9 by omega) i1
      have e0 : itE b t w u v C k 1 4 = nI S.nl := by rw [i2 _ _ (by omega) (by omega) (by omega)]; exact hN
      have vp : vp_in (nI (9 * t + k)) 216 := (vp_nI (by omega)).mpr (by omega)
      have c0 : ¬ S.nl ≤ k := by omega
      rw [jX0_enterLinesO_15, jX0_enterLinesI_15, e0, idx9, nI_clamp (by omega), nI_1, itE]
      unfold stE
      by_cases c1 : w.testBit k = true
      · rw [if_pos c1] at j3
        by_cases c2 : u.testBit k = true
        · simp (disch := omega) only [nI_leI, hs_nI, eq_false c0, eq_true c1, eq_true c2, eq_true vp, eq_true (j3 c2), ↓reduceIte, not_true_eq_false, not_false_eq_true, true_imp_iff, false_imp_iff, implies_true, and_true, true_and, eq_self]
          first | exact id | exact ⟨id, rfl⟩
        · simp (disch := omega) only [nI_leI, hs_nI, eq_false c0, eq_true c1, eq_false c2, eq_true vp, ↓reduceIte, not_true_eq_false, not_false_eq_true, true_imp_iff, false_imp_iff, implies_true, and_true, true_and, eq_self]
          first | exact id | exact ⟨id, rfl⟩
      · rw [if_neg c1] at j3
        by_cases c2 : u.testBit k = true
        · simp (disch := omega) only [nI_leI, hs_nI, eq_false c0, eq_false c1, eq_true c2, eq_true vp, eq_true (j3 c2), ↓reduceIte, not_true_eq_false, not_false_eq_true, true_imp_iff, false_imp_iff, implies_true, and_true, true_and, eq_self]
          first | exact id | exact ⟨id, rfl⟩
        · simp (disch := omega) only [nI_leI, hs_nI, eq_false c0, eq_false c1, eq_false c2, eq_true vp, ↓reduceIte, not_true_eq_false, not_false_eq_true, true_imp_iff, false_imp_iff, implies_true, and_true, true_and, eq_self]
          first | exact id | exact ⟨id, rfl⟩
    · dsimp only
      obtain ⟨i1, i2⟩ := it S.nl (by omega)
      have e0 : itE b t w u v C S.nl 1 4 = nI S.nl := by rw [i2 _ _ (by omega) (by omega) (by omega)]; exact hN
      have c0 : S.nl ≤ S.nl := Nat.le_refl _
      rw [jX0_enterLinesO_15, jX0_enterLinesI_15, e0]
      simp (disch := omega) only [nI_leI, eq_true c0, ↓reduceIte, not_true_eq_false, not_false_eq_true, true_imp_iff, false_imp_iff, implies_true, and_true, true_and, eq_self]
  obtain ⟨r1, r2⟩ := E.use (f := FU) (by rw [FU_eq]; omega)
  have r2' : jX0_enterLinesI b (nI p) v (nI t) FU (nI w) (nI u) 0 C = itE b t w u v C S.nl := r2
  refine ⟨r1, ?_⟩
  rw [r2']
  obtain ⟨i1, i2⟩ := it S.nl hn
  refine ⟨fun l hl => ?_, i2⟩
  have := i1 l hl
  by_cases c : l < S.nl
  · rw [if_pos c] at this; rw [if_pos hl]; exact this
  · rw [if_neg c] at this
    rw [if_pos hl]
    have b1 := bit_no hw (show S.nl ≤ l by omega)
    have b2 := bit_no hu (show S.nl ≤ l by omega)
    refine ⟨?_, ?_, fun f hf => ?_⟩
    · rw [hM.1 l hl, if_neg (by rw [b1]; decide)]; exact this.1
    · rw [fl_same hM hs hl b2]; exact this.2.1
    · rw [hM.2.1 l f hl hf, if_neg (fun q => by rw [b2] at q; exact absurd q.2 (by decide))]; exact this.2.2 f hf
/-- from Q to Q' over all TICKS of a book: a SLICE comes in, or goes out -/
theorem enter_S {n s wh p : Nat} {a5 : Int32} (hs : S.slOk) (hnl : S.nl ≤ 9) (hn : n ≤ 24) (hM : ∀ t, t < n → wh.testBit t = true → Mv S Q Q' D t w u h (jX8_needed C s * a5) (C (17 + 4 * s) 6 * a5)) (hM0 : ∀ t, t < n → wh.testBit t = false → Mv S Q Q' D t 0 0 6 0 0)
    (hw : w < 2 ^ S.nl) (hu : u < 2 ^ S.nl) (hh : h < 6) (hb : b = 49 ∨ b = 57) (h8 : s < 8) (hN : C 1 4 = nI S.nl) (hB : C b 4 = nI n) (hwh : wh < 2 ^ 24) (hp : p < 2 ^ 31) (ew : wayN p = w) (eu : spaN p = u) (eh : hosN p = h) (hC : cBk S Q D b n C) :
    jX0_enterK C b s (nI p) (nI wh) a5 ∧ cBk S Q' D b n (jX0_enter C b s (nI p) (nI wh) a5) ∧ ∀ k, ¬ (b < k ∧ k < b + 5) → jX0_enter C b s (nI p) (nI wh) a5 k = C k := by
  unfold jX0_enterK jX0_enter
  rw [hos_nI hp, eh]
  obtain ⟨v, hv⟩ : ∃ v, v = jX8_needed C s * a5 := ⟨_, rfl⟩
  obtain ⟨vw, hvw⟩ : ∃ v, v = C (17 + 4 * s) 6 * a5 := ⟨_, rfl⟩
  rw [← hv, ← hvw] at hM
  rw [← hv]
  let st : Nat → IM → IM := fun k I => if wh.testBit k = true then up2 (jX0_enterLines I b (nI p) v (nI k)) (b + 1 + 3) (6 * k + h) (jX0_enterLines I b (nI p) v (nI k) (b + 1 + 3) (6 * k + h) + vw) else I
  let it : Nat → IM := fun k => Nat.rec C (fun k I => st k I) k
  have it0 : it 0 = C := rfl
  have it1 : ∀ k, it (k + 1) = st k (it k) := fun k => rfl
  have inv : ∀ k, k ≤ n → (∀ t, t < n → bkT S (if t < k then Q' else Q) D b t (it k)) ∧ (∀ c, ¬ (b < c ∧ c < b + 5) → it k c = C c) ∧ ∀ m, m < k → wh.testBit m = true → jX0_enterLinesK (it m) b (nI p) v (nI m) ∧ jX0_enterLines (it m) b (nI p) v (nI m) (17 + 4 * s) 6 * a5 = vw := by
    intro k
    induction k with
    | zero => exact fun _ => ⟨fun t ht => by rw [if_neg (by omega)]; exact hC t ht, fun _ _ => rfl, fun m hm => by omega⟩
    | succ k ih =>
      intro hk
      obtain ⟨i1, i2, i3⟩ := ih (by omega)
      rw [it1]
      by_cases c : wh.testBit k = true
      · have e : st k (it k) = up2 (jX0_enterLines (it k) b (nI p) v (nI k)) (b + 1 + 3) (6 * k + h) (jX0_enterLines (it k) b (nI p) v (nI k) (b + 1 + 3) (6 * k + h) + vw) := if_pos c
        have ik := i1 k (by omega)
        rw [if_neg (by omega)] at ik
        have mv := hM k (by omega) c
        obtain ⟨q1, q2, q3⟩ := enterLines_S (C := it k) (b := b) hs hnl mv (by omega) hw hu hb (by rw [i2 1 (by omega)]; exact hN) hp ew eu (fun l hl => by rw [if_neg (by omega)]; exact ik.1 l hl)
        rw [e]
        refine ⟨fun t ht => ?_, fun c hc => ?_, fun m hm cm => ?_⟩
        · by_cases et : t = k
          · subst et
            rw [if_pos (by omega)]
            refine ⟨fun l hl => ?_, fun a ha => ?_⟩
            · have := q2 l hl
              rw [if_pos hl] at this
              refine ⟨?_, ?_, fun f hf => ?_⟩
              · rw [up2_ap, if_neg (by omega)]; exact this.1
              · rw [up2_ap, if_neg (by omega)]; exact this.2.1
              · rw [up2_ap, if_neg (by omega)]; exact this.2.2 f hf
            · rw [up2_ap, mv.2.2 a ha]
              by_cases ea : a = h
              · rw [if_pos ⟨rfl, by omega⟩, if_pos ea, q3 _ _ (by omega) (by omega) (by omega), ea, ik.2 h hh]
              · rw [if_neg (by omega), if_neg ea, q3 _ _ (by omega) (by omega) (by omega)]
                exact ik.2 a ha
          · have it' := i1 t ht
            have ee : (if t < k + 1 then Q' else Q) = if t < k then Q' else Q := by
              by_cases q : t < k
              · rw [if_pos q, if_pos (by omega)]
              · rw [if_neg q, if_neg (by omega)]
            rw [ee]
            refine ⟨fun l hl => ?_, fun a ha => ?_⟩
            · have := it'.1 l hl
              refine ⟨?_, ?_, fun f hf => ?_⟩
              · rw [up2_ap, if_neg (by omega), q3 _ _ (by omega) (by omega) (by omega)]; exact this.1
              · rw [up2_ap, if_neg (by omega), q3 _ _ (by omega) (by omega) (by omega)]; exact this.2.1
              · rw [up2_ap, if_neg (by omega), q3 _ _ (by omega) (by omega) (by omega)]; exact this.2.2 f hf
            · rw [up2_ap, if_neg (by omega), q3 _ _ (by omega) (by omega) (by omega)]; exact it'.2 a ha
        · funext j
          rw [up2_ap, if_neg (by omega), q3 _ _ (by omega) (by omega) (by omega), i2 c hc]
        · by_cases em : m = k
          · subst em
            refine ⟨q1, ?_⟩
            rw [q3 _ _ (by omega) (by omega) (by omega), i2 _ (by omega), ← hvw]
          · exact i3 m (by omega) cm
      · have e : st k (it k) = it k := if_neg c
        rw [e]
        refine ⟨fun t ht => ?_, i2, fun m hm cm => i3 m (by rcases Nat.lt_succ_iff_lt_or_eq.mp hm with q | q; exact q; subst q; exact absurd cm c) cm⟩
        by_cases et : t = k
        · subst et
          have it' := i1 t ht
          rw [if_neg (by omega)] at it'
          rw [if_pos (by omega)]
          have mv := hM0 t ht (Bool.eq_false_iff.mpr c)
          refine ⟨fun l hl => ?_, fun a ha => ?_⟩
          · have := it'.1 l hl
            refine ⟨?_, ?_, fun f hf => ?_⟩
            · rw [mv.1 l hl, if_neg (by simp)]; exact this.1
            · rw [fl_same mv hs hl (by simp)]; exact this.2.1
            · rw [mv.2.1 l f hl hf, if_neg (by simp)]; exact this.2.2 f hf
          · rw [mv.2.2 a ha, if_neg (by omega)]; exact it'.2 a ha
        · have it' := i1 t ht
          have ee : (if t < k + 1 then Q' else Q) = if t < k then Q' else Q := by
            by_cases q : t < k
            · rw [if_pos q, if_pos (by omega)]
            · rw [if_neg q, if_neg (by omega)]
          rw [ee]; exact it'
  have E : Ends (fun m (s' : Int32 × IM) => jX0_enterI b s (nI p) (nI wh) a5 m v (nI h) s'.1 s'.2) (fun m s' => jX0_enterO b s (nI p) (nI wh) a5 m v (nI h) s'.1 s'.2) (n * 1 + 1) ((nI 0, C) : Int32 × IM) (it n) := by
    refine Go.ends (s' := (nI n, it n)) (Go.loop (a := fun k => (nI k, it k)) n fun k hk => Go.one fun m => ?_) (Ends.one fun m => ?_)
    · dsimp only
      obtain ⟨i1, i2, -⟩ := inv k (by omega)
      obtain ⟨-, -, i3⟩ := inv (k + 1) (by omega)
      have e0 : it k b 4 = nI n := by rw [i2 b (by omega)]; exact hB
      have vp : vp_in (nI (6 * k + h)) 144 := (vp_nI (by omega)).mpr (by omega)
      have c0 : ¬ n ≤ k := by omega
      rw [jX0_enterO_18, jX0_enterI_18, e0, idx6, nI_clamp (by omega), nI_1]
      by_cases c : wh.testBit k = true
      · obtain ⟨j1, j2⟩ := i3 k (by omega) c
        have e : it (k + 1) = up2 (jX0_enterLines (it k) b (nI p) v (nI k)) (b + 1 + 3) (6 * k + h) (jX0_enterLines (it k) b (nI p) v (nI k) (b + 1 + 3) (6 * k + h) + vw) := if_pos c
        rw [e, j2]
        simp (disch := omega) only [nI_leI, hs_nI, eq_false c0, eq_true c, eq_true vp, eq_true j1, ↓reduceIte, not_true_eq_false, not_false_eq_true, true_imp_iff, false_imp_iff, implies_true, and_true, true_and, eq_self]
        first | exact id | exact ⟨id, rfl⟩
      · have e : it (k + 1) = it k := if_neg c
        rw [e]
        simp (disch := omega) only [nI_leI, hs_nI, eq_false c0, eq_false c, eq_true vp, ↓reduceIte, not_true_eq_false, not_false_eq_true, true_imp_iff, false_imp_iff, implies_true, and_true, true_and, eq_self]
        first | exact id | exact ⟨id, rfl⟩
    · dsimp only
      obtain ⟨i1, i2, -⟩ := inv n (Nat.le_refl _)
      have e0 : it n b 4 = nI n := by rw [i2 b (by omega)]; exact hB
      have c0 : n ≤ n := Nat.le_refl _
      rw [jX0_enterO_18, jX0_enterI_18, e0]
      simp (disch := omega) only [nI_leI, eq_true c0, ↓reduceIte, not_true_eq_false, not_false_eq_true, true_imp_iff, false_imp_iff, implies_true, and_true, true_and, eq_self]
  obtain ⟨r1, r2⟩ := E.use (f := FU) (by rw [FU_eq]; omega)
  have r2' : jX0_enterI b s (nI p) (nI wh) a5 FU v (nI h) 0 C = it n := r2
  refine ⟨r1, ?_⟩
  rw [r2']
  obtain ⟨i1, i2, -⟩ := inv n (Nat.le_refl _)
  refine ⟨fun t ht => ?_, i2⟩
  have := i1 t ht
  rw [if_pos ht] at this
  exact this
end BOOK
end
