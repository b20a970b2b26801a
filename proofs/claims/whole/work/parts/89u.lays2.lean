noncomputable section
section CM
variable {S : St} {M : IM} {s : Nat} {P : Nat → Nat}
def FrL (M M' : IM) : Prop := ∀ a b, ¬ (106 ≤ a ∧ a ≤ 111) → ¬ (115 ≤ a ∧ a ≤ 127) → ¬ (a = 79 ∧ b = 5) → M' a b = M a b
theorem FrL.refl {M : IM} : FrL M M := fun _ _ _ _ _ => rfl
theorem FrL.trans {A B C : IM} (h : FrL A B) (h2 : FrL B C) : FrL A C := fun a b q1 q2 q3 => (h2 a b q1 q2 q3).trans (h a b q1 q2 q3)
theorem FrC.l {A B : IM} (h : FrC s A B) : FrL A B := fun a b q1 q2 q3 => h a b (by omega) (by omega) q3
theorem FrS.l {A B : IM} (h : FrS s A B) : FrL A B := fun a b q1 q2 q3 => h a b (by omega) (by omega) (by omega) (by omega)
def cdR (c : Nat) : Int32 := if c = 1 then 1 else if c = 2 then -1000006 else 0
def curU (S : St) (s : Nat) (U : List Nat) (M : IM) : Prop := ∃ L k, Cur S s M L k ∧ L.filter (fun p => gB (S.up' p)) = U ∧ L.length ≤ 4374
def MI (S : St) (st : List (Nat × List Nat)) (s : Nat) (U : List Nat) (P : Nat → Nat) (q : Nat) (M : IM) : Prop :=
  mNet S M ∧ mSl S M ∧ mPl S P (up2 M 106 s 0) ∧ M 79 5 = nI q ∧ curU S s U M ∧ ∀ e, e ∈ st → curU S e.1 e.2 M
theorem curU.fr {U : List Nat} (h : curU S s U M) {M' : IM} (f : ∀ a b, (a = 115 ∧ b = s) ∨ (116 ≤ a ∧ a ≤ 120 ∧ 256 * s ≤ b ∧ b < 256 * s + 256) ∨ (a = 90 ∨ a = 94) ∨ (124 ≤ a ∧ a ≤ 127 ∧ b = s) → M' a b = M a b) (h27 : S.wn s ≤ 27) : curU S s U M' := by
  obtain ⟨L, k, h1, h2, h3⟩ := h
  exact ⟨L, k, h1.fr f h27, h2, h3⟩
theorem one_M (hN : S.netOk) (hsl : S.slOk) {set : Nat} {st : List (Nat × List Nat)} {U td : List Nat} {q : Nat} (h : SI S set st s U td P q) (hM : MI S st s U P q M) {X : Nat × Nat × List Nat × Nat} (hX : scan (S.hold P s) U q = X) :
    jX12_comesInK M (nI s) ∧ ∃ M', jX12_comesIn M (nI s) = (cdR X.1, M') ∧ FrL M M' ∧ mNet S M' ∧ mSl S M' ∧ M' 79 5 = nI X.2.2.2 ∧ (∀ e, e ∈ st → curU S e.1 e.2 M') ∧ (X.1 = 0 → mPl S P M') ∧ (X.1 = 1 → mPl S (put P s X.2.1) M' ∧ curU S s X.2.2.1 M') := by
  have h8 := hsl.1
  have h0 := h.zero
  obtain ⟨s1, s2, s3, s4, s5, s6, s7, s8, s9, s10, s11⟩ := h
  obtain ⟨m1, m2, m3, m4, ⟨L, k, m5, m6, m7⟩, m8⟩ := hM
  have v8 : vp_in (nI s) 8 := (vp_nI (by omega)).mpr (by omega)
  have f0 : FrC s M (up2 M 106 s 0) := fun a b q1 q2 q3 => by rw [up2_ap, if_neg (by omega)]
  obtain ⟨M', c1, c2, c3, c4, c5⟩ := comesIn_M hN hsl s5 s1 h0 L k q (up2 M 106 s 0) s11 (m1.frc f0) (m2.frc f0) m3 (by rw [up2_ap, if_neg (by omega)]; exact m4) (m5.fr (fun a b q => by rw [up2_ap, if_neg (by omega)]) (wayA_27 hN _ _)) X (by rw [m6]; exact hX)
  have fc := f0.trans c1
  obtain ⟨i1, -⟩ := scan_facts (S.hold P s) U q s11
  rw [hX] at i1
  have rest : FrL M M' ∧ mNet S M' ∧ mSl S M' ∧ M' 79 5 = nI X.2.2.2 ∧ (∀ e, e ∈ st → curU S e.1 e.2 M') := by
    refine ⟨fc.l, m1.frc fc, m2.frc fc, c2, fun e he => (m8 e he).fr (fun a b q => ?_) (wayA_27 hN _ _)⟩
    have := chr_lt s3 e he
    exact fc a b (by omega) (by omega) (by omega)
  unfold jX12_comesInK jX12_comesIn
  rw [nI_clamp (by omega)]
  rcases i1 with e | e | e
  · obtain ⟨d1, d2⟩ := c3 e
    obtain ⟨r1, r2⟩ := d2.use (f := FU) (by rw [FU_eq]; omega)
    refine ⟨⟨v8, r1⟩, M', ?_, rest.1, rest.2.1, rest.2.2.1, rest.2.2.2.1, rest.2.2.2.2, fun _ => d1, fun q => absurd (e.symm.trans q) (by decide)⟩
    rw [e]; exact r2
  · obtain ⟨d1, ⟨L', k', d3, d4, d5⟩, d2⟩ := c4 e
    obtain ⟨r1, r2⟩ := d2.use (f := FU) (by rw [FU_eq]; omega)
    refine ⟨⟨v8, r1⟩, M', ?_, rest.1, rest.2.1, rest.2.2.1, rest.2.2.2.1, rest.2.2.2.2, fun q => absurd (e.symm.trans q) (by decide), fun _ => ⟨d1, L', k', d3, d4, by omega⟩⟩
    rw [e]; exact r2
  · obtain ⟨r1, r2⟩ := (c5 e).use (f := FU) (by rw [FU_eq]; omega)
    refine ⟨⟨v8, r1⟩, M', ?_, rest.1, rest.2.1, rest.2.2.1, rest.2.2.2.1, rest.2.2.2.2, fun q => absurd (e.symm.trans q) (by decide), fun q => absurd (e.symm.trans q) (by decide)⟩
    rw [e]; exact r2
abbrev yF (set : Nat) : Nat → Nat × Int32 × IM → Int32 × IM := fun n t => jX12_laysI (nI set) n t.1 t.2.1 t.2.2
abbrev yO (set : Nat) : Nat → Nat × Int32 × IM → Prop := fun n t => jX12_laysO (nI set) n t.1 t.2.1 t.2.2
theorem lays_end (hsl : S.slOk) (m2 : mSl S M) (set : Nat) : Ends (yF set) (yO set) 1 (1, nI S.ns, M) (1, M) := Ends.one fun n => by
  have h8 := hsl.1
  dsimp only [yF, yO]
  rw [jX12_laysO_41, jX12_laysI_41, m2.1]
  simp (disch := omega) only [nI_leI, eq_true (Nat.le_refl S.ns), ↓reduceIte, not_true_eq_false, not_false_eq_true, true_imp_iff, false_imp_iff, implies_true, and_true, true_and, eq_self]
theorem lays_loop (hN : S.netOk) (hsl : S.slOk) {set : Nat} (hset : set < 2 ^ 31) : ∀ (f : Nat) (st : List (Nat × List Nat)) (s : Nat) (U td : List Nat) (P : Nat → Nat) (q : Nat) (M : IM), 2 * (2000 - q) + st.length + 1 ≤ f → SI S set st s U td P q → MI S st s U P q M → ∀ X, srch S f st s U td P q = X →
    ∃ M', FrL M M' ∧ M' 79 5 = nI X.2.1 ∧ (X.1 = 1 → mPl S X.2.2 M') ∧ Ends (yF set) (yO set) (f + 1) (1, nI s, M) (cdR X.1, M')
  | 0, st, s, U, td, P, q, M, hf, _, _, _, _ => by omega
  | f + 1, st, s, U, td, P, q, M, hf, h, hM, X, hX => by
    have h8 := hsl.1
    have hns : s < S.ns := h.2.2.2.2.1
    have c0 : ¬ S.ns ≤ s := by omega
    obtain ⟨Y, hY⟩ : ∃ Y, scan (S.hold P s) U q = Y := ⟨_, rfl⟩
    obtain ⟨i1, i2, i3, i4, i5⟩ := scan_facts (S.hold P s) U q h.2.2.2.2.2.2.2.2.2.2
    obtain ⟨o1, M', o2, o3, o4, o5, o6, o7, o8, o9⟩ := one_M hN hsl h hM hY
    have e79 : M 79 2 = nI S.ns := hM.2.1.1
    have z1 : ¬ (1 : Int32) = -1000006 := by decide
    have z2 : ¬ (0 : Int32) = -1000006 := by decide
    have z3 : ¬ (0 : Int32) = 1 := by decide
    unfold srch at hX
    by_cases c : Y.1 = 1
    · obtain ⟨o10, o11⟩ := o9 c
      rw [c, show cdR 1 = 1 from rfl] at o2
      have hq' : q < Y.2.2.2 := by rw [hY] at i4; exact (i4 c).2.1
      rw [hY] at i3
      cases td with
      | nil =>
        rw [hY, if_pos c] at hX
        obtain ⟨a1, a2⟩ := after_M (M := M') hsl o5 hset h.2.2.2.1 (by omega) (v := nI s) (nI_1 s)
        refine ⟨M', o3, ?_, fun _ => ?_, ?_⟩
        · rw [← hX]; exact o6
        · rw [← hX]; exact o10
        · rw [← hX]
          refine Ends.le (Go.ends (B1 := 1) (Go.one (s' := (1, nI S.ns, M')) fun n => ?_) (lays_end hsl o5 set)) (by omega)
          dsimp only [yF, yO]
          rw [jX12_laysO_41, jX12_laysI_41, e79, o2]
          dsimp only
          rw [a2]
          simp (disch := omega) only [o5.1, nI_leI, eq_false c0, eq_true o1, eq_false z1, eq_true a1, List.headD_nil, eq_true (Nat.le_refl S.ns), ↓reduceIte, not_true_eq_false, not_false_eq_true, true_imp_iff, false_imp_iff, implies_true, and_true, true_and, eq_self]
          first | exact id | exact ⟨id, rfl⟩
      | cons s' td' =>
        have h' := h.push hN hsl (by rw [hY]; exact c)
        rw [hY] at h'
        rw [hY, if_pos c] at hX
        dsimp only at hX
        have hs' : s' < S.ns := h'.2.2.2.2.1
        have lt : s < s' := h.2.2.2.1.1
        obtain ⟨a1, a2⟩ := after_M (M := M') hsl o5 hset h.2.2.2.1 (by omega) (v := nI s) (nI_1 s)
        obtain ⟨b1, b2, b3⟩ := start_M hN hsl hs' o4 o5
        have fl := b3.l
        have g : MI S ((s, Y.2.2.1) :: st) s' (S.ups s') (put P s Y.2.1) Y.2.2.2 (jX12_startM M' (nI s')) := by
          refine ⟨o4.of (fl _ _ (by omega) (by omega) (by omega)) (fl _ _ (by omega) (by omega) (by omega)) fun k q => funext fun j => fl k j (by omega) (by omega) (by omega), o5.of (fl _ _ (by omega) (by omega) (by omega)) fun k q1 q2 => funext fun j => fl k j (by omega) (by omega) (by omega), ?_, ?_, ⟨S.plist s', 0, b2, rfl, plist_len hN s'⟩, fun e he => ?_⟩
          · refine mPl_clear (s := s') (M := M') o10 (fun a b q1 q2 q3 => ?_) (up2_at _ _ _ _) h'.zero
            rw [up2_ap, if_neg (by omega)]; exact b3 a b (by omega) (by omega) (by omega) (by omega)
          · rw [b3 _ _ (by omega) (by omega) (by omega) (by omega)]; exact o6
          · have q1 : e.1 < s' := chr_lt h'.2.2.1 e he
            have q2 : curU S e.1 e.2 M' := by
              cases he with
              | head => exact o11
              | tail _ q => exact o7 e q
            refine q2.fr (fun a b q => ?_) (wayA_27 hN _ _)
            have : e.1 ≤ 7 := by omega
            exact b3 a b (by omega) (by omega) (by omega) (by omega)
        obtain ⟨M2, r1, r2, r3, r4⟩ := lays_loop hN hsl hset f _ _ _ _ _ _ _ (by simp; omega) h' g X hX
        refine ⟨M2, o3.trans (fl.trans r1), r2, r3, Ends.le (Go.ends (B1 := 1) (Go.one fun n => ?_) r4) (by omega)⟩
        dsimp only [yF, yO]
        have c2 : ¬ S.ns ≤ s' := by omega
        rw [jX12_laysO_41, jX12_laysI_41, e79, o2]
        dsimp only
        rw [a2]
        simp (disch := omega) only [o5.1, nI_leI, eq_false c0, eq_true o1, eq_false z1, eq_true a1, List.headD_cons, eq_false c2, eq_true b1, ↓reduceIte, not_true_eq_false, not_false_eq_true, true_imp_iff, false_imp_iff, implies_true, and_true, true_and, eq_self]
        first | exact id | exact ⟨id, rfl⟩
    · rw [hY] at hX
      rw [if_neg c] at hX
      by_cases d : Y.1 = 2
      · rw [if_pos d] at hX
        rw [d, show cdR 2 = -1000006 from rfl] at o2
        refine ⟨M', o3, by rw [← hX]; exact o6, fun q => by rw [← hX] at q; exact absurd q (by decide : ¬ (2 : Nat) = 1), ?_⟩
        rw [← hX]
        refine Ends.le (Ends.one fun n => ?_) (by omega)
        dsimp only [yF, yO]
        rw [jX12_laysO_41, jX12_laysI_41, e79, o2]
        simp (disch := omega) only [nI_leI, eq_false c0, eq_true o1, ↓reduceIte, not_true_eq_false, not_false_eq_true, true_imp_iff, false_imp_iff, implies_true, and_true, true_and, eq_self]
        rfl
      · have e0 : Y.1 = 0 := by rw [hY] at i1; omega
        rw [if_neg d] at hX
        rw [e0, show cdR 0 = 0 from rfl] at o2
        obtain ⟨b1, b2⟩ := before_M (M := M') hset h.2.2.1 (by omega)
        cases st with
        | nil =>
          dsimp only at hX b2
          refine ⟨M', o3, by rw [← hX]; exact o6, fun q => by rw [← hX] at q; exact absurd q (by decide : ¬ (0 : Nat) = 1), ?_⟩
          rw [← hX]
          refine Ends.le (Ends.one fun n => ?_) (by omega)
          dsimp only [yF, yO]
          rw [jX12_laysO_41, jX12_laysI_41, e79, o2]
          dsimp only
          rw [b2]
          have zz : ¬ (0 : Int32) ≤ -1 := by decide
          simp (disch := omega) only [nI_leI, eq_false c0, eq_true o1, eq_false z2, eq_false z3, eq_true b1, eq_false zz, ↓reduceIte, not_true_eq_false, not_false_eq_true, true_imp_iff, false_imp_iff, implies_true, and_true, true_and, eq_self]
          rfl
        | cons e st' =>
          dsimp only at hX b2
          have h' := h.pop
          rw [hY] at h'
          have lt : e.1 < s := h.2.2.1.1
          rw [hY] at i2 i3
          have g : MI S st' e.1 e.2 (put P e.1 0) Y.2.2.2 M' := by
            refine ⟨o4, o5, ?_, o6, o7 e (.head _), fun x hx => o7 x (.tail _ hx)⟩
            exact mPl_put0 (o8 e0) (fun k i q => by rw [up2_ap, if_neg q]) (up2_at _ _ _ _)
          obtain ⟨M2, r1, r2, r3, r4⟩ := lays_loop hN hsl hset f _ _ _ _ _ _ _ (by simp at hf; omega) h' g X hX
          refine ⟨M2, o3.trans r1, r2, r3, Ends.le (Go.ends (B1 := 1) (Go.one fun n => ?_) r4) (by omega)⟩
          dsimp only [yF, yO]
          rw [jX12_laysO_41, jX12_laysI_41, e79, o2]
          dsimp only
          rw [b2]
          have zz : (0 : Int32) ≤ nI e.1 := nI_pos' (by omega)
          simp (disch := omega) only [nI_leI, eq_false c0, eq_true o1, eq_false z2, eq_false z3, eq_true b1, eq_true zz, ↓reduceIte, not_true_eq_false, not_false_eq_true, true_imp_iff, false_imp_iff, implies_true, and_true, true_and, eq_self]
          first | exact id | exact ⟨id, rfl⟩
/-- the reference lays a set -/
theorem lays_M (hN : S.netOk) (hsl : S.slOk) {set q : Nat} (hset : set < 2 ^ 31) (hq : q ≤ 2000) (m1 : mNet S M) (m2 : mSl S M) (m5 : M 79 5 = nI q) : jX12_laysK M (nI set) ∧ ∃ M', jX12_lays M (nI set) = (cdR (S.lays set q).1, M') ∧ FrL M M' ∧ M' 79 5 = nI (S.lays set q).2.1 ∧ ((S.lays set q).1 = 1 → mPl S (S.lays set q).2.2 M') := by
  have h8 := hsl.1
  let A : Nat → IM := fun k => rowU M 106 0 (fun _ => 0) k
  have go : Go (yF set) (yO set) (8 * 1) (0, 0, M) (0, nI 8, A 8) := by
    have := Go.loop (F := yF set) (O := yO set) (B := 1) (a := fun k => (0, nI k, A k)) 8 fun k hk => Go.one fun n => by
      dsimp only [yF, yO]
      have c : ¬ 8 ≤ k := by omega
      have vp : vp_in (nI k) 8 := (vp_nI (by omega)).mpr hk
      rw [jX12_laysO_2, jX12_laysI_2, li8, nI_clamp (by omega), nI_1]
      have e : A (k + 1) = up2 (A k) 106 k 0 := by
        show rowU M 106 0 (fun _ => 0) (k + 1) = _
        rw [rowU_1, Nat.zero_add]
      rw [e]
      simp (disch := omega) only [nI_leI, eq_false c, eq_true vp, ↓reduceIte, not_true_eq_false, not_false_eq_true, true_imp_iff, false_imp_iff, implies_true, and_true, true_and, eq_self]
      first | exact id | exact ⟨id, rfl⟩
    rw [show A 0 = M from rowU_0 _ _ _ _] at this
    exact this
  have fA : FrL M (A 8) := fun a b q1 _ _ => rowU_ne (by omega)
  have a1 : mNet S (A 8) := m1.of (fA _ _ (by omega) (by omega) (by omega)) (fA _ _ (by omega) (by omega) (by omega)) fun k q => funext fun j => fA k j (by omega) (by omega) (by omega)
  have a2 : mSl S (A 8) := m2.of (fA _ _ (by omega) (by omega) (by omega)) fun k q1 q2 => funext fun j => fA k j (by omega) (by omega) (by omega)
  have a5 : A 8 79 5 = nI q := by rw [show A 8 79 5 = M 79 5 from rowU_ne (by omega)]; exact m5
  have a106 : ∀ j, j < 8 → A 8 106 j = 0 := fun j hj => by
    have : A 8 106 (0 + j) = 0 := rowU_at hj
    rw [Nat.zero_add] at this; exact this
  have hch := chn_mems S set S.ns 0 0 (by omega) (Nat.le_refl _) fun k _ h => by omega
  obtain ⟨f1, f2⟩ := after_M (M := A 8) hsl a2 hset hch (by omega) (v := -1) (show (-1 : Int32) + 1 = nI 0 by decide)
  have c8 : (8 : Int32) ≤ nI 8 := by rw [li8]; exact (nI_leI (by omega) (by omega)).mpr (Nat.le_refl _)
  have pz : mPl S (fun _ => 0) (A 8) := fun j hj => ⟨fun _ => a106 j hj, fun c => absurd rfl c⟩
  suffices hE : ∃ M', FrL M M' ∧ M' 79 5 = nI (S.lays set q).2.1 ∧ ((S.lays set q).1 = 1 → mPl S (S.lays set q).2.2 M') ∧ Ends (yF set) (yO set) 5000 (0, nI 8, A 8) (cdR (S.lays set q).1, M') by
    obtain ⟨M', g1, g2, g3, g4⟩ := hE
    obtain ⟨r1, r2⟩ := (go.ends g4).use (f := FU) (by rw [FU_eq]; omega)
    exact ⟨r1, M', r2, g1, g2, g3⟩
  unfold St.lays
  split
  · next e =>
    rw [e] at f2
    refine ⟨A 8, fA, a5, fun _ => pz, Ends.le (Go.ends (B1 := 1) (Go.one (s' := (1, nI S.ns, A 8)) fun n => ?_) (lays_end hsl a2 set)) (by omega)⟩
    dsimp only [yF, yO]
    rw [jX12_laysO_2, jX12_laysI_2, f2, a2.1]
    simp (disch := omega) only [nI_leI, eq_true c8, eq_true f1, List.headD_nil, eq_true (Nat.le_refl S.ns), ↓reduceIte, not_true_eq_false, not_false_eq_true, true_imp_iff, false_imp_iff, implies_true, and_true, true_and, eq_self]
    first | exact id | exact ⟨id, rfl⟩
  · next s td e =>
    rw [e] at f2 hch
    have hs' : s < S.ns := hch.2.1
    have c2 : ¬ S.ns ≤ s := by omega
    obtain ⟨b1, b2, b3⟩ := start_M hN hsl hs' a1 a2
    have fl := b3.l
    have g : MI S [] s (S.ups s) (fun _ => 0) q (jX12_startM (A 8) (nI s)) := by
      refine ⟨a1.of (fl _ _ (by omega) (by omega) (by omega)) (fl _ _ (by omega) (by omega) (by omega)) fun k q => funext fun j => fl k j (by omega) (by omega) (by omega), a2.of (fl _ _ (by omega) (by omega) (by omega)) fun k q1 q2 => funext fun j => fl k j (by omega) (by omega) (by omega), ?_, ?_, ⟨S.plist s, 0, b2, rfl, plist_len hN s⟩, fun e he => by cases he⟩
      · refine mPl_clear (s := s) (M := A 8) pz (fun a b q1 q2 q3 => ?_) (up2_at _ _ _ _) rfl
        rw [up2_ap, if_neg (by omega)]; exact b3 a b (by omega) (by omega) (by omega) (by omega)
      · rw [b3 _ _ (by omega) (by omega) (by omega) (by omega)]; exact a5
    obtain ⟨M2, r1, r2, r3, r4⟩ := lays_loop hN hsl hset 4002 _ _ _ _ _ _ _ (by simp; omega) (SI.start hq e) g _ rfl
    refine ⟨M2, fA.trans (fl.trans r1), r2, r3, Ends.le (Go.ends (B1 := 1) (Go.one fun n => ?_) r4) (by omega)⟩
    dsimp only [yF, yO]
    rw [jX12_laysO_2, jX12_laysI_2, f2, a2.1]
    simp (disch := omega) only [nI_leI, eq_true c8, eq_true f1, List.headD_cons, eq_false c2, eq_true b1, ↓reduceIte, not_true_eq_false, not_false_eq_true, true_imp_iff, false_imp_iff, implies_true, and_true, true_and, eq_self]
    first | exact id | exact ⟨id, rfl⟩
end CM
end
