noncomputable section
section CUR
variable {S : St} {s : Nat} {M : IM}
/-- the cursor of a SLICE stands ahead of L, k PLACES behind it -/
def Cur (S : St) (s : Nat) (M : IM) (L : List Nat) (k : Nat) : Prop := AdM S s M ∧ ∃ w u x, M 124 s = nI w ∧ M 125 s = nI u ∧ M 126 s + 1 = nI x ∧ M 127 s + 1 = nI k ∧ w ≤ S.wn s ∧ u ≤ S.wn s ∧ x ≤ 6 ∧ S.rst s w u x = L
/-- it stands on a PLACE -/
def CurAt (S : St) (s : Nat) (M : IM) (p : Nat) (L : List Nat) (k : Nat) : Prop := AdM S s M ∧ ∃ w u x, M 124 s = nI w ∧ M 125 s = nI u ∧ M 126 s = nI x ∧ M 127 s = nI k ∧ p = S.at' s w u x ∧ CurOk S s w u x ∧ S.rst s w u (x + 1) = L
theorem CurAt.cur {p k : Nat} {L : List Nat} (h : CurAt S s M p L k) : Cur S s M L (k + 1) := by
  obtain ⟨h0, w, u, x, h1, h2, h3, h4, -, ⟨c1, c2, -, -, c5⟩, h6⟩ := h
  exact ⟨h0, w, u, x + 1, h1, h2, by rw [h3, nI_1], by rw [h4, nI_1], by omega, c5, by omega, h6⟩
theorem Cur.fr {L : List Nat} {k : Nat} (h : Cur S s M L k) {M' : IM} (f : ∀ a b, (a = 115 ∧ b = s) ∨ (116 ≤ a ∧ a ≤ 120 ∧ 256 * s ≤ b ∧ b < 256 * s + 256) ∨ (a = 90 ∨ a = 94) ∨ (124 ≤ a ∧ a ≤ 127 ∧ b = s) → M' a b = M a b) (h27 : S.wn s ≤ 27) : Cur S s M' L k := by
  obtain ⟨⟨⟨a1, a2⟩, a3, a4⟩, w, u, x, h1, h2, h3, h4, h5⟩ := h
  refine ⟨⟨⟨by rw [f _ _ (by omega)]; exact a1, fun j hj k q1 q2 => ?_⟩, by rw [f _ _ (by omega)]; exact a3, by rw [f _ _ (by omega)]; exact a4⟩, w, u, x, by rw [f _ _ (by omega)]; exact h1, by rw [f _ _ (by omega)]; exact h2, by rw [f _ _ (by omega)]; exact h3, by rw [f _ _ (by omega)]; exact h4, h5⟩
  have hj' : j < S.wn s := hj
  rw [f _ _ (by omega)]
  exact a2 j hj k q1 q2
theorem CurAt.fr {L : List Nat} {p k : Nat} (h : CurAt S s M p L k) {M' : IM} (f : ∀ a b, (a = 115 ∧ b = s) ∨ (116 ≤ a ∧ a ≤ 120 ∧ 256 * s ≤ b ∧ b < 256 * s + 256) ∨ (a = 90 ∨ a = 94) ∨ (124 ≤ a ∧ a ≤ 127 ∧ b = s) → M' a b = M a b) (h27 : S.wn s ≤ 27) : CurAt S s M' p L k := by
  obtain ⟨⟨⟨a1, a2⟩, a3, a4⟩, w, u, x, h1, h2, h3, h4, h5⟩ := h
  refine ⟨⟨⟨by rw [f _ _ (by omega)]; exact a1, fun j hj k q1 q2 => ?_⟩, by rw [f _ _ (by omega)]; exact a3, by rw [f _ _ (by omega)]; exact a4⟩, w, u, x, by rw [f _ _ (by omega)]; exact h1, by rw [f _ _ (by omega)]; exact h2, by rw [f _ _ (by omega)]; exact h3, by rw [f _ _ (by omega)]; exact h4, h5⟩
  have hj' : j < S.wn s := hj
  rw [f _ _ (by omega)]
  exact a2 j hj k q1 q2
theorem advance_M (hN : S.netOk) (hsl : S.slOk) (hss : s < S.ns) {L : List Nat} {k : Nat} (h : Cur S s M L k) : jX12_advanceK M (nI s) ∧ (L = [] → ∃ M', jX12_advance M (nI s) = (0, M') ∧ FrA s M M') ∧ (∀ p r, L = p :: r → ∃ M', jX12_advance M (nI s) = (1, M') ∧ FrA s M M' ∧ CurAt S s M' p r k) := by
  obtain ⟨hA, w, u, x, h1, h2, h3, h4, h5, h6, h7, h8⟩ := h
  have h8' := hsl.1
  have hkd := (hsl.2.1 s hss).1
  have h27 : S.wn s ≤ 27 := wayA_27 hN _ _
  have v8 : vp_in (nI s) 8 := (vp_nI (by omega)).mpr (by omega)
  have g3 : (nI (S.kd s) = 1) = (S.kd s = 1) := propext (nI_eq (b := 1) (by omega) (by omega))
  have fr : FrA s M (up2 M 126 s (nI x)) := fun a b q => by rw [up2_ap, if_neg (by omega)]
  have main := fun v2 hv2 => (adv_core hN hsl hss k (mu w u x)).2 w u x (up2 M 126 s (nI x)) 0 0 v2 (Nat.le_refl _) (hA.fra fr) (by rw [up2_ap, if_neg (by omega)]; exact h1) (by rw [up2_ap, if_neg (by omega)]; exact h2) (up2_at _ _ _ _) (by rw [up2_ap, if_neg (by omega)]; exact h4) h5 h6 h7 hv2
  have bd : 2 * mu w u x + 2 ≤ FU := by rw [FU_eq]; unfold mu; omega
  have key : ∀ (v2 : Nat), v2 = (if S.kd s = 1 then 1 else 0) → jX12_advanceO (nI s) FU 0 (nI v2) 0 0 (up2 M 126 s (nI x)) ∧ (L = [] → ∃ M', jX12_advanceI (nI s) FU 0 (nI v2) 0 0 (up2 M 126 s (nI x)) = (0, M') ∧ FrA s M M') ∧ (∀ p r, L = p :: r → ∃ M', jX12_advanceI (nI s) FU 0 (nI v2) 0 0 (up2 M 126 s (nI x)) = (1, M') ∧ FrA s M M' ∧ CurAt S s M' p r k) := by
    intro v2 hv2
    obtain ⟨m1, m2⟩ := main v2 hv2
    rw [h8] at m1 m2
    have pc : ∀ p r, L = p :: r → ∃ M', (jX12_advanceO (nI s) FU 0 (nI v2) 0 0 (up2 M 126 s (nI x)) ∧ jX12_advanceI (nI s) FU 0 (nI v2) 0 0 (up2 M 126 s (nI x)) = (1, M')) ∧ FrA s M M' ∧ CurAt S s M' p r k := by
      intro p r e
      obtain ⟨M', w', u', x', n1, n2, n3, n4, n5, n6, n7, n8, n9⟩ := m2 p r e
      exact ⟨M', n1.use bd, fr.trans n2, (hA.fra (fr.trans n2)), w', u', x', n3, n4, n5, n6, n7, n8, n9⟩
    have pn : L = [] → ∃ M', (jX12_advanceO (nI s) FU 0 (nI v2) 0 0 (up2 M 126 s (nI x)) ∧ jX12_advanceI (nI s) FU 0 (nI v2) 0 0 (up2 M 126 s (nI x)) = (0, M')) ∧ FrA s M M' := by
      intro e
      obtain ⟨M', n1, n2⟩ := m1 e
      exact ⟨M', n1.use bd, fr.trans n2⟩
    refine ⟨?_, fun e => ?_, fun p r e => ?_⟩
    · cases L with
      | nil => obtain ⟨M', n1, -⟩ := pn rfl; exact n1.1
      | cons p r => obtain ⟨M', n1, -⟩ := pc p r rfl; exact n1.1
    · obtain ⟨M', n1, n2⟩ := pn e; exact ⟨M', n1.2, n2⟩
    · obtain ⟨M', n1, n2, n3⟩ := pc p r e; exact ⟨M', n1.2, n2, n3⟩
  unfold jX12_advanceK jX12_advance
  rw [nI_clamp (by omega), hA.2.1, h3]
  by_cases c : S.kd s = 1
  · obtain ⟨q1, q2, q3⟩ := key 1 (by rw [if_pos c])
    have q1' : jX12_advanceO (nI s) FU 0 1 0 0 (up2 M 126 s (nI x)) := q1
    simp only [g3, eq_true c, eq_true v8, eq_true q1', ↓reduceIte, not_true_eq_false, not_false_eq_true, true_imp_iff, false_imp_iff, implies_true, and_true, true_and, eq_self]
    exact ⟨q2, q3⟩
  · obtain ⟨q1, q2, q3⟩ := key 0 (by rw [if_neg c])
    have q1' : jX12_advanceO (nI s) FU 0 0 0 0 (up2 M 126 s (nI x)) := q1
    simp only [g3, eq_false c, eq_true v8, eq_true q1', ↓reduceIte, not_true_eq_false, not_false_eq_true, true_imp_iff, false_imp_iff, implies_true, and_true, true_and, eq_self]
    exact ⟨q2, q3⟩
/-- cells that the start of a SLICE's cursor changes -/
def FrS (s : Nat) (M M' : IM) : Prop := ∀ a b, ¬ (a = 115 ∧ b = s) → ¬ (116 ≤ a ∧ a ≤ 120 ∧ 256 * s ≤ b ∧ b < 256 * s + 256) → ¬ (121 ≤ a ∧ a ≤ 123) → ¬ (124 ≤ a ∧ a ≤ 127 ∧ b = s) → M' a b = M a b
theorem start_M (hN : S.netOk) (hsl : S.slOk) (hss : s < S.ns) (m1 : mNet S M) (m2 : mSl S M) : jX12_startK M (nI s) ∧ Cur S s (jX12_startM M (nI s)) (S.plist s) 0 ∧ FrS s M (jX12_startM M (nI s)) := by
  have h8' := hsl.1
  have hst := hsl.2.1 s hss
  have h27 : S.wn s ≤ 27 := wayA_27 hN _ _
  have v8 : vp_in (nI s) 8 := (vp_nI (by omega)).mpr (by omega)
  obtain ⟨e0, e1, e2, e3, e4, -⟩ := m2.2 s (by omega)
  obtain ⟨g1, g2, g3⟩ := gather_spec hN hst.2.1 hst.2.2.1 hst.2.2.2.1 (sl := s) (by omega) m1
  unfold jX12_startK jX12_startM
  rw [nI_clamp (by omega), e1, e2]
  obtain ⟨X, hX⟩ : ∃ X, X = jX12_gather M (nI s) (nI (S.sa s)) (nI (S.sb s)) := ⟨_, rfl⟩
  rw [← hX] at g2 g3 ⊢
  have F : ∀ a b, ¬ (124 ≤ a ∧ a ≤ 127 ∧ b = s) → up2 (up2 (up2 (up2 X 124 s 0) 125 s 0) 126 s (-1)) 127 s (-1) a b = X a b := fun a b q => by
    rw [up2_ap, if_neg (by omega), up2_ap, if_neg (by omega), up2_ap, if_neg (by omega), up2_ap, if_neg (by omega)]
  refine ⟨⟨v8, v8, g1, v8, v8, v8, v8⟩, ⟨⟨⟨by rw [F _ _ (by omega)]; exact g2.1, fun j hj k q1 q2 => by rw [F _ _ (by omega)]; exact g2.2 j hj k q1 q2⟩, ?_, ?_⟩, 0, 0, 0, ?_, ?_, ?_, ?_, by omega, by omega, by omega, by rw [rst_0 hN hsl hss]; rfl⟩, fun a b q1 q2 q3 q4 => ?_⟩
  · rw [F _ _ (by omega), g3.low 90 (by omega)]; exact e0
  · rw [F _ _ (by omega), g3.low 94 (by omega)]; exact e4
  · simp (disch := omega) only [up2_o, up2_at]; rfl
  · simp (disch := omega) only [up2_o, up2_at]; rfl
  · simp (disch := omega) only [up2_o, up2_at]; rfl
  · rw [up2_at]; rfl
  · rw [F a b q4]
    exact g3 a b q1 q2 (by omega) (by omega)
/-- what a PLACE of a SLICE is -/
theorem cur_facts (hN : S.netOk) (hsl : S.slOk) (hss : s < S.ns) {w u x : Nat} (h : CurOk S s w u x) : S.isPl s (S.wy s w) (if S.kd s = 1 then S.wy s u else []) x ∧ S.at' s w u x = placeN (setOf (S.wy s w)) (setOf (if S.kd s = 1 then S.wy s u else [])) x ∧ S.at' s w u x ≠ 0 ∧ S.at' s w u x < 2 ^ 21 ∧ wayN (S.at' s w u x) = S.setW s w ∧ spaN (S.at' s w u x) = (if S.kd s = 1 then S.setW s u else 0) ∧ hosN (S.at' s w u x) = x ∧ S.setW s w < 2 ^ S.nl ∧ (if S.kd s = 1 then S.setW s u else 0) < 2 ^ S.nl ∧ S.setW s w &&& (if S.kd s = 1 then S.setW s u else 0) = 0 ∧ x < S.nn := by
  obtain ⟨h1, h2, h3, h4, h5⟩ := h
  have hst := hsl.2.1 s hss
  have h9 := hN.2.1
  have h6 := hN.1
  obtain ⟨p1, p2, p3, p4, p5, -⟩ := way_facts hN hsl hss h1
  have k0 : 2 ^ S.nl ≤ 2 ^ 9 := Nat.pow_le_pow_right (by decide) h9
  have w2 := path_set _ _ _ p1
  have hx : x < S.nn := by
    by_cases c : x < S.nn
    · exact c
    · have h3' : (nodesOf S (S.sa s) (S.wy s w)).testBit x = true := h3
      rw [bit_no (path_nodes hN _ _ _ hst.2.1 p1) (by omega)] at h3'
      exact absurd h3' (by decide)
  have ne : S.setW s w ≠ 0 := fun e => by
    have hp : S.wy s w ≠ [] := fun e => by rw [e] at p1; exact hst.2.2.2.1 p1
    cases hl : S.wy s w with
    | nil => exact hp hl
    | cons l q =>
      have : (S.setW s w).testBit l = true := by
        unfold St.setW
        rw [mem_set, hl]
        exact List.mem_cons_self
      rw [e] at this
      simp at this
  have su : (if S.kd s = 1 then S.setW s u else 0) < 2 ^ S.nl ∧ S.setW s w &&& (if S.kd s = 1 then S.setW s u else 0) = 0 ∧ setOf (if S.kd s = 1 then S.wy s u else []) = (if S.kd s = 1 then S.setW s u else 0) ∧ S.isPl s (S.wy s w) (if S.kd s = 1 then S.wy s u else []) x := by
    by_cases c : S.kd s = 1
    · obtain ⟨q1, q2⟩ := h4 c
      obtain ⟨r1, -⟩ := way_facts hN hsl hss q1
      rw [if_pos c, if_pos c]
      exact ⟨path_set _ _ _ r1, q2, rfl, p1, hx, fun q => absurd c q, fun _ => ⟨r1, q2⟩⟩
    · rw [if_neg c, if_neg c]
      exact ⟨Nat.two_pow_pos _, Nat.and_zero _, rfl, p1, hx, fun _ => rfl, fun q => absurd q c⟩
  obtain ⟨s1, s2, s3, s4⟩ := su
  have w2' : S.setW s w < 2 ^ S.nl := w2
  have e0 : S.at' s w u x = placeN (setOf (S.wy s w)) (setOf (if S.kd s = 1 then S.wy s u else [])) x := by rw [s3]; rfl
  refine ⟨s4, e0, ?_, ?_, ?_, ?_, ?_, w2', s1, s2, hx⟩ <;> unfold St.at' <;> simp only [placeN, wayN, spaN, hosN] <;> omega
/-- the reference puts a PLACE -/
theorem puts_M (hN : S.netOk) (hsl : S.slOk) (hss : s < S.ns) (m1 : mNet S M) {p k : Nat} {L : List Nat} (h : CurAt S s M p L k) : jX12_putsK M (nI s) ∧ (jX12_puts M (nI s) = if (wayN p ||| spaN p) &&& S.dn = 0 then 1 else 0) ∧ (∀ a b, ¬ (107 ≤ a ∧ a ≤ 111 ∧ b = s) → jX12_putsM M (nI s) a b = M a b) ∧ jX12_putsM M (nI s) 107 s = nI (wayN p) ∧ jX12_putsM M (nI s) 108 s = nI (spaN p) ∧ jX12_putsM M (nI s) 111 s = nI (hosN p) ∧ ∃ w u x, S.isPl s w u x ∧ p = placeN (setOf w) (setOf u) x ∧ jX12_putsM M (nI s) 109 s = nI (rowN w 0) ∧ jX12_putsM M (nI s) 110 s = nI (rowN u 0) := by
  obtain ⟨hA, w, u, x, h1, h2, h3, h4, h5, h6, h7⟩ := h
  have h8' := hsl.1
  have hst := hsl.2.1 s hss
  have h9 := hN.2.1
  have h27 : S.wn s ≤ 27 := wayA_27 hN _ _
  have v8 : vp_in (nI s) 8 := (vp_nI (by omega)).mpr (by omega)
  obtain ⟨c1, c2, c3, c4, c5, c6, c7, c8, c9, c10, c11⟩ := cur_facts hN hsl hss h6
  obtain ⟨d1, d2, d3, d4, d5⟩ := h6
  have k0 : 2 ^ S.nl ≤ 2 ^ 9 := Nat.pow_le_pow_right (by decide) h9
  have ix : ∀ j, (256 : Int32) * nI s + nI j = nI (256 * s + j) := fun j => by rw [li256, nI_mul, nI_add]
  have r6 : M 116 (256 * s + w) = nI (rowN (S.wy s w) 0) := hA.1.2 w d1 116 (by omega) (by omega)
  have r9 : M 119 (256 * s + w) = nI (S.setW s w) := hA.1.2 w d1 119 (by omega) (by omega)
  have vw : vp_in (nI (256 * s + w)) 2304 := (vp_nI (by omega)).mpr (by omega)
  have vu : vp_in (nI (256 * s + u)) 2304 := (vp_nI (by omega)).mpr (by omega)
  have g3 : (nI (S.kd s) = 1) = (S.kd s = 1) := propext (nI_eq (b := 1) (by omega) (by omega))
  rw [h5, c5, c6, c7]
  unfold jX12_putsK jX12_puts jX12_putsM
  rw [nI_clamp (n := s) (by omega), hA.2.1, h1, h2, h3, ix, ix, nI_clamp (n := 256 * s + w) (by omega), nI_clamp (n := 256 * s + u) (by omega), r6, r9]
  by_cases c : S.kd s = 1
  · obtain ⟨q1, q2⟩ := d4 c
    have s6 : M 116 (256 * s + u) = nI (rowN (S.wy s u) 0) := hA.1.2 u q1 116 (by omega) (by omega)
    have s9 : M 119 (256 * s + u) = nI (S.setW s u) := hA.1.2 u q1 119 (by omega) (by omega)
    rw [if_pos c] at c6 c9 c10 c1 c2
    rw [s6, s9, or_nI, if_pos c]
    obtain ⟨X, hX⟩ : ∃ X, X = up2 (up2 (up2 (up2 (up2 M 107 s (nI (S.setW s w))) 109 s (nI (rowN (S.wy s w) 0))) 108 s (nI (S.setW s u))) 110 s (nI (rowN (S.wy s u) 0))) 111 s (nI x) := ⟨_, rfl⟩
    rw [← hX]
    have F : ∀ a b, ¬ (107 ≤ a ∧ a ≤ 111 ∧ b = s) → X a b = M a b := fun a b q => by
      rw [hX, up2_ap, if_neg (by omega), up2_ap, if_neg (by omega), up2_ap, if_neg (by omega), up2_ap, if_neg (by omega), up2_ap, if_neg (by omega)]
    have mX : mNet S X := m1.of (F _ _ (by omega)) (F _ _ (by omega)) fun k q => funext fun j => F k j (by omega)
    have lt : S.setW s w ||| S.setW s u < 2 ^ S.nl := or_lt c8 c9
    obtain ⟨a1, a2⟩ := areUp_M hN mX (x := S.setW s w ||| S.setW s u) (by omega)
    have a3 : jX12_areUp X (nI (S.setW s w ||| S.setW s u)) = if (S.setW s w ||| S.setW s u) &&& S.dn = 0 then 1 else 0 := areUp_val hN mX lt
    simp only [g3, eq_true c, eq_true v8, eq_true vw, eq_true vu, eq_true a1, ↓reduceIte, not_true_eq_false, not_false_eq_true, true_imp_iff, false_imp_iff, implies_true, and_true, true_and, eq_self]
    rw [a3]
    refine ⟨by split <;> simp, rfl, F, ?_, ?_, ?_, S.wy s w, S.wy s u, x, c1, by rw [c2], ?_, ?_⟩ <;> rw [hX] <;> simp (disch := omega) only [up2_o, up2_at]
  · rw [if_neg c] at c6 c9 c10 c1 c2
    rw [if_neg c]
    obtain ⟨X, hX⟩ : ∃ X, X = up2 (up2 (up2 (up2 (up2 M 107 s (nI (S.setW s w))) 109 s (nI (rowN (S.wy s w) 0))) 108 s 0) 110 s 0) 111 s (nI x) := ⟨_, rfl⟩
    rw [← hX]
    have F : ∀ a b, ¬ (107 ≤ a ∧ a ≤ 111 ∧ b = s) → X a b = M a b := fun a b q => by
      rw [hX, up2_ap, if_neg (by omega), up2_ap, if_neg (by omega), up2_ap, if_neg (by omega), up2_ap, if_neg (by omega), up2_ap, if_neg (by omega)]
    have mX : mNet S X := m1.of (F _ _ (by omega)) (F _ _ (by omega)) fun k q => funext fun j => F k j (by omega)
    obtain ⟨a1, a2⟩ := areUp_M hN mX (x := S.setW s w) (by omega)
    have a3 : jX12_areUp X (nI (S.setW s w)) = if S.setW s w &&& S.dn = 0 then 1 else 0 := areUp_val hN mX c8
    simp only [g3, eq_false c, Int32.or_zero, eq_true v8, eq_true vw, eq_true vu, eq_true a1, Nat.or_zero, ↓reduceIte, not_true_eq_false, not_false_eq_true, true_imp_iff, false_imp_iff, implies_true, and_true, true_and, eq_self]
    rw [a3]
    refine ⟨by split <;> simp, rfl, F, ?_, ?_, ?_, S.wy s w, [], x, c1, by rw [c2], ?_, ?_⟩ <;> rw [hX] <;> simp (disch := omega) only [up2_o, up2_at] <;> rfl
end CUR
end
