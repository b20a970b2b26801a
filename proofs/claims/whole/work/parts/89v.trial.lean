noncomputable section
section TR
variable {T : Topo} {S : St} {C : IM} {s n : Nat} {P : Nat → Nat} {D : Nat → Nat → Bool} {wh : Nat → Nat}
def LikeT (S : St) (D : Nat → Nat → Bool) (n : Nat) : Prop := (∀ t, t < 24 → ∃ k, k < n ∧ ∀ s, s < S.ns → D s k = S.does s t) ∧ (∀ k, k < n → ∃ t, t < 24 ∧ ∀ s, s < S.ns → D s k = S.does s t)
theorem like_one {D2 : Nat → Nat → Bool} {k t : Nat} (h : ∀ s, s < S.ns → D s k = D2 s t) : (S.linesOk P D k ↔ S.linesOk P D2 t) ∧ (S.worksOk P D k ↔ S.worksOk P D2 t) := by
  have e1 : ∀ l, S.ld P D l k = S.ld P D2 l t := fun l => sm_congr _ fun s hss => by rw [h s hss]
  have e2 : ∀ l f, S.pa P D l f k = S.pa P D2 l f t := fun l f => sm_congr _ fun s hss => by rw [h s hss]
  have e3 : ∀ a, S.wo' P D a k = S.wo' P D2 a t := fun l => sm_congr _ fun s hss => by rw [h s hss]
  have e4 : ∀ l, S.fl P D l k = S.fl P D2 l t := fun l => mx_congr 9 fun f _ => e2 l f
  unfold St.linesOk St.worksOk
  simp only [e1, e3, e4]
  exact ⟨trivial, trivial⟩
theorem LikeT.lines (h : LikeT S D n) (P : Nat → Nat) : (∀ k, k < n → S.linesOk P D k) ↔ ∀ t, t < 24 → S.linesOk P S.does t := by
  constructor
  · intro q t ht
    obtain ⟨k, h1, h2⟩ := h.1 t ht
    exact (like_one h2).1.mp (q k h1)
  · intro q k hk
    obtain ⟨t, h1, h2⟩ := h.2 k hk
    exact (like_one h2).1.mpr (q t h1)
theorem LikeT.works (h : LikeT S D n) (P : Nat → Nat) : (∀ k, k < n → S.worksOk P D k) ↔ ∀ t, t < 24 → S.worksOk P S.does t := by
  constructor
  · intro q t ht
    obtain ⟨k, h1, h2⟩ := h.1 t ht
    exact (like_one h2).2.mp (q k h1)
  · intro q k hk
    obtain ⟨t, h1, h2⟩ := h.2 k hk
    exact (like_one h2).2.mpr (q t h1)
/-- the layer's own cells alone change -/
def FrD (C C' : IM) : Prop := ∀ k j, ¬ (64 ≤ k ∧ k ≤ 66) → ¬ (58 ≤ k ∧ k ≤ 61) → ¬ (k = 56 ∧ 10 ≤ j) → C' k j = C k j
theorem FrD.refl {C : IM} : FrD C C := fun _ _ _ _ _ => rfl
theorem FrD.trans {A B C : IM} (h : FrD A B) (h2 : FrD B C) : FrD A C := fun a b q1 q2 q3 => (h2 a b q1 q2 q3).trans (h a b q1 q2 q3)
def LX (T : Topo) (S : St) (n : Nat) (wh : Nat → Nat) (C : IM) : Prop := cNet S C ∧ cSl S C ∧ C 57 4 = nI n ∧ (∀ s, s < 8 → C 63 s = nI (wh s)) ∧ ∀ s, s < S.ns → KeptS T s (S.ups s) C
theorem LX.frd (hT : PlS T) (h8 : S.ns ≤ 8) (h : LX T S n wh C) {C' : IM} (f : FrD C C') : LX T S n wh C' := by
  obtain ⟨h1, h2, h3, h4, h5⟩ := h
  refine ⟨h1.of fun k j q => f k j (by omega) (by omega) (by omega), h2.of fun k j q => ?_, by rw [f _ _ (by omega) (by omega) (by omega)]; exact h3, fun s q => by rw [f _ _ (by omega) (by omega) (by omega)]; exact h4 s q, fun s q => ?_⟩
  · rcases q with q | ⟨s, q1, q2, q3⟩
    · exact f k j (by omega) (by omega) (by omega)
    · exact f k j (by omega) (by omega) (by omega)
  · obtain ⟨k1, k2⟩ := h5 s q
    obtain ⟨b1, b2, b3⟩ := plB_facts hT (show s < 8 by omega)
    exact ⟨by rw [f _ _ (by omega) (by omega) (by omega)]; exact k1, fun p hp => by rw [f _ _ (by omega) (by omega) (by omega)]; exact k2 p hp⟩
theorem need_LX (hsl : S.slOk) (h : cSl S C) {j : Nat} (hj : j < S.ns) : jX8_needed C j = nI (S.need j) := by
  have h8 := hsl.1
  obtain ⟨e0, -, -, e3, -, e5, -⟩ := h.2 j (by omega)
  have hk := (hsl.2.1 j hj).1
  unfold jX8_needed St.need
  rw [e0, e3, e5, li3, li2, li0]
  by_cases c : S.kd j = 3
  · rw [if_pos (by rw [c]), if_pos c]
  · rw [if_neg (fun q => c ((nI_eq (by omega) (by omega)).mp q)), if_neg c]
    by_cases c2 : S.kd j = 2
    · rw [if_pos (by rw [c2]), if_pos c2]
    · rw [if_neg (fun q => c2 ((nI_eq (by omega) (by omega)).mp q)), if_neg c2]
/-- what stays the same over all of it -/
def TC (T : Topo) (S : St) (n : Nat) (wh : Nat → Nat) : Prop := PlS T ∧ S.netOk ∧ S.slOk ∧ n ≤ 24 ∧ (∀ s, wh s < 2 ^ 24) ∧ LikeT S (fun s k => (wh s).testBit k) n ∧ ∀ s, s < S.ns → (S.plist s).length ≤ tL T (plA T s)
abbrev whD (wh : Nat → Nat) : Nat → Nat → Bool := fun s k => (wh s).testBit k
theorem ups_len (hN : S.netOk) (s : Nat) : (S.ups s).length ≤ 4374 := Nat.le_trans (List.length_filter_le _ _) (plist_len hN s)
theorem try_C (hc : TC T S n wh) (hX : LX T S n wh C) (hss : s < S.ns) (h0 : P s = 0) (hB : cBk S P (whD wh) 57 n C) (hok : S.allOk P S.does 24) {p : Nat} (hp : p ∈ S.plist s) :
    (jX0_linesHoldK C 57 s (nI p) (nI (wh s)) ∧ (jX0_linesHold C 57 s (nI p) (nI (wh s)) = 0 ↔ ¬ S.lnP P S.does 24 s p)) ∧ (jX0_hostHoldsK C 57 s (nI p) (nI (wh s)) ∧ (jX0_hostHolds C 57 s (nI p) (nI (wh s)) = 0 ↔ ¬ S.wkP P S.does 24 s p)) := by
  obtain ⟨c1, c2, c3, c4, c5, c6, c7⟩ := hc
  obtain ⟨x1, x2, x3, x4, x5⟩ := hX
  have h8 := c3.1
  obtain ⟨f0, f1, f2, f3, f4, f5, f6⟩ := place_facts c2 c3 hss hp
  have l := linesHold_S (S := S) (P := P) (D := whD wh) (C := C) (b := 57) (n := n) (s := s) (p := p) (wh := wh s) c3 c2 c4 hss h0 (by omega) f1 f3 f5 x1 x3 (need_LX c3 x2 hss) (c5 s) (fun t _ => rfl) hB ((c6.lines P).mpr fun t ht => (hok t ht).1)
  have w := hostHolds_S (S := S) (P := P) (D := whD wh) (C := C) (b := 57) (n := n) (s := s) (p := p) (wh := wh s) c3 c2 c4 hss h0 (by omega) f1 f6 x1 x3 (x2.2 s (by omega)).2.2.2.2.2.2.1 (c5 s) (fun t _ => rfl) hB ((c6.works P).mpr fun t ht => (hok t ht).2)
  exact ⟨⟨l.1, l.2.trans (not_congr (c6.lines (put P s p)))⟩, w.1, w.2.trans (not_congr (c6.works (put P s p)))⟩
def FrN (C C' : IM) : Prop := ∀ k j, ¬ (k = 56 ∧ (j = 11 ∨ j = 12)) → C' k j = C k j
theorem FrN.trans {A B C : IM} (h : FrN A B) (h2 : FrN B C) : FrN A C := fun a b q1 => (h2 a b q1).trans (h a b q1)
theorem FrN.d {A B : IM} (h : FrN A B) : FrD A B := fun a b q1 q2 q3 => h a b (by omega)
theorem cBk.frn {b : Nat} (hb : b = 57) (h : cBk S P D b n C) {C' : IM} (f : FrN C C') : cBk S P D b n C' := h.of fun k q1 q2 => funext fun j => f k j (by omega)
/-- the class's scan -/
theorem next_C (hc : TC T S n wh) (hss : s < S.ns) (h0 : P s = 0) (hok : S.allOk P S.does 24) (a2 : Int32) : ∀ (U : List Nat) (k q : Nat) (C : IM), q ≤ 2000 → LX T S n wh C → cBk S P (whD wh) 57 n C → C 56 11 = nI q → (S.ups s).drop k = U → k ≤ (S.ups s).length → ∀ X, scan (S.hold P s) U q = X →
    ∃ C', FrN C C' ∧ C' 56 11 = nI X.2.2.2 ∧ C' 56 12 = (if X.1 = 2 then 1 else C 56 12) ∧ (X.1 = 1 → ∃ i, i < (S.ups s).length ∧ (S.ups s).getD i 0 = X.2.1 ∧ (S.ups s).drop (i + 1) = X.2.2.1 ∧ Ends (fun m (t : Int32 × IM) => jX3_nextPlaceI T (nI s) a2 m t.1 t.2) (fun m t => jX3_nextPlaceO T (nI s) a2 m t.1 t.2) (U.length + 1) (nI k, C) (nI i, C')) ∧
      (X.1 ≠ 1 → Ends (fun m (t : Int32 × IM) => jX3_nextPlaceI T (nI s) a2 m t.1 t.2) (fun m t => jX3_nextPlaceO T (nI s) a2 m t.1 t.2) (U.length + 1) (nI k, C) (-1, C'))
  | [], k, q, C, hq, hX, hB, h11, hU, hk, X, hS => by
    have hlen := ups_len hc.2.1 s
    have h8 := hc.2.2.1.1
    have hk' : (S.ups s).length ≤ k := List.drop_eq_nil_iff.mp hU
    have e : (0, 0, [], q) = X := hS
    rw [← e]
    refine ⟨C, fun _ _ _ => rfl, h11, by rw [if_neg (by decide : ¬ (0 : Nat) = 2)], fun q => absurd q (by decide : ¬ (0 : Nat) = 1), fun _ => Ends.one fun m => ?_⟩
    dsimp only
    rw [jX3_nextPlaceO_12, jX3_nextPlaceI_12, nI_clamp (n := s) (by omega), (hX.2.2.2.2 s hss).1]
    simp (disch := omega) only [nI_leI, eq_true hk', ↓reduceIte, not_true_eq_false, not_false_eq_true, true_imp_iff, false_imp_iff, implies_true, and_true, true_and, eq_self]
  | p :: r, k, q, C, hq, hX, hB, h11, hU, hk, X, hS => by
    have hlen := ups_len hc.2.1 s
    have h8 := hc.2.2.1.1
    obtain ⟨b1, b2, b3⟩ := plB_facts hc.1 (show s < 8 by omega)
    obtain ⟨d1, d2, d3, d4⟩ := drop_cons hU
    have mem : p ∈ S.plist s := (List.mem_filter.mp d4).1
    have ul : (S.ups s).length ≤ (S.plist s).length := List.length_filter_le _ _
    have c0 : ¬ (S.ups s).length ≤ k := by omega
    have v8 : vp_in (nI s) 8 := (vp_nI (by omega)).mpr (by omega)
    have vb : vp_in (nI k) (tL T (plB T s)) := (vp_nI (by omega)).mpr (by rw [b3]; have := hc.2.2.2.2.2.2 s hss; omega)
    obtain ⟨k1, k2⟩ := hX.2.2.2.2 s hss
    have kp : C (plB T s) k = nI p := by rw [k2 k d1, d2]
    unfold scan at hS
    by_cases cq : q = 2000
    · rw [if_pos cq] at hS
      rw [← hS]
      refine ⟨up2 C 56 12 1, fun a b q => by rw [up2_ap, if_neg (by omega)], by rw [up2_ap, if_neg (by omega)]; exact h11, by rw [if_pos rfl, up2_at], fun q => absurd q (by decide : ¬ (2 : Nat) = 1), fun _ => Ends.le (Ends.one fun m => ?_) (by omega)⟩
      dsimp only
      have z : ¬ nI q < (2000 : Int32) := by rw [li2000]; exact fun e => absurd ((nI_ltI (by omega) (by omega)).mp e) (by omega)
      rw [jX3_nextPlaceO_12, jX3_nextPlaceI_12, nI_clamp (n := s) (by omega), k1, h11]
      simp (disch := omega) only [nI_leI, eq_false c0, eq_false z, ↓reduceIte, not_true_eq_false, not_false_eq_true, true_imp_iff, false_imp_iff, implies_true, and_true, true_and, eq_self]
    · rw [if_neg cq] at hS
      have z : nI q < (2000 : Int32) := by rw [li2000]; exact nI_lt (by omega) (by omega)
      have f1 : FrN C (up2 C 56 11 (nI (q + 1))) := fun a b q => by rw [up2_ap, if_neg (by omega)]
      have hX1 := hX.frd hc.1 h8 f1.d
      have hB1 := hB.frn rfl f1
      obtain ⟨⟨l1, l2⟩, w1, w2⟩ := try_C hc hX1 hss h0 hB1 hok mem
      have kp1 : up2 C 56 11 (nI (q + 1)) (plB T s) k = nI p := by rw [up2_ap, if_neg (by omega)]; exact kp
      have kw : C 63 s = nI (wh s) := hX.2.2.2.1 s (by omega)
      by_cases lw : S.lnP P S.does 24 s p ∧ S.wkP P S.does 24 s p
      · have g : S.hold P s p = true := gB_iff.mpr lw
        rw [if_pos g] at hS
        rw [← hS]
        have l3 : ¬ jX0_linesHold (up2 C 56 11 (nI (q + 1))) 57 s (nI p) (nI (wh s)) = 0 := fun q => l2.mp q lw.1
        have w3 : ¬ jX0_hostHolds (up2 C 56 11 (nI (q + 1))) 57 s (nI p) (nI (wh s)) = 0 := fun q => w2.mp q lw.2
        refine ⟨up2 C 56 11 (nI (q + 1)), f1, up2_at _ _ _ _, by rw [if_neg (by decide : ¬ (1 : Nat) = 2), up2_ap, if_neg (by omega)], fun _ => ⟨k, d1, d2, d3, Ends.le (Ends.one fun m => ?_) (by omega)⟩, fun q => absurd rfl q⟩
        dsimp only
        rw [jX3_nextPlaceO_12, jX3_nextPlaceI_12, nI_clamp (n := s) (by omega), k1, h11, nI_1 q]
        unfold jX6_upAtK jX6_upAt
        rw [nI_clamp (n := k) (by omega), kp1, kw]
        simp (disch := omega) only [nI_leI, eq_false c0, eq_true z, eq_true vb, eq_true v8, eq_true l1, eq_true w1, eq_false l3, eq_false w3, ↓reduceIte, not_true_eq_false, not_false_eq_true, true_imp_iff, false_imp_iff, implies_true, and_true, true_and, eq_self]
      · have g : ¬ S.hold P s p = true := fun q => lw (gB_iff.mp q)
        rw [if_neg g] at hS
        obtain ⟨C', i1, i2, i3, i4, i5⟩ := next_C hc hss h0 hok a2 r (k + 1) (q + 1) _ (by omega) hX1 hB1 (up2_at _ _ _ _) d3 (by omega) X hS
        have go : Go (fun m (t : Int32 × IM) => jX3_nextPlaceI T (nI s) a2 m t.1 t.2) (fun m t => jX3_nextPlaceO T (nI s) a2 m t.1 t.2) 1 (nI k, C) (nI (k + 1), up2 C 56 11 (nI (q + 1))) := Go.one fun m => by
          dsimp only
          rw [jX3_nextPlaceO_12, jX3_nextPlaceI_12, nI_clamp (n := s) (by omega), k1, h11, nI_1 q, nI_1 k]
          unfold jX6_upAtK jX6_upAt
          rw [nI_clamp (n := k) (by omega), kp1, kw]
          by_cases l : S.lnP P S.does 24 s p
          · have l3 : ¬ jX0_linesHold (up2 C 56 11 (nI (q + 1))) 57 s (nI p) (nI (wh s)) = 0 := fun q => l2.mp q l
            have w3 : jX0_hostHolds (up2 C 56 11 (nI (q + 1))) 57 s (nI p) (nI (wh s)) = 0 := w2.mpr fun q => lw ⟨l, q⟩
            simp (disch := omega) only [nI_leI, eq_false c0, eq_true z, eq_true vb, eq_true v8, eq_true l1, eq_true w1, eq_false l3, eq_true w3, ↓reduceIte, not_true_eq_false, not_false_eq_true, true_imp_iff, false_imp_iff, implies_true, and_true, true_and, eq_self]
            first | exact id | exact ⟨id, rfl⟩
          · have l3 : jX0_linesHold (up2 C 56 11 (nI (q + 1))) 57 s (nI p) (nI (wh s)) = 0 := l2.mpr l
            simp (disch := omega) only [nI_leI, eq_false c0, eq_true z, eq_true vb, eq_true v8, eq_true l1, eq_true l3, ↓reduceIte, not_true_eq_false, not_false_eq_true, true_imp_iff, false_imp_iff, implies_true, and_true, true_and, eq_self]
            first | exact id | exact ⟨id, rfl⟩
        refine ⟨C', f1.trans i1, i2, ?_, fun c => ?_, fun c => Ends.le (go.ends (i5 c)) (by simp; omega)⟩
        · have : up2 C 56 11 (nI (q + 1)) 56 12 = C 56 12 := by rw [up2_ap, if_neg (by omega)]
          rw [i3, this]
        · obtain ⟨i, j1, j2, j3, j4⟩ := i4 c
          exact ⟨i, j1, j2, j3, Ends.le (go.ends j4) (by simp; omega)⟩
end TR
end
