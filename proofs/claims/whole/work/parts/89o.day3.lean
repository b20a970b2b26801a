noncomputable section
section DAY
variable {T : Topo} {S : St} {C M : IM}
theorem lent_step (hT : PlS T) (h : RR T S C M) {i : Nat} (hi : i < S.ns) : RR T ((S.s_ln (put S.ln i (S.ln i + 1))).s_lent (i + 1)) (up2 (up2 C (17 + 4 * i) 15 (C (17 + 4 * i) 15 + 1)) 69 2 (nI i)) (up2 (up2 M 103 i (M 103 i + 1)) 79 8 (nI i)) := by
  have h8 := h.1.2.1.1
  obtain ⟨o1, o2, o3, o4, o5⟩ := h.2.1.2.2.2.2.2.2.1 i (by omega)
  obtain ⟨p1, p2, p3, p4, p5⟩ := h.2.2.2.2.2.1 i (by omega)
  obtain ⟨d1, d2, d3, d4⟩ := h.2.1.2.2.2.2.2.2.2.2.2.2.2.1
  obtain ⟨e1, e2, e3, e4⟩ := h.2.2.2.2.2.2.2.1
  rw [o3, p3]
  refine day_upd hT h ⟨⟨rfl, rfl, rfl, rfl, rfl, rfl, rfl, rfl, rfl, rfl, rfl, rfl, rfl, rfl, rfl, rfl, rfl, rfl, rfl, rfl⟩, rfl, rfl, rfl, rfl, rfl, rfl, rfl⟩ (fun x hx => lat_ok h.1 hx) (fun x q1 q2 => h.1.2.2.1.2.2 x q1 q2) (fun s hs => wt_ok h.1 hs) (fun s q1 q2 => wt_no h.1 q1 q2) ⟨h.1.2.2.1.1, show i + 1 ≤ 8 by omega⟩ (fun k j q1 q2 q3 => ?_) (fun k j q1 q2 q3 => ?_) (h.2.1.2.1.of fun k j q1 q2 q3 => ?_) (fun s hs => ?_) ⟨?_, ?_, ?_, ?_⟩ (h.2.2.2.1.of fun k q1 q2 => ?_) (fun s hs => ?_) ⟨?_, ?_, ?_, ?_⟩
  · rw [up2_ap, if_neg (by omega), up2_ap, if_neg (by omega)]
  · rw [up2_ap, if_neg (by omega), up2_ap, if_neg (by omega)]
  · rw [up2_ap, if_neg (by omega), up2_ap, if_neg (by omega)]
  · show _ ∧ _ ∧ _ = put S.ln i (S.ln i + 1) s ∧ _
    by_cases e : s = i
    · subst e
      rw [put_at]
      refine ⟨?_, ?_, ?_, ?_, ?_⟩ <;> simp (disch := omega) only [up2_o, up2_at, up2_sj] <;> assumption
    · rw [put_ne _ _ e, up2_ne (by omega), up2_ne (by omega)]
      exact h.2.1.2.2.2.2.2.2.1 s hs
  · rw [up2_at]; exact (nI_pred i).symm
  · simp (disch := omega) only [up2_o, up2_at, up2_sj]; exact d2
  · simp (disch := omega) only [up2_o, up2_at, up2_sj]; exact d3
  · simp (disch := omega) only [up2_o, up2_at, up2_sj]; exact d4
  · rw [up2_ne (by omega), up2_ne (by omega)]
  · show _ ∧ _ ∧ _ = put S.ln i (S.ln i + 1) s ∧ _
    obtain ⟨r1, r2, r3, r4, r5⟩ := h.2.2.2.2.2.1 s hs
    by_cases e : s = i
    · subst e
      rw [put_at]
      refine ⟨?_, ?_, ?_, ?_, ?_⟩ <;> simp (disch := omega) only [up2_o, up2_at, up2_sj] <;> assumption
    · rw [put_ne _ _ e]
      refine ⟨?_, ?_, ?_, ?_, ?_⟩ <;> simp (disch := omega) only [up2_o, up2_at, up2_sj] <;> assumption
  · rw [up2_at]; exact (nI_pred i).symm
  · simp (disch := omega) only [up2_o, up2_at, up2_sj]; exact e2
  · simp (disch := omega) only [up2_o, up2_at, up2_sj]; exact e3
  · simp (disch := omega) only [up2_o, up2_at, up2_sj]; exact e4
theorem tick_step (hT : PlS T) (h : RR T S C M) : RR T (S.s_tick ((S.tick + 1) % 24)) (up2 C 69 3 ((C 69 3 + 1) - (C 69 3 + 1) / 24 * 24)) (up2 M 79 3 ((M 79 3 + 1) - (M 79 3 + 1) / 24 * 24)) := by
  have h8 := h.1.2.1.1
  obtain ⟨d1, d2, d3, d4⟩ := h.2.1.2.2.2.2.2.2.2.2.2.2.2.1
  obtain ⟨e1, e2, e3, e4⟩ := h.2.2.2.2.2.2.2.1
  have ht := h.1.2.2.1.1
  have e : nI S.tick + 1 - (nI S.tick + 1) / 24 * 24 = nI ((S.tick + 1) % 24) := by rw [nI_1, li24, pk_rem (by omega) (by omega) (by omega)]
  rw [d2, e2, e]
  refine day_upd hT h ⟨⟨rfl, rfl, rfl, rfl, rfl, rfl, rfl, rfl, rfl, rfl, rfl, rfl, rfl, rfl, rfl, rfl, rfl, rfl, rfl, rfl⟩, rfl, rfl, rfl, rfl, rfl, rfl, rfl⟩ (fun x hx => lat_ok h.1 hx) (fun x q1 q2 => h.1.2.2.1.2.2 x q1 q2) (fun s hs => wt_ok h.1 hs) (fun s q1 q2 => wt_no h.1 q1 q2) ⟨Nat.mod_lt _ (by omega), h.1.2.2.1.2.1⟩ (fun k j q1 q2 q3 => by rw [up2_ap, if_neg (by omega)]) (fun k j q1 q2 q3 => by rw [up2_ap, if_neg (by omega)]) (h.2.1.2.1.of fun k j q1 q2 q3 => by rw [up2_ap, if_neg (by omega)]) (h.2.1.2.2.2.2.2.2.1.of fun s j q1 q2 q3 => by rw [up2_ap, if_neg (by omega)]) ⟨?_, ?_, ?_, ?_⟩ (h.2.2.2.1.of fun k q1 q2 => up2_ne (by omega)) (h.2.2.2.2.2.1.of fun k q1 q2 => up2_ne (by omega)) ⟨?_, ?_, ?_, ?_⟩
  · rw [up2_sj _ _ _ (by omega)]; exact d1
  · rw [up2_at]; rfl
  · rw [up2_sj _ _ _ (by omega)]; exact d3
  · rw [up2_sj _ _ _ (by omega)]; exact d4
  · rw [up2_sj _ _ _ (by omega)]; exact e1
  · rw [up2_at]; rfl
  · rw [up2_sj _ _ _ (by omega)]; exact e3
  · rw [up2_sj _ _ _ (by omega)]; exact e4
/-- may a SLICE borrow -/
def St.brw (S : St) (s : Nat) : Prop := (S.kd s = 2 ∨ S.kd s = 3) ∧ 0 < S.wt s ∧ S.slt s < S.rt s ∧ S.now s ≠ 0 ∧ 0 < S.lft (S.now s) 50 S.nl
theorem brw_C (h : RR T S C M) {s : Nat} (hs : s < S.ns) : jX2_canBorrowK C s ∧ (jX2_canBorrow C s = 0 ↔ ¬ S.brw s) := by
  have h8 := h.1.2.1.1
  have hkd := (h.1.2.1.2.1 s hs).1
  have hrt := (h.1.2.1.2.1 s hs).2.2.2.2.2.1
  have wo := wt_ok h.1 hs
  have wn := wayNow_C h hs
  have n512 := now_512 h.1 hs
  have lf := lft_le (S := S) (x := S.now s) (b := 50) S.nl
  obtain ⟨o1, o2⟩ := isOf_0 (k := 2) (h.2.1.2.2.2.1.2 s (by omega)).1 hkd (by omega)
  have o1' : jX8_isOfK C s 2 := o1
  have o2' : jX8_isOf C s 2 = if S.kd s = 2 ∨ S.kd s = 3 then 1 else 0 := by
    rw [show jX8_isOf C s 2 = _ from o2]
    by_cases q : S.kd s = 2 ∨ S.kd s = 3
    · rw [if_pos q, if_pos (by omega)]
    · rw [if_neg q, if_neg (by omega)]
  have z1 : (nI (S.wt s) ≤ 0) = (S.wt s ≤ 0) := propext (nI_leI (b := 0) (by omega) (by omega))
  have z2 : (nI (S.slt s) < nI (S.rt s)) = (S.slt s < S.rt s) := propext (nI_ltI (by omega) (by omega))
  have z3 : (nI (S.now s) = 0) = (S.now s = 0) := propext (nI_eq (b := 0) (by omega) (by omega))
  have z4 : (nI (S.lft (S.now s) 50 S.nl) ≤ 0) = (S.lft (S.now s) 50 S.nl ≤ 0) := propext (nI_leI (b := 0) (by omega) (by omega))
  have z10 : ¬ (1 : Int32) = 0 := by decide
  unfold jX2_canBorrowK jX2_canBorrow
  rw [o2', (h.2.1.2.2.2.2.2.2.1 s (by omega)).1, (h.2.1.2.2.2.2.2.2.1 s (by omega)).2.2.2.2, (h.2.1.2.2.2.1.2 s (by omega)).2.2.2.1, wn]
  by_cases c1 : S.kd s = 2 ∨ S.kd s = 3
  · rw [if_pos c1]
    by_cases c2 : S.wt s ≤ 0
    · simp only [eq_true o1', eq_false z10, z1, eq_true c2, z2, z3, ↓reduceIte, not_true_eq_false, not_false_eq_true, true_imp_iff, false_imp_iff, implies_true, and_true, true_and, eq_self]
      exact ⟨fun _ q => by have := q.2.1; omega, fun _ => trivial⟩
    · by_cases c3 : S.slt s < S.rt s
      · by_cases c4 : S.now s = 0
        · simp only [eq_true o1', eq_false z10, z1, eq_false c2, z2, eq_true c3, z3, eq_true c4, ↓reduceIte, not_true_eq_false, not_false_eq_true, true_imp_iff, false_imp_iff, implies_true, and_true, true_and, eq_self]
          exact ⟨fun _ q => q.2.2.2.1 c4, fun _ => trivial⟩
        · obtain ⟨⟨l1, l2⟩, -⟩ := left_both h (now_lt h.1 hs) c4
          rw [l2]
          by_cases c5 : S.lft (S.now s) 50 S.nl ≤ 0
          · simp only [eq_true o1', eq_false z10, z1, eq_false c2, z2, eq_true c3, z3, eq_false c4, eq_true l1, z4, eq_true c5, ↓reduceIte, not_true_eq_false, not_false_eq_true, true_imp_iff, false_imp_iff, implies_true, and_true, true_and, eq_self]
            exact ⟨fun _ q => by have := q.2.2.2.2; omega, fun _ => trivial⟩
          · simp only [eq_true o1', eq_false z10, z1, eq_false c2, z2, eq_true c3, z3, eq_false c4, eq_true l1, z4, eq_false c5, ↓reduceIte, not_true_eq_false, not_false_eq_true, true_imp_iff, false_imp_iff, implies_true, and_true, true_and, eq_self]
            exact ⟨fun q => q.elim, fun q => q ⟨c1, by omega, c3, c4, by omega⟩⟩
      · simp only [eq_true o1', eq_false z10, z1, eq_false c2, z2, eq_false c3, z3, ↓reduceIte, not_true_eq_false, not_false_eq_true, true_imp_iff, false_imp_iff, implies_true, and_true, true_and, eq_self]
        exact ⟨fun _ q => c3 q.2.2.1, fun _ => trivial⟩
  · rw [if_neg c1]
    simp only [eq_true o1', z1, z2, z3, ↓reduceIte, not_true_eq_false, not_false_eq_true, true_imp_iff, false_imp_iff, implies_true, and_true, true_and, eq_self]
    exact ⟨fun _ q => c1 q.1, fun _ => trivial⟩
def St.sumR (S : St) : Nat := sm (fun s => S.rt s - S.slt s) S.ns
abbrev nx (n j : Nat) : Nat := if j + 1 < n then j + 1 else 0
/-- the reference's step with a SLICE -/
theorem brw_M (h : RR T S C M) {s ii : Nat} (hs : s < S.ns) (hid : ii < S.ns) {c : Nat} (hc : c = S.cn S.pl S.does S.tick) : (¬ S.brw s → Go tF tO 1 (3, nI c, nI ii, nI s, M) (3, nI c, nI (ii + 1), nI (nx S.ns s), M)) ∧ (S.brw s → jX12_passesK M (nI s) (nI (S.now s)) 1 → (jX12_passes M (nI s) (nI (S.now s)) 1) 79 2 = nI S.ns → Go tF tO 1 (3, nI c, nI ii, nI s, M) (3, nI c, nI 0, nI (nx S.ns s), up2 (up2 (jX12_passes M (nI s) (nI (S.now s)) 1) 103 s (jX12_passes M (nI s) (nI (S.now s)) 1 103 s + 1)) 79 8 (nI s))) := by
  have h8 := h.1.2.1.1
  have hkd := (h.1.2.1.2.1 s hs).1
  have hrt := (h.1.2.1.2.1 s hs).2.2.2.2.2.1
  have wo := wt_ok h.1 hs
  have n512 := now_512 h.1 hs
  have lf := lft_le (S := S) (x := S.now s) (b := 50) S.nl
  have v : vp_in (nI s) 8 := (vp_nI (by omega)).mpr (by omega)
  have c0 : ¬ S.ns ≤ ii := by omega
  have z1 : (nI (S.wt s) ≤ 0) = (S.wt s ≤ 0) := propext (nI_leI (b := 0) (by omega) (by omega))
  have z2 : (nI (S.rt s) ≤ nI (S.slt s)) = (S.rt s ≤ S.slt s) := propext (nI_leI (by omega) (by omega))
  have z3 : (nI (S.now s) = 0) = (S.now s = 0) := propext (nI_eq (b := 0) (by omega) (by omega))
  have z4 : (nI (S.lft (S.now s) 50 S.nl) ≤ 0) = (S.lft (S.now s) 50 S.nl ≤ 0) := propext (nI_leI (b := 0) (by omega) (by omega))
  have z5 : (nI (S.kd s) < 2) = (S.kd s < 2) := propext (nI_ltI (b := 2) (by omega) (by omega))
  have z6 : (3 < nI (S.kd s)) = (3 < S.kd s) := propext (nI_ltI (a := 3) (by omega) (by omega))
  have z7 : (nI S.ns ≤ nI (s + 1)) = ¬ (s + 1 < S.ns) := propext ((nI_leI (by omega) (by omega)).trans (by omega))
  have z8 : (nI S.ns ≤ nI ii) = False := eq_false (nI_ge hid (by omega))
  obtain ⟨m1, m2⟩ := wayNow_M h hs (P := S.pl) (D := S.does) (t := S.tick) rfl
  rw [← hc] at m1 m2
  have mv : M 90 s = nI (S.kd s) ∧ M 101 s = nI (S.wt s) ∧ M 93 s = nI (S.rt s) ∧ M 105 s = nI (S.slt s) ∧ M 79 2 = nI S.ns := ⟨(h.2.2.2.2.1.2 s (by omega)).1, (h.2.2.2.2.2.1 s (by omega)).1, (h.2.2.2.2.1.2 s (by omega)).2.2.2.1, (h.2.2.2.2.2.1 s (by omega)).2.2.2.2, h.2.2.2.2.1.1⟩
  obtain ⟨v1, v2, v3, v4, v5⟩ := mv
  constructor
  · intro nb
    refine Go.one fun n => ?_
    dsimp only [tF, tO]
    rw [jX12_oneTickO_179, jX12_oneTickI_179, nI_clamp (n := s) (by omega), v1, v2, v3, v4, v5, nI_1 s, nI_1 ii]
    by_cases hh : CSliceSellerLaw_law_r9952_debf30.hs (nI c) (nI s)
    · obtain ⟨n1, n2⟩ := m1 hh
      rw [n2]
      by_cases k1 : S.kd s < 2
      · simp only [z8, eq_true hh, eq_true v, z5, eq_true k1, z7, ↓reduceIte, not_true_eq_false, not_false_eq_true, true_imp_iff, false_imp_iff, implies_true, and_true, true_and, eq_self]
        by_cases e : s + 1 < S.ns
        · rw [show nx S.ns s = s + 1 from if_pos e]
          simp only [eq_true e, ↓reduceIte, not_true_eq_false, not_false_eq_true, true_imp_iff, false_imp_iff, implies_true, and_true, true_and, eq_self]
          first | exact id | exact ⟨id, rfl⟩
        · rw [show nx S.ns s = 0 from if_neg e]
          simp only [eq_false e, ↓reduceIte, not_true_eq_false, not_false_eq_true, true_imp_iff, false_imp_iff, implies_true, and_true, true_and, eq_self]
          first | exact id | exact ⟨id, rfl⟩
      · by_cases k2 : 3 < S.kd s
        · simp only [z8, eq_true hh, eq_true v, z5, eq_false k1, z6, eq_true k2, z7, ↓reduceIte, not_true_eq_false, not_false_eq_true, true_imp_iff, false_imp_iff, implies_true, and_true, true_and, eq_self]
          by_cases e : s + 1 < S.ns
          · rw [show nx S.ns s = s + 1 from if_pos e]
            simp only [eq_true e, ↓reduceIte, not_true_eq_false, not_false_eq_true, true_imp_iff, false_imp_iff, implies_true, and_true, true_and, eq_self]
            first | exact id | exact ⟨id, rfl⟩
          · rw [show nx S.ns s = 0 from if_neg e]
            simp only [eq_false e, ↓reduceIte, not_true_eq_false, not_false_eq_true, true_imp_iff, false_imp_iff, implies_true, and_true, true_and, eq_self]
            first | exact id | exact ⟨id, rfl⟩
        · by_cases k3 : S.now s = 0
          · simp only [z8, eq_true hh, eq_true v, z5, eq_false k1, z6, eq_false k2, eq_true n1, z3, eq_true k3, z7, ↓reduceIte, not_true_eq_false, not_false_eq_true, true_imp_iff, false_imp_iff, implies_true, and_true, true_and, eq_self]
            by_cases e : s + 1 < S.ns
            · rw [show nx S.ns s = s + 1 from if_pos e]
              simp only [eq_true e, ↓reduceIte, not_true_eq_false, not_false_eq_true, true_imp_iff, false_imp_iff, implies_true, and_true, true_and, eq_self]
              first | exact id | exact ⟨id, rfl⟩
            · rw [show nx S.ns s = 0 from if_neg e]
              simp only [eq_false e, ↓reduceIte, not_true_eq_false, not_false_eq_true, true_imp_iff, false_imp_iff, implies_true, and_true, true_and, eq_self]
              first | exact id | exact ⟨id, rfl⟩
          · obtain ⟨-, l3, l4⟩ := left_both h (now_lt h.1 hs) k3
            rw [l4]
            by_cases k4 : S.wt s ≤ 0
            · simp only [z8, eq_true hh, eq_true v, z5, eq_false k1, z6, eq_false k2, eq_true n1, z3, eq_false k3, z1, eq_true k4, z7, ↓reduceIte, not_true_eq_false, not_false_eq_true, true_imp_iff, false_imp_iff, implies_true, and_true, true_and, eq_self]
              by_cases e : s + 1 < S.ns
              · rw [show nx S.ns s = s + 1 from if_pos e]
                simp only [eq_true e, ↓reduceIte, not_true_eq_false, not_false_eq_true, true_imp_iff, false_imp_iff, implies_true, and_true, true_and, eq_self]
                first | exact id | exact ⟨id, rfl⟩
              · rw [show nx S.ns s = 0 from if_neg e]
                simp only [eq_false e, ↓reduceIte, not_true_eq_false, not_false_eq_true, true_imp_iff, false_imp_iff, implies_true, and_true, true_and, eq_self]
                first | exact id | exact ⟨id, rfl⟩
            · by_cases k5 : S.rt s ≤ S.slt s
              · simp only [z8, eq_true hh, eq_true v, z5, eq_false k1, z6, eq_false k2, eq_true n1, z3, eq_false k3, z1, eq_false k4, z2, eq_true k5, z7, ↓reduceIte, not_true_eq_false, not_false_eq_true, true_imp_iff, false_imp_iff, implies_true, and_true, true_and, eq_self]
                by_cases e : s + 1 < S.ns
                · rw [show nx S.ns s = s + 1 from if_pos e]
                  simp only [eq_true e, ↓reduceIte, not_true_eq_false, not_false_eq_true, true_imp_iff, false_imp_iff, implies_true, and_true, true_and, eq_self]
                  first | exact id | exact ⟨id, rfl⟩
                · rw [show nx S.ns s = 0 from if_neg e]
                  simp only [eq_false e, ↓reduceIte, not_true_eq_false, not_false_eq_true, true_imp_iff, false_imp_iff, implies_true, and_true, true_and, eq_self]
                  first | exact id | exact ⟨id, rfl⟩
              · have k6 : S.lft (S.now s) 50 S.nl ≤ 0 := by
                  by_cases q : S.lft (S.now s) 50 S.nl ≤ 0
                  · exact q
                  · exact absurd ⟨by omega, by omega, by omega, k3, by omega⟩ nb
                simp only [z8, eq_true hh, eq_true v, z5, eq_false k1, z6, eq_false k2, eq_true n1, z3, eq_false k3, z1, eq_false k4, z2, eq_false k5, eq_true l3, z4, eq_true k6, z7, ↓reduceIte, not_true_eq_false, not_false_eq_true, true_imp_iff, false_imp_iff, implies_true, and_true, true_and, eq_self]
                by_cases e : s + 1 < S.ns
                · rw [show nx S.ns s = s + 1 from if_pos e]
                  simp only [eq_true e, ↓reduceIte, not_true_eq_false, not_false_eq_true, true_imp_iff, false_imp_iff, implies_true, and_true, true_and, eq_self]
                  first | exact id | exact ⟨id, rfl⟩
                · rw [show nx S.ns s = 0 from if_neg e]
                  simp only [eq_false e, ↓reduceIte, not_true_eq_false, not_false_eq_true, true_imp_iff, false_imp_iff, implies_true, and_true, true_and, eq_self]
                  first | exact id | exact ⟨id, rfl⟩
    · simp only [z8, eq_false hh, z7, ↓reduceIte, not_true_eq_false, not_false_eq_true, true_imp_iff, false_imp_iff, implies_true, and_true, true_and, eq_self]
      by_cases e : s + 1 < S.ns
      · rw [show nx S.ns s = s + 1 from if_pos e]
        simp only [eq_true e, ↓reduceIte, not_true_eq_false, not_false_eq_true, true_imp_iff, false_imp_iff, implies_true, and_true, true_and, eq_self]
        first | exact id | exact ⟨id, rfl⟩
      · rw [show nx S.ns s = 0 from if_neg e]
        simp only [eq_false e, ↓reduceIte, not_true_eq_false, not_false_eq_true, true_imp_iff, false_imp_iff, implies_true, and_true, true_and, eq_self]
        first | exact id | exact ⟨id, rfl⟩
  · rintro ⟨b1, b2, b3, b4, b5⟩ pk p79
    have hh : CSliceSellerLaw_law_r9952_debf30.hs (nI c) (nI s) := by
      by_cases q : CSliceSellerLaw_law_r9952_debf30.hs (nI c) (nI s)
      · exact q
      · exact absurd (m2 q) b4
    obtain ⟨n1, n2⟩ := m1 hh
    obtain ⟨-, l3, l4⟩ := left_both h (now_lt h.1 hs) b4
    have k1 : ¬ S.kd s < 2 := by omega
    have k2 : ¬ 3 < S.kd s := by omega
    have k4 : ¬ S.wt s ≤ 0 := by omega
    have k5 : ¬ S.rt s ≤ S.slt s := by omega
    have k6 : ¬ S.lft (S.now s) 50 S.nl ≤ 0 := by omega
    refine Go.one fun n => ?_
    dsimp only [tF, tO]
    rw [jX12_oneTickO_179, jX12_oneTickI_179, nI_clamp (n := s) (by omega), v1, v2, v3, v4, v5, nI_1 s, n2, l4, p79]
    simp only [z8, eq_true hh, eq_true v, z5, eq_false k1, z6, eq_false k2, eq_true n1, z3, eq_false b4, z1, eq_false k4, z2, eq_false k5, eq_true l3, z4, eq_false k6, eq_true pk, z7, ↓reduceIte, not_true_eq_false, not_false_eq_true, true_imp_iff, false_imp_iff, implies_true, and_true, true_and, eq_self]
    by_cases e : s + 1 < S.ns
    · rw [show nx S.ns s = s + 1 from if_pos e]
      simp only [eq_true e, ↓reduceIte, not_true_eq_false, not_false_eq_true, true_imp_iff, false_imp_iff, implies_true, and_true, true_and, eq_self]
      first | exact id | exact ⟨id, rfl⟩
    · rw [show nx S.ns s = 0 from if_neg e]
      simp only [eq_false e, ↓reduceIte, not_true_eq_false, not_false_eq_true, true_imp_iff, false_imp_iff, implies_true, and_true, true_and, eq_self]
      first | exact id | exact ⟨id, rfl⟩
end DAY
end
