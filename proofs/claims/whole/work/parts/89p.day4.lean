noncomputable section
section DAY
variable {T : Topo} {S : St} {C M : IM}
abbrev lF : Nat → Nat × Int32 × Int32 × Int32 × IM → IM := fun n t => jX2_lendI n t.1 t.2.1 t.2.2.1 t.2.2.2.1 t.2.2.2.2
abbrev lO : Nat → Nat × Int32 × Int32 × Int32 × IM → Prop := fun n t => jX2_lendO n t.1 t.2.1 t.2.2.1 t.2.2.2.1 t.2.2.2.2
theorem lend_go (hT : PlS T) {c : Nat} : ∀ (m : Nat) (S : St) (C M : IM) (ii j st : Nat) (pv : Int32), RR T S C M → c = S.cn S.pl S.does S.tick → S.sumR * 9 + (S.ns - ii) ≤ m → ii ≤ S.ns → st + m ≤ 10000 → (ii < S.ns → j < S.ns) → (if nI S.ns ≤ pv + 1 then (0 : Int32) else pv + 1) = nI j →
    ∃ (S' : St) (C' M' : IM), RR T S' C' M' ∧ SameD S S' ∧ S'.tick = S.tick ∧ Ends lF lO (2 * m + 1) (0, nI ii, pv, nI st, C) C' ∧ Ends tF tO (m + 1) (3, nI c, nI ii, nI j, M) (up2 M' 79 3 ((M' 79 3 + 1) - (M' 79 3 + 1) / 24 * 24)) := by
  intro m
  induction m with
  | zero =>
    intro S C M ii j st pv h hc hm hi hst hj hp
    have h8 := h.1.2.1.1
    have e : ii = S.ns := by omega
    subst e
    refine ⟨S, C, M, h, SameD.refl S, rfl, Ends.one fun n => ?_, Ends.one fun n => ?_⟩
    · dsimp only [lF, lO]
      rw [jX2_lendO_9, jX2_lendI_9, h.2.1.2.2.2.1.1]
      have c1 : nI S.ns ≤ nI S.ns := nI_le (Nat.le_refl _) (by omega)
      simp only [eq_true c1, ↓reduceIte, not_true_eq_false, not_false_eq_true, true_imp_iff, false_imp_iff, implies_true, and_true, true_and, eq_self, ite_self]
    · dsimp only [tF, tO]
      rw [jX12_oneTickO_179, jX12_oneTickI_179, h.2.2.2.2.1.1]
      have c1 : nI S.ns ≤ nI S.ns := nI_le (Nat.le_refl _) (by omega)
      simp only [eq_true c1, ↓reduceIte, not_true_eq_false, not_false_eq_true, true_imp_iff, false_imp_iff, implies_true, and_true, true_and, eq_self]
  | succ m ih =>
    intro S C M ii j st pv h hc hm hi hst hj hp
    have h8 := h.1.2.1.1
    by_cases e : ii = S.ns
    · subst e
      refine ⟨S, C, M, h, SameD.refl S, rfl, (Ends.one fun n => ?_).le (by omega), (Ends.one fun n => ?_).le (by omega)⟩
      · dsimp only [lF, lO]
        rw [jX2_lendO_9, jX2_lendI_9, h.2.1.2.2.2.1.1]
        have c1 : nI S.ns ≤ nI S.ns := nI_le (Nat.le_refl _) (by omega)
        simp only [eq_true c1, ↓reduceIte, not_true_eq_false, not_false_eq_true, true_imp_iff, false_imp_iff, implies_true, and_true, true_and, eq_self, ite_self]
      · dsimp only [tF, tO]
        rw [jX12_oneTickO_179, jX12_oneTickI_179, h.2.2.2.2.1.1]
        have c1 : nI S.ns ≤ nI S.ns := nI_le (Nat.le_refl _) (by omega)
        simp only [eq_true c1, ↓reduceIte, not_true_eq_false, not_false_eq_true, true_imp_iff, false_imp_iff, implies_true, and_true, true_and, eq_self]
    · have hi' : ii < S.ns := by omega
      have hj' := hj hi'
      have c0 : ¬ (10000 : Int32) ≤ nI st := by rw [li10000]; exact nI_ge (by omega) (by omega)
      have c1 : ¬ nI S.ns ≤ nI ii := nI_ge hi' (by omega)
      have v : vp_in (nI j) 8 := (vp_nI (by omega)).mpr (by omega)
      have g1 : Go lF lO 1 (0, nI ii, pv, nI st, C) (1, nI ii, nI j, nI st, C) := Go.one fun n => by
        dsimp only [lF, lO]
        rw [jX2_lendO_9, jX2_lendI_9, h.2.1.2.2.2.1.1]
        by_cases q : nI S.ns ≤ pv + 1
        · rw [if_pos q] at hp
          rw [← hp]
          simp only [eq_false c0, eq_false c1, eq_true q, ↓reduceIte, not_true_eq_false, not_false_eq_true, true_imp_iff, false_imp_iff, implies_true, and_true, true_and, eq_self]
          first | exact id | exact ⟨id, rfl⟩
        · rw [if_neg q] at hp
          rw [← hp]
          simp only [eq_false c0, eq_false c1, eq_false q, ↓reduceIte, not_true_eq_false, not_false_eq_true, true_imp_iff, false_imp_iff, implies_true, and_true, true_and, eq_self]
          first | exact id | exact ⟨id, rfl⟩
      obtain ⟨b1, b2⟩ := brw_C h hj'
      obtain ⟨m1, m2⟩ := brw_M h hj' hi' hc
      have hp' : (if nI S.ns ≤ nI j + 1 then (0 : Int32) else nI j + 1) = nI (nx S.ns j) := by
        rw [nI_1]
        by_cases q : j + 1 < S.ns
        · rw [if_neg (nI_ge q (by omega)), show nx S.ns j = j + 1 from if_pos q]
        · rw [if_pos (nI_le (by omega) (by omega)), show nx S.ns j = 0 from if_neg q]; rfl
      have hnx : nx S.ns j < S.ns := by
        by_cases q : j + 1 < S.ns
        · rw [show nx S.ns j = j + 1 from if_pos q]; exact q
        · rw [show nx S.ns j = 0 from if_neg q]; omega
      by_cases br : S.brw j
      · have br' : ¬ jX2_canBorrow C j = 0 := fun q => b2.mp q br
        obtain ⟨r1, r2, r3, r4, r5⟩ := id br
        have hrt := (h.1.2.1.2.1 j hj').2.2.2.2.2.1
        have wn := wayNow_C h hj'
        obtain ⟨p1, p2, S1, p3, p4, p5, p6, p7, p8⟩ := pass_both hT h (i := j) (n := 1) (x := S.now j) hj' (now_512 h.1 hj') (by omega) (by omega) (fun l hl hb => by
          have := lft_line (S := S) (b := 50) S.nl hl hb
          have := lat_ok h.1 hl
          omega)
        have p1' : jX2_passK C j (nI (S.now j)) 1 := p1
        have p2' : jX12_passesK M (nI j) (nI (S.now j)) 1 := p2
        have ns1 := p4.1.ns
        have st2 := lent_step hT p3 (i := j) (by rw [ns1]; exact hj')
        have go2 := m2 br p2' (by rw [show jX12_passes M (nI j) (nI (S.now j)) 1 79 2 = nI S1.ns from p3.2.2.2.2.1.1, ns1])
        have hsum : S1.sumR + 1 = S.sumR := by
          unfold St.sumR
          rw [ns1, p4.1.rt, p8]
          have := sm_one (f := fun s => S.rt s - put S.slt j (S.slt j + 1) s) (g := fun s => S.rt s - S.slt s) (k := j) S.ns hj' (fun i _ hne => by rw [put_ne _ _ hne])
          simp only [put_at] at this
          omega
        have hD2 : SameD S ((S1.s_ln (put S1.ln j (S1.ln j + 1))).s_lent (j + 1)) := p4.trans ⟨⟨rfl, rfl, rfl, rfl, rfl, rfl, rfl, rfl, rfl, rfl, rfl, rfl, rfl, rfl, rfl, rfl, rfl, rfl, rfl, rfl⟩, rfl, rfl, rfl, rfl, rfl, rfl, rfl⟩
        have hns2 := hD2.1.ns
        obtain ⟨S', C', M', q1, q2, q3, q4, q5⟩ := ih ((S1.s_ln (put S1.ln j (S1.ln j + 1))).s_lent (j + 1)) _ _ 0 (nx S.ns j) (st + 1) (nI j) st2 (by rw [hc]; unfold St.cn; rw [hD2.2.1, hD2.1.does, hns2, show ((S1.s_ln (put S1.ln j (S1.ln j + 1))).s_lent (j + 1)).tick = S.tick from p5]) (by
          rw [hns2, show ((S1.s_ln (put S1.ln j (S1.ln j + 1))).s_lent (j + 1)).sumR = S1.sumR from rfl]
          omega) (by omega) (by omega) (by rw [hns2]; exact fun _ => hnx) (by rw [hns2]; exact hp')
        have g2 : Go lF lO 1 (1, nI ii, nI j, nI st, C) (0, nI 0, nI j, nI (st + 1), up2 (up2 (jX2_pass C j (nI (S.now j)) (nI 1)) (17 + 4 * j) 15 (jX2_pass C j (nI (S.now j)) (nI 1) (17 + 4 * j) 15 + 1)) 69 2 (nI j)) := Go.one fun n => by
          dsimp only [lF, lO]
          rw [jX2_lendO_48, jX2_lendI_48, nI_clamp (by omega), wn, nI_1 st]
          simp only [eq_true v, eq_true b1, eq_false br', eq_true p1', ↓reduceIte, not_true_eq_false, not_false_eq_true, true_imp_iff, false_imp_iff, implies_true, and_true, true_and, eq_self]
          first | exact id | exact ⟨id, rfl⟩
        refine ⟨S', C', M', q1, hD2.trans q2, q3.trans p5, ((g1.trans g2).ends q4).le (by omega), ?_⟩
        exact (go2.ends q5).le (by omega)
      · have br' : jX2_canBorrow C j = 0 := b2.mpr br
        have g2 : Go lF lO 1 (1, nI ii, nI j, nI st, C) (0, nI (ii + 1), nI j, nI (st + 1), C) := Go.one fun n => by
          dsimp only [lF, lO]
          rw [jX2_lendO_48, jX2_lendI_48, nI_clamp (by omega), nI_1 st, nI_1 ii]
          simp only [eq_true v, eq_true b1, eq_true br', ↓reduceIte, not_true_eq_false, not_false_eq_true, true_imp_iff, false_imp_iff, implies_true, and_true, true_and, eq_self]
          first | exact id | exact ⟨id, rfl⟩
        obtain ⟨S', C', M', q1, q2, q3, q4, q5⟩ := ih S C M (ii + 1) (nx S.ns j) (st + 1) (nI j) h hc (by omega) (by omega) (by omega) (fun _ => hnx) hp'
        exact ⟨S', C', M', q1, q2, q3, ((g1.trans g2).ends q4).le (by omega), ((m1 br).ends q5).le (by omega)⟩
theorem tick_both (hT : PlS T) (h : RR T S C M) : jX2_doTickK C ∧ jX12_oneTickK M ∧ ∃ S', RR T S' (jX2_doTickM C) (jX12_oneTick M) ∧ SameD S S' := by
  obtain ⟨f1, f2, S1, M1, f3, f4, f5, f6, f7⟩ := tick_first hT h
  have h8 := h.1.2.1.1
  have ns1 := f4.1.ns
  have hl := h.1.2.2.1.2.1
  unfold jX2_doTickK jX12_oneTickK jX12_oneTick jX2_doTickM jX2_lendK jX2_lend
  obtain ⟨C1, hC1⟩ : ∃ X, X = jX2_passNeeds (jX2_forgetLatest C) := ⟨_, rfl⟩
  rw [← hC1] at f3 ⊢
  have d1 : C1 69 2 = nI S.lent - 1 := by rw [f3.2.1.2.2.2.2.2.2.2.2.2.2.2.1.1, f6]
  have e1 : M1 79 8 = nI S.lent - 1 := by rw [f3.2.2.2.2.2.2.2.1.1, f6]
  have add1 : nI S.lent - 1 + 1 = nI S.lent := by rw [Int32.sub_add_cancel]
  have hsum : S1.sumR ≤ 160 := by
    unfold St.sumR
    refine Nat.le_trans (sm_le (B := 20) _ fun s q => ?_) (Nat.mul_le_mul_right 20 f3.1.2.1.1)
    have := f3.1.2.1.2.1 s q
    omega
  let j := if S.lent < S.ns then S.lent else 0
  have hj : (if nI S.ns ≤ nI S.lent - 1 + 1 then (0 : Int32) else nI S.lent - 1 + 1) = nI j := by
    rw [add1]
    by_cases q : S.lent < S.ns
    · rw [if_neg (nI_ge q (by omega)), show j = S.lent from if_pos q]
    · rw [if_pos (nI_le (by omega) (by omega)), show j = 0 from if_neg q]; rfl
  obtain ⟨S2, C2, M2, g1, g2, g3, g4, g5⟩ := lend_go hT (c := S.cn S.pl S.does S.tick) 1500 S1 C1 M1 0 j 0 (nI S.lent - 1) f3 (by unfold St.cn; rw [f4.2.1, f4.1.does, ns1, f5]) (by omega) (by omega) (by omega) (fun q => by
    rw [ns1] at q ⊢
    by_cases q' : S.lent < S.ns
    · rw [show j = S.lent from if_pos q']; exact q'
    · rw [show j = 0 from if_neg q']; exact q) (by rw [ns1]; exact hj)
  have k1 : Go tF tO 1 (2, nI (S.cn S.pl S.does S.tick), nI S.ns, 0, M1) (3, nI (S.cn S.pl S.does S.tick), nI 0, nI j, M1) := Go.one fun n => by
    have c1 : nI S.ns ≤ nI S.ns := nI_le (Nat.le_refl _) (by omega)
    dsimp only [tF, tO]
    rw [jX12_oneTickO_57, jX12_oneTickI_57, f3.2.2.2.2.1.1, ns1, e1]
    by_cases q : nI S.ns ≤ nI S.lent - 1 + 1
    · rw [if_pos q] at hj
      rw [← hj]
      simp only [eq_true c1, eq_true q, ↓reduceIte, not_true_eq_false, not_false_eq_true, true_imp_iff, false_imp_iff, implies_true, and_true, true_and, eq_self]
      first | exact id | exact ⟨id, rfl⟩
    · rw [if_neg q] at hj
      rw [← hj]
      simp only [eq_true c1, eq_false q, ↓reduceIte, not_true_eq_false, not_false_eq_true, true_imp_iff, false_imp_iff, implies_true, and_true, true_and, eq_self]
      first | exact id | exact ⟨id, rfl⟩
  obtain ⟨r1, r2⟩ := g4.use (f := FU) (by rw [FU_eq]; omega)
  obtain ⟨r3, r4⟩ := ((f7.trans k1).ends g5).use (f := FU) (by rw [FU_eq]; omega)
  have r2' : jX2_lendI FU 0 0 (nI S.lent - 1) 0 C1 = C2 := r2
  have r1' : jX2_lendO FU 0 0 (nI S.lent - 1) 0 C1 := r1
  have r4' : jX12_oneTickI FU 0 0 0 0 M = up2 M2 79 3 ((M2 79 3 + 1) - (M2 79 3 + 1) / 24 * 24) := r4
  rw [d1, r2', r4']
  exact ⟨⟨f1, f2, r1'⟩, r3, _, tick_step hT g1, (f4.trans g2).trans ⟨⟨rfl, rfl, rfl, rfl, rfl, rfl, rfl, rfl, rfl, rfl, rfl, rfl, rfl, rfl, rfl, rfl, rfl, rfl, rfl, rfl⟩, rfl, rfl, rfl, rfl, rfl, rfl, rfl⟩⟩
theorem sim_run (hT : PlS T) (hS : S.ok) (hC : RC T S C) (hM : RM S M) (a1 : Int32) : jX11_runK C a1 ∧ jX12_runK M a1 ∧ (jX11_run C a1).1 = (jX12_run M a1).1 ∧ ∃ S' : St, S'.ok ∧ RC T S' (jX11_run C a1).2 ∧ RM S' (jX12_run M a1).2 := by
  unfold jX11_runK jX12_runK jX11_run jX12_run jX12_finds
  by_cases c1 : wi a1 1 24
  · obtain ⟨n, hn1, hn2, rfl⟩ := wi_nI (a := 1) (b := 24) (by omega) c1 (by omega)
    have e0 : C 69 4 = M 79 6 := by rw [hC.2.2.2.2.2.2.2.2.2.2.2.1.2.2.1, hM.2.2.2.2.2.1.2.2.1]
    obtain ⟨⟨w1, C1⟩, ⟨x1, M1⟩, ⟨S1, a1, a2, a3⟩, g1, k1⟩ := Go.loop2 (F := fun m (t : Int32 × IM) => jX11_runI (nI n) m (C 69 4) t.1 t.2) (O := fun m t => jX11_runO (nI n) m (C 69 4) t.1 t.2) (F2 := fun m (t : Int32 × IM) => jX12_runI (nI n) m (M 79 6) t.1 t.2) (O2 := fun m t => jX12_runO (nI n) m (M 79 6) t.1 t.2) (B := 1) (B2 := 1)
      (P := fun k t u => ∃ S1 : St, RR T S1 t.2 u.2 ∧ t.1 = nI k ∧ u.1 = nI k) n
      (fun k hk t u htu => by
        obtain ⟨w1, C1⟩ := t
        obtain ⟨x1, M1⟩ := u
        obtain ⟨S1, a1, a2, a3⟩ := htu
        dsimp only at a1 a2 a3
        subst a2 a3
        obtain ⟨b1, b2, S2, b3, -⟩ := tick_both hT a1
        have c0 : ¬ n ≤ k := by omega
        refine ⟨(nI (k + 1), jX2_doTickM C1), (nI (k + 1), jX12_oneTick M1), ⟨S2, b3, rfl, rfl⟩, Go.one fun m => ?_, Go.one fun m => ?_⟩
        · dsimp only
          rw [jX11_runO_27, jX11_runI_27, nI_1]
          simp (disch := omega) only [nI_leI, eq_false c0, eq_true b1, ↓reduceIte, not_true_eq_false, not_false_eq_true, true_imp_iff, false_imp_iff, implies_true, and_true, true_and, eq_self]
          first | exact id | exact ⟨id, rfl⟩
        · dsimp only
          rw [jX12_runO_24, jX12_runI_24, nI_1]
          simp (disch := omega) only [nI_leI, eq_false c0, eq_true b2, ↓reduceIte, not_true_eq_false, not_false_eq_true, true_imp_iff, false_imp_iff, implies_true, and_true, true_and, eq_self]
          first | exact id | exact ⟨id, rfl⟩)
      ((nI 0, C) : Int32 × IM) ((nI 0, M) : Int32 × IM) ⟨S, ⟨hS, hC, hM⟩, rfl, rfl⟩
    dsimp only at a1 a2 a3
    subst a2 a3
    have c0 : n ≤ n := Nat.le_refl _
    have E1 := g1.ends (Ends.one (b := (C1 69 4 - C 69 4, C1)) fun m => by
      dsimp only
      rw [jX11_runO_27, jX11_runI_27]
      simp (disch := omega) only [nI_leI, eq_true c0, ↓reduceIte, not_true_eq_false, not_false_eq_true, true_imp_iff, false_imp_iff, implies_true, and_true, true_and, eq_self])
    have E2 := k1.ends (Ends.one (b := (M1 79 6 - M 79 6, M1)) fun m => by
      dsimp only
      rw [jX12_runO_24, jX12_runI_24]
      simp (disch := omega) only [nI_leI, eq_true c0, ↓reduceIte, not_true_eq_false, not_false_eq_true, true_imp_iff, false_imp_iff, implies_true, and_true, true_and, eq_self])
    obtain ⟨r1, r2⟩ := E1.use (f := FU) (by rw [FU_eq]; omega)
    obtain ⟨r3, r4⟩ := E2.use (f := FU) (by rw [FU_eq]; omega)
    have r1' : jX11_runO (nI n) FU (C 69 4) 0 C := r1
    have r2' : jX11_runI (nI n) FU (C 69 4) 0 C = _ := r2
    have r3' : jX12_runO (nI n) FU (M 79 6) 0 M := r3
    have r4' : jX12_runI (nI n) FU (M 79 6) 0 M = _ := r4
    simp only [eq_true c1, eq_true r1', r2', eq_true r3', r4', ↓reduceIte, not_true_eq_false, not_false_eq_true, true_imp_iff, false_imp_iff, implies_true, and_true, true_and, eq_self]
    refine ⟨?_, S1, a1.1, a1.2.1, a1.2.2⟩
    rw [e0, a1.2.1.2.2.2.2.2.2.2.2.2.2.2.1.2.2.1, a1.2.2.2.2.2.2.2.1.2.2.1]
  · simp only [eq_false c1, ↓reduceIte, not_true_eq_false, not_false_eq_true, true_imp_iff, false_imp_iff, implies_true, and_true, true_and, eq_self]
    exact bad hT hS hC hM
end DAY
end
