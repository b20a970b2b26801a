noncomputable section
section DAY
variable {T : Topo} {S : St} {C M : IM}
/-- the least that is left on a set of LINES -/
def St.lft (S : St) (x b : Nat) : Nat → Nat
  | 0 => b
  | l + 1 => if x.testBit l = true then min (S.lft x b l) (S.rm l - S.lat l) else S.lft x b l
theorem lft_le {x b : Nat} : ∀ n, S.lft x b n ≤ b
  | 0 => Nat.le_refl _
  | n + 1 => by
    have := lft_le (x := x) (b := b) n
    unfold St.lft
    split <;> omega
theorem lft_line {x b l : Nat} : ∀ n, l < n → x.testBit l = true → S.lft x b n ≤ S.rm l - S.lat l
  | 0, h, _ => absurd h (Nat.not_lt_zero _)
  | n + 1, h, hx => by
    unfold St.lft
    by_cases e : l = n
    · subst e; rw [if_pos hx]; omega
    · have := lft_line (b := b) n (by omega) hx
      split <;> omega
theorem lft_50 {x b : Nat} (hb : 50 ≤ b) : ∀ n, S.lft x 50 n = min 50 (S.lft x b n)
  | 0 => by show 50 = min 50 b; omega
  | n + 1 => by
    have := lft_50 (x := x) hb n
    unfold St.lft
    split <;> omega
theorem left_both (h : RR T S C M) {x : Nat} (hx : x < 2 ^ S.nl) (h0 : x ≠ 0) : (jX2_leftOnK C (nI x) ∧ jX2_leftOn C (nI x) = nI (S.lft x 50 S.nl)) ∧ (jX12_leftInK M (nI x) ∧ jX12_leftIn M (nI x) = nI (S.lft x 50 S.nl)) := by
  have h9 := h.1.1.2.1
  have x9 : x < 512 := Nat.lt_of_lt_of_le hx (show 2 ^ S.nl ≤ 2 ^ 9 from Nat.pow_le_pow_right (by decide) h9)
  constructor
  · unfold jX2_leftOnK jX2_leftOn
    have E : Ends (fun n (s : Int32 × Int32) => jX2_leftOnI (nI x) n s.1 s.2 C) (fun n s => jX2_leftOnO (nI x) n s.1 s.2 C) (S.nl * 1 + 1) ((nI 1000, nI 0) : Int32 × Int32) (nI (S.lft x 1000 S.nl)) := by
      refine Go.ends (Go.loop (a := fun k => (nI (S.lft x 1000 k), nI k)) S.nl fun l hl => Go.one fun n => ?_) (Ends.one fun n => ?_)
      · dsimp only
        have v : vp_in (nI l) 9 := (vp_nI (by omega)).mpr (by omega)
        have c0 : ¬ S.nl ≤ l := by omega
        have := lat_ok h.1 hl
        have := (h.1.1.2.2.2.2 l hl).2.2.2.2.1
        have := lft_le (S := S) (x := x) (b := 1000) l
        have e : jLeft C l = nI (S.rm l - S.lat l) := by
          unfold jLeft
          rw [(h.2.1.1.2.2.2 l (by omega)).2.2.1, (h.2.1.2.1 l (by omega)).2.1, nI_sub (by omega)]
        rw [jX2_leftOnO_6, jX2_leftOnI_6, h.2.1.1.2.1, nI_clamp (n := l) (by omega), e, min_nI (by omega) (by omega), nI_1, St.lft]
        by_cases c : x.testBit l = true
        · simp (disch := omega) only [nI_leI, hs_nI, eq_false c0, eq_true c, eq_true v, ↓reduceIte, not_true_eq_false, not_false_eq_true, true_imp_iff, false_imp_iff, implies_true, and_true, true_and, eq_self]
          first | exact id | exact ⟨id, rfl⟩
        · simp (disch := omega) only [nI_leI, hs_nI, eq_false c0, eq_false c, eq_true v, ↓reduceIte, not_true_eq_false, not_false_eq_true, true_imp_iff, false_imp_iff, implies_true, and_true, true_and, eq_self]
          first | exact id | exact ⟨id, rfl⟩
      · dsimp only
        have c0 : S.nl ≤ S.nl := Nat.le_refl _
        rw [jX2_leftOnO_6, jX2_leftOnI_6, h.2.1.1.2.1]
        simp (disch := omega) only [nI_leI, eq_true c0, ↓reduceIte, not_true_eq_false, not_false_eq_true, true_imp_iff, false_imp_iff, implies_true, and_true, true_and, eq_self]
    obtain ⟨r1, r2⟩ := E.use (f := FU) (by rw [FU_eq]; omega)
    have e : S.lft x 50 S.nl = S.lft x 1000 S.nl := by
      rw [lft_50 (b := 1000) (by omega)]
      obtain ⟨l, hl1, hl2⟩ : ∃ l, l < S.nl ∧ x.testBit l = true := by
        by_cases q : ∃ l, l < S.nl ∧ x.testBit l = true
        · exact q
        · exfalso
          apply h0
          refine set_eq fun k => ?_
          rw [Nat.zero_testBit]
          by_cases hk : k < S.nl
          · cases e : x.testBit k
            · rfl
            · exact absurd ⟨k, hk, e⟩ q
          · exact bit_no hx (by omega)
      have := lft_line (S := S) (b := 1000) S.nl hl1 hl2
      have := (h.1.1.2.2.2.2 l hl1).2.2.2.2.1
      omega
    rw [e]
    exact ⟨r1, r2⟩
  · unfold jX12_leftInK jX12_leftIn
    have E : Ends (fun n (s : Int32 × Int32) => jX12_leftInI (nI x) n s.1 s.2 M) (fun n s => jX12_leftInO (nI x) n s.1 s.2 M) (S.nl * 1 + 1) ((nI 50, nI 0) : Int32 × Int32) (nI (S.lft x 50 S.nl)) := by
      refine Go.ends (Go.loop (a := fun k => (nI (S.lft x 50 k), nI k)) S.nl fun l hl => Go.one fun n => ?_) (Ends.one fun n => ?_)
      · dsimp only
        have v : vp_in (nI l) 9 := (vp_nI (by omega)).mpr (by omega)
        have c0 : ¬ S.nl ≤ l := by omega
        have := lat_ok h.1 hl
        have := (h.1.1.2.2.2.2 l hl).2.2.2.2.1
        have := lft_le (S := S) (x := x) (b := 50) l
        rw [jX12_leftInO_5, jX12_leftInI_5, h.2.2.1.2.1, nI_clamp (n := l) (by omega), (h.2.2.1.2.2.2.1 l (by omega)).2.2.1, (h.2.2.2.1 l (by omega)).2.1, nI_sub (by omega), nI_1, St.lft]
        by_cases c : x.testBit l = true
        · rw [if_pos c]
          by_cases q : S.lft x 50 l ≤ S.rm l - S.lat l
          · rw [Nat.min_eq_left q]
            simp (disch := omega) only [nI_leI, hs_nI, eq_false c0, eq_true c, eq_true v, eq_true q, ↓reduceIte, not_true_eq_false, not_false_eq_true, true_imp_iff, false_imp_iff, implies_true, and_true, true_and, eq_self]
            first | exact id | exact ⟨id, rfl⟩
          · rw [Nat.min_eq_right (by omega)]
            simp (disch := omega) only [nI_leI, hs_nI, eq_false c0, eq_true c, eq_true v, eq_false q, ↓reduceIte, not_true_eq_false, not_false_eq_true, true_imp_iff, false_imp_iff, implies_true, and_true, true_and, eq_self]
            first | exact id | exact ⟨id, rfl⟩
        · rw [if_neg c]
          simp (disch := omega) only [nI_leI, hs_nI, eq_false c0, eq_false c, eq_true v, ↓reduceIte, not_true_eq_false, not_false_eq_true, true_imp_iff, false_imp_iff, implies_true, and_true, true_and, eq_self]
          first | exact id | exact ⟨id, rfl⟩
      · dsimp only
        have c0 : S.nl ≤ S.nl := Nat.le_refl _
        rw [jX12_leftInO_5, jX12_leftInI_5, h.2.2.1.2.1]
        simp (disch := omega) only [nI_leI, eq_true c0, ↓reduceIte, not_true_eq_false, not_false_eq_true, true_imp_iff, false_imp_iff, implies_true, and_true, true_and, eq_self]
    exact E.use (by rw [FU_eq]; omega)
/-- the TAKEN WAY of a SLICE that is IN and COUNTS now -/
def St.now (S : St) (s : Nat) : Nat := if S.pl s ≠ 0 ∧ S.does s S.tick = true then tak (S.pl s) S.dn else 0
theorem now_lt (hS : S.ok) {s : Nat} (hs : s < S.ns) : S.now s < 2 ^ S.nl := by
  have h8 := hS.2.1.1
  unfold St.now
  split
  · rename_i c
    obtain ⟨-, w, u, a, -, -, g1, g2, -, g4, g5, -⟩ := pl_parts hS.1 hS.2.2.2.2.1 (show s < 8 by omega) c.1
    unfold tak
    rw [g1, g2]
    split
    · exact g4
    · split
      · exact g5
      · exact Nat.two_pow_pos _
  · exact Nat.two_pow_pos _
theorem now_512 (hS : S.ok) {s : Nat} (hs : s < S.ns) : S.now s < 512 := Nat.lt_of_lt_of_le (now_lt hS hs) (show 2 ^ S.nl ≤ 2 ^ 9 from Nat.pow_le_pow_right (by decide) hS.1.2.1)
theorem wayNow_C (h : RR T S C M) {s : Nat} (hs : s < S.ns) : jX2_wayNow C s = nI (S.now s) := by
  have h8 := h.1.2.1.1
  have ht := h.1.2.2.1.1
  have i1 := in_C h.1 h.2.1 (j := s) (by omega)
  have hb := hs_nI (n := S.tks s) (k := S.tick) (by have := tks_lt (S := S) s; omega) (by omega)
  have tk := taken_C (d := S.dn) (h.2.1.2.2.2.2.2.1 s (by omega)) (by have := pl_lt h.1 (j := s) (by omega); omega)
  unfold jX2_wayNow St.now
  rw [h.2.1.2.2.2.2.1 s hs, h.2.1.2.2.2.2.2.2.2.2.2.2.2.1.2.1, h.2.1.dnC, tk]
  rw [tks_bit ht] at hb
  by_cases c1 : S.pl s = 0
  · rw [if_neg (fun q => i1.mp q c1), if_neg (fun q => q.1 c1), nI_0]
  · rw [if_pos (i1.mpr c1)]
    by_cases c2 : S.does s S.tick = true
    · rw [if_pos (hb.mpr c2), if_pos ⟨c1, c2⟩]
    · rw [if_neg (mt hb.mp c2), if_neg (fun q => c2 q.2), nI_0]
theorem RR.mb (h : RR T S C M) : MB S S.pl M := ⟨h.1.1, h.1.2.1, h.1.2.2.2.2.1, h.2.2.1, h.2.2.2.2.1, h.2.2.2.2.2.2.1⟩
/-- what the reference sees of it -/
theorem wayNow_M (h : RR T S C M) {s : Nat} (hs : s < S.ns) {D : Nat → Nat → Bool} {P : Nat → Nat} {t : Nat} (hc : S.cn P D t = S.cn S.pl S.does S.tick) : (CSliceSellerLaw_law_r9952_debf30.hs (nI (S.cn P D t)) (nI s) → jX12_takesK M (nI s) (-1) ∧ jX12_takes M (nI s) (-1) = nI (S.now s)) ∧ (¬ CSliceSellerLaw_law_r9952_debf30.hs (nI (S.cn P D t)) (nI s) → S.now s = 0) := by
  have h8 := h.1.2.1.1
  rw [hc]
  have hb := has_cn (S := S) (P := S.pl) h8 hs (t := S.tick) (D := S.does)
  refine ⟨fun q => ?_, fun q => if_neg (fun q' => q (hb.mpr q'))⟩
  obtain ⟨c1, c2⟩ := hb.mp q
  obtain ⟨t1, t2⟩ := takes_M h.mb hs c1 (a2 := -1) (d := S.dn) (.inl ⟨rfl, rfl⟩)
  refine ⟨t1, ?_⟩
  unfold St.now
  rw [if_pos ⟨c1, c2⟩]
  exact t2
/-- the units that a SLICE's NEED lets pass -/
def St.nds (S : St) (s : Nat) : Nat := min (min (S.wt s) (S.need s)) (S.lft (S.now s) 50 S.nl)
theorem need_rt (hS : S.ok) {s : Nat} (hs : s < S.ns) : S.need s ≤ 20 := need_le hS.2.1 hs
theorem now_same {S' : St} (hD : SameD S S') (ht : S'.tick = S.tick) (s : Nat) : S'.now s = S.now s := by
  unfold St.now
  rw [hD.2.1, hD.1.does, ht, hD.2.2.1]
/-- NEEDS pass -/
theorem needs_step (hT : PlS T) (h : RR T S C M) {s : Nat} (hs : s < S.ns) (h0 : S.slt s = 0) (hz : S.now s ≠ 0) : jX2_leftOnK C (nI (S.now s)) ∧ jX2_passK C s (nI (S.now s)) (jMin (jMin (C (17 + 4 * s) 13) (jX8_needed C s)) (jX2_leftOn C (nI (S.now s)))) ∧ jX12_leftInK M (nI (S.now s)) ∧ jX12_leftIn M (nI (S.now s)) = nI (S.lft (S.now s) 50 S.nl) ∧ jMin (jMin (C (17 + 4 * s) 13) (jX8_needed C s)) (jX2_leftOn C (nI (S.now s))) = nI (S.nds s) ∧ jX12_passesK M (nI s) (nI (S.now s)) (nI (S.nds s)) ∧ ∃ S' : St, RR T S' (jX2_pass C s (nI (S.now s)) (nI (S.nds s))) (jX12_passes M (nI s) (nI (S.now s)) (nI (S.nds s))) ∧ SameD S S' ∧ S'.tick = S.tick ∧ S'.lent = S.lent ∧ S'.slt = put S.slt s (S.slt s + S.nds s) := by
  have h8 := h.1.2.1.1
  obtain ⟨⟨l1, l2⟩, l3, l4⟩ := left_both h (now_lt h.1 hs) hz
  have wo := wt_ok h.1 hs
  have nd := need_rt h.1 hs
  have lf := lft_le (S := S) (x := S.now s) (b := 50) S.nl
  have e : jMin (jMin (C (17 + 4 * s) 13) (jX8_needed C s)) (jX2_leftOn C (nI (S.now s))) = nI (S.nds s) := by
    rw [(h.2.1.2.2.2.2.2.2.1 s (by omega)).1, need_C h.1 h.2.1 hs, l2, min_nI (by omega) (by omega), min_nI (by omega) (by omega)]
    rfl
  have n1 : S.nds s ≤ S.wt s := by unfold St.nds; omega
  have n2 : S.nds s ≤ 20 := by unfold St.nds; omega
  have n3 : S.nds s ≤ S.lft (S.now s) 50 S.nl := by unfold St.nds; omega
  obtain ⟨p1, p2, S', p3, p4, p5, p6, p7, p8⟩ := pass_both hT h (i := s) (n := S.nds s) (x := S.now s) hs (now_512 h.1 hs) n1 (by omega) (fun l hl hb => by
    have := lft_line (S := S) (b := 50) S.nl hl hb
    have := lat_ok h.1 hl
    omega)
  exact ⟨l1, by rw [e]; exact p1, l3, l4, e, p2, S', p3, p4, p5, p6, p8⟩
abbrev tF : Nat → Nat × Int32 × Int32 × Int32 × IM → IM := fun n t => jX12_oneTickI n t.1 t.2.1 t.2.2.1 t.2.2.2.1 t.2.2.2.2
abbrev tO : Nat → Nat × Int32 × Int32 × Int32 × IM → Prop := fun n t => jX12_oneTickO n t.1 t.2.1 t.2.2.1 t.2.2.2.1 t.2.2.2.2
/-- the start of a TICK, and the NEEDS -/
theorem tick_first (hT : PlS T) (h : RR T S C M) : jX2_forgetLatestK C ∧ jX2_passNeedsK (jX2_forgetLatest C) ∧ ∃ (S' : St) (M' : IM), RR T S' (jX2_passNeeds (jX2_forgetLatest C)) M' ∧ SameD S S' ∧ S'.tick = S.tick ∧ S'.lent = S.lent ∧ Go tF tO 100 (0, 0, 0, 0, M) (2, nI (S.cn S.pl S.does S.tick), nI S.ns, 0, M') := by
  have h8 := h.1.2.1.1
  have h9 := h.1.1.2.1
  have ht := h.1.2.2.1.1
  unfold jX2_forgetLatestK jX2_forgetLatest
  -- LINES
  obtain ⟨⟨p1, w1, C1⟩, ⟨q1, x1, y1, z1, M1⟩, ⟨S1, a1, rfl, a2, rfl, a3, rfl, rfl, a4, a5, a6⟩, g1, k1⟩ := Go.loop2 (F := fun m (t : Nat × Int32 × IM) => jX2_forgetLatestI m t.1 t.2.1 t.2.2) (O := fun m t => jX2_forgetLatestO m t.1 t.2.1 t.2.2) (F2 := tF) (O2 := tO) (B := 1) (B2 := 1)
    (P := fun k t u => ∃ S1 : St, RR T S1 t.2.2 u.2.2.2.2 ∧ t.1 = 0 ∧ t.2.1 = nI k ∧ u.1 = 0 ∧ u.2.1 = nI k ∧ u.2.2.1 = 0 ∧ u.2.2.2.1 = 0 ∧ SameD S S1 ∧ S1.tick = S.tick ∧ S1.lent = S.lent) S.nl
    (fun k hk t u htu => by
      obtain ⟨p1, w1, C1⟩ := t
      obtain ⟨q1, x1, y1, z1, M1⟩ := u
      obtain ⟨S1, a1, b1, b2, b3, b4, b5, b6, a4, a5, a6⟩ := htu
      dsimp only at b1 b2 b3 b4 b5 b6 a1
      subst b1 b2 b3 b4 b5 b6
      have nl1 := a4.1.nl
      have c0 : ¬ S.nl ≤ k := by omega
      have v : vp_in (nI k) 9 := (vp_nI (by omega)).mpr (by omega)
      have st := reset_line hT a1 (l := k) (by rw [nl1]; exact hk)
      refine ⟨(0, nI (k + 1), up2 C1 (6 + k) 6 0), (0, nI (k + 1), 0, 0, up2 M1 87 k 0), ⟨_, st, rfl, rfl, rfl, rfl, rfl, rfl, a4.trans ⟨⟨rfl, rfl, rfl, rfl, rfl, rfl, rfl, rfl, rfl, rfl, rfl, rfl, rfl, rfl, rfl, rfl, rfl, rfl, rfl, rfl⟩, rfl, rfl, rfl, rfl, rfl, rfl, rfl⟩, a5, a6⟩, Go.one fun m => ?_, Go.one fun m => ?_⟩
      · dsimp only
        rw [jX2_forgetLatestO_2, jX2_forgetLatestI_2, a1.2.1.1.2.1, nl1, nI_clamp (by omega), nI_1]
        simp (disch := omega) only [nI_leI, eq_false c0, eq_true v, ↓reduceIte, not_true_eq_false, not_false_eq_true, true_imp_iff, false_imp_iff, implies_true, and_true, true_and, eq_self]
        first | exact id | exact ⟨id, rfl⟩
      · dsimp only [tF, tO]
        rw [jX12_oneTickO_2, jX12_oneTickI_2, a1.2.2.1.2.1, nl1, nI_clamp (by omega), nI_1]
        simp (disch := omega) only [nI_leI, eq_false c0, eq_true v, ↓reduceIte, not_true_eq_false, not_false_eq_true, true_imp_iff, false_imp_iff, implies_true, and_true, true_and, eq_self]
        first | exact id | exact ⟨id, rfl⟩)
    ((0, nI 0, C) : Nat × Int32 × IM) ((0, nI 0, 0, 0, M) : Nat × Int32 × Int32 × Int32 × IM) ⟨S, h, rfl, rfl, rfl, rfl, rfl, rfl, SameD.refl S, rfl, rfl⟩
  dsimp only at a1 a2 a3
  subst a2 a3
  have c0 : S.nl ≤ S.nl := Nat.le_refl _
  have g2 : Go (fun m (t : Nat × Int32 × IM) => jX2_forgetLatestI m t.1 t.2.1 t.2.2) (fun m t => jX2_forgetLatestO m t.1 t.2.1 t.2.2) 1 (0, nI S.nl, C1) (1, nI 0, C1) := Go.one fun m => by
    dsimp only
    rw [jX2_forgetLatestO_2, jX2_forgetLatestI_2, a1.2.1.1.2.1, a4.1.nl]
    simp (disch := omega) only [nI_leI, eq_true c0, ↓reduceIte, not_true_eq_false, not_false_eq_true, true_imp_iff, false_imp_iff, implies_true, and_true, true_and, eq_self]
    first | exact id | exact ⟨id, rfl⟩
  have k2 : Go tF tO 1 (0, nI S.nl, 0, 0, M1) (1, nI 0, 0, 0, M1) := Go.one fun m => by
    dsimp only [tF, tO]
    rw [jX12_oneTickO_2, jX12_oneTickI_2, a1.2.2.1.2.1, a4.1.nl]
    simp (disch := omega) only [nI_leI, eq_true c0, ↓reduceIte, not_true_eq_false, not_false_eq_true, true_imp_iff, false_imp_iff, implies_true, and_true, true_and, eq_self]
    first | exact id | exact ⟨id, rfl⟩
  -- SLICES
  obtain ⟨⟨p2, w2, C2⟩, ⟨q2, x2, y2, z2, M2⟩, ⟨S2, d1, rfl, d2, rfl, d3, rfl, rfl, d4, d5, d6, d7⟩, g3, k3⟩ := Go.loop2 (F := fun m (t : Nat × Int32 × IM) => jX2_forgetLatestI m t.1 t.2.1 t.2.2) (O := fun m t => jX2_forgetLatestO m t.1 t.2.1 t.2.2) (F2 := tF) (O2 := tO) (B := 1) (B2 := 1)
    (P := fun k t u => ∃ S1 : St, RR T S1 t.2.2 u.2.2.2.2 ∧ t.1 = 1 ∧ t.2.1 = nI k ∧ u.1 = 1 ∧ u.2.1 = nI k ∧ u.2.2.1 = 0 ∧ u.2.2.2.1 = 0 ∧ SameD S S1 ∧ S1.tick = S.tick ∧ S1.lent = S.lent ∧ ∀ s, s < k → S1.slt s = 0) S.ns
    (fun k hk t u htu => by
      obtain ⟨p1, w1, C1⟩ := t
      obtain ⟨q1, x1, y1, z1, M1⟩ := u
      obtain ⟨S1, a1, b1, b2, b3, b4, b5, b6, a4, a5, a6, a7⟩ := htu
      dsimp only at b1 b2 b3 b4 b5 b6 a1
      subst b1 b2 b3 b4 b5 b6
      have ns1 := a4.1.ns
      have c0 : ¬ S.ns ≤ k := by omega
      have v : vp_in (nI k) 8 := (vp_nI (by omega)).mpr (by omega)
      have st := reset_slice hT a1 (i := k) (by rw [ns1]; exact hk)
      refine ⟨(1, nI (k + 1), up2 C1 (17 + 4 * k) 17 0), (1, nI (k + 1), 0, 0, up2 M1 105 k 0), ⟨_, st, rfl, rfl, rfl, rfl, rfl, rfl, a4.trans ⟨⟨rfl, rfl, rfl, rfl, rfl, rfl, rfl, rfl, rfl, rfl, rfl, rfl, rfl, rfl, rfl, rfl, rfl, rfl, rfl, rfl⟩, rfl, rfl, rfl, rfl, rfl, rfl, rfl⟩, a5, a6, fun s hs => ?_⟩, Go.one fun m => ?_, Go.one fun m => ?_⟩
      · show put S1.slt k 0 s = 0
        by_cases e : s = k
        · rw [e, put_at]
        · rw [put_ne _ _ e]; exact a7 s (by omega)
      · dsimp only
        rw [jX2_forgetLatestO_33, jX2_forgetLatestI_33, a1.2.1.2.2.2.1.1, ns1, nI_clamp (by omega), nI_1]
        simp (disch := omega) only [nI_leI, eq_false c0, eq_true v, ↓reduceIte, not_true_eq_false, not_false_eq_true, true_imp_iff, false_imp_iff, implies_true, and_true, true_and, eq_self]
        first | exact id | exact ⟨id, rfl⟩
      · dsimp only [tF, tO]
        rw [jX12_oneTickO_25, jX12_oneTickI_25, a1.2.2.2.2.1.1, ns1, nI_clamp (by omega), nI_1]
        simp (disch := omega) only [nI_leI, eq_false c0, eq_true v, ↓reduceIte, not_true_eq_false, not_false_eq_true, true_imp_iff, false_imp_iff, implies_true, and_true, true_and, eq_self]
        first | exact id | exact ⟨id, rfl⟩)
    ((1, nI 0, C1) : Nat × Int32 × IM) ((1, nI 0, 0, 0, M1) : Nat × Int32 × Int32 × Int32 × IM) ⟨S1, a1, rfl, rfl, rfl, rfl, rfl, rfl, a4, a5, a6, fun s hs => absurd hs (Nat.not_lt_zero _)⟩
  dsimp only at d1 d2 d3
  subst d2 d3
  have c1 : S.ns ≤ S.ns := Nat.le_refl _
  have E := ((g1.trans g2).trans g3).ends (Ends.one (b := C2) fun m => by
    dsimp only
    rw [jX2_forgetLatestO_33, jX2_forgetLatestI_33, d1.2.1.2.2.2.1.1, d4.1.ns]
    simp (disch := omega) only [nI_leI, eq_true c1, ↓reduceIte, not_true_eq_false, not_false_eq_true, true_imp_iff, false_imp_iff, implies_true, and_true, true_and, eq_self])
  obtain ⟨r1, r2⟩ := E.use (f := FU) (by rw [FU_eq]; omega)
  have r2' : jX2_forgetLatestI FU 0 0 C = C2 := r2
  rw [r2']
  have cnE : S2.cn S2.pl S2.does S2.tick = S.cn S.pl S.does S.tick := by unfold St.cn; rw [d4.2.1, d4.1.does, d5, d4.1.ns]
  obtain ⟨u1, u2⟩ := counting_M d1.mb (t := S2.tick) d1.1.2.2.1.1
  have k4 : Go tF tO 1 (1, nI S.ns, 0, 0, M2) (2, nI (S.cn S.pl S.does S.tick), nI 0, 0, M2) := Go.one fun m => by
    dsimp only [tF, tO]
    rw [jX12_oneTickO_25, jX12_oneTickI_25, d1.2.2.2.2.1.1, d4.1.ns, d1.2.2.2.2.2.2.2.1.2.1, u2, cnE]
    simp (disch := omega) only [nI_leI, eq_true c1, eq_true u1, ↓reduceIte, not_true_eq_false, not_false_eq_true, true_imp_iff, false_imp_iff, implies_true, and_true, true_and, eq_self]
    first | exact id | exact ⟨id, rfl⟩
  -- NEEDS
  unfold jX2_passNeedsK jX2_passNeeds
  obtain ⟨⟨w3, C3⟩, ⟨q3, x3, y3, z3, M3⟩, ⟨S3, e1, e2, rfl, rfl, e3, rfl, e4, e5, e6, e7⟩, g5, k5⟩ := Go.loop2 (F := fun m (t : Int32 × IM) => jX2_passNeedsI m t.1 t.2) (O := fun m t => jX2_passNeedsO m t.1 t.2) (F2 := tF) (O2 := tO) (B := 1) (B2 := 1)
    (P := fun k t u => ∃ S1 : St, RR T S1 t.2 u.2.2.2.2 ∧ t.1 = nI k ∧ u.1 = 2 ∧ u.2.1 = nI (S.cn S.pl S.does S.tick) ∧ u.2.2.1 = nI k ∧ u.2.2.2.1 = 0 ∧ SameD S S1 ∧ S1.tick = S.tick ∧ S1.lent = S.lent ∧ ∀ s, k ≤ s → s < S.ns → S1.slt s = 0) S.ns
    (fun k hk t u htu => by
      obtain ⟨w1, C1⟩ := t
      obtain ⟨q1, x1, y1, z1, M1⟩ := u
      obtain ⟨S1, a1, b1, b2, b3, b4, b5, a4, a5, a6, a7⟩ := htu
      dsimp only at b1 b2 b3 b4 b5 a1
      subst b1 b2 b3 b4 b5
      have ns1 := a4.1.ns
      have hk1 : k < S1.ns := by rw [ns1]; exact hk
      have c0 : ¬ S.ns ≤ k := by omega
      have v : vp_in (nI k) 8 := (vp_nI (by omega)).mpr (by omega)
      have wn := wayNow_C a1 hk1
      have hcn : S1.cn S1.pl S1.does S1.tick = S.cn S.pl S.does S.tick := by unfold St.cn; rw [a4.2.1, a4.1.does, a5, a4.1.ns]
      obtain ⟨m1, m2⟩ := wayNow_M a1 hk1 (P := S1.pl) (D := S1.does) (t := S1.tick) rfl
      rw [hcn] at m1 m2
      have n512 := now_512 a1.1 hk1
      have z : (nI (S1.now k) = 0) = (S1.now k = 0) := propext (nI_eq (b := 0) (by omega) (by omega))
      by_cases hz : S1.now k = 0
      · refine ⟨(nI (k + 1), C1), (2, nI (S.cn S.pl S.does S.tick), nI (k + 1), 0, M1), ⟨S1, a1, rfl, rfl, rfl, rfl, rfl, a4, a5, a6, fun s q1 q2 => a7 s (by omega) q2⟩, Go.one fun m => ?_, Go.one fun m => ?_⟩
        · dsimp only
          rw [jX2_passNeedsO_2, jX2_passNeedsI_2, a1.2.1.2.2.2.1.1, ns1, nI_clamp (n := k) (by omega), wn, nI_1]
          simp (disch := omega) only [nI_leI, eq_false c0, eq_true v, z, eq_true hz, ↓reduceIte, not_true_eq_false, not_false_eq_true, true_imp_iff, false_imp_iff, implies_true, and_true, true_and, eq_self]
          first | exact id | exact ⟨id, rfl⟩
        · dsimp only [tF, tO]
          rw [jX12_oneTickO_57, jX12_oneTickI_57, a1.2.2.2.2.1.1, ns1, nI_1 k]
          by_cases hh : hs (nI (S.cn S.pl S.does S.tick)) (nI k)
          · obtain ⟨n1, n2⟩ := m1 hh
            rw [n2]
            simp (disch := omega) only [nI_leI, eq_false c0, eq_true hh, eq_true n1, z, eq_true hz, ↓reduceIte, not_true_eq_false, not_false_eq_true, true_imp_iff, false_imp_iff, implies_true, and_true, true_and, eq_self]
            first | exact id | exact ⟨id, rfl⟩
          · simp (disch := omega) only [nI_leI, eq_false c0, eq_false hh, ↓reduceIte, not_true_eq_false, not_false_eq_true, true_imp_iff, false_imp_iff, implies_true, and_true, true_and, eq_self]
            first | exact id | exact ⟨id, rfl⟩
      · obtain ⟨l1, l2, l3, l4, l5, l6, S', l7, l8, l9, l10, l11⟩ := needs_step hT a1 hk1 (a7 k (Nat.le_refl _) hk) hz
        have hh : hs (nI (S.cn S.pl S.does S.tick)) (nI k) := by
          by_cases q : hs (nI (S.cn S.pl S.does S.tick)) (nI k)
          · exact q
          · exact absurd (m2 q) hz
        obtain ⟨n1, n2⟩ := m1 hh
        obtain ⟨nd1, nd2⟩ := need_M a1.1 a1.2.2 hk1
        have wo := wt_ok a1.1 hk1
        have nd := need_rt a1.1 hk1
        have lf := lft_le (S := S1) (x := S1.now k) (b := 50) S1.nl
        refine ⟨(nI (k + 1), jX2_pass C1 k (nI (S1.now k)) (nI (S1.nds k))), (2, nI (S.cn S.pl S.does S.tick), nI (k + 1), 0, jX12_passes M1 (nI k) (nI (S1.now k)) (nI (S1.nds k))), ⟨S', l7, rfl, rfl, rfl, rfl, rfl, a4.trans l8, l9.trans a5, l10.trans a6, fun s q1 q2 => ?_⟩, Go.one fun m => ?_, Go.one fun m => ?_⟩
        · rw [l11, put_ne _ _ (by omega)]; exact a7 s (by omega) q2
        · dsimp only
          rw [jX2_passNeedsO_2, jX2_passNeedsI_2, a1.2.1.2.2.2.1.1, ns1, nI_clamp (n := k) (by omega), wn, l5, nI_1]
          rw [l5] at l2
          simp (disch := omega) only [nI_leI, eq_false c0, eq_true v, z, eq_false hz, eq_true l1, eq_true l2, ↓reduceIte, not_true_eq_false, not_false_eq_true, true_imp_iff, false_imp_iff, implies_true, and_true, true_and, eq_self]
          first | exact id | exact ⟨id, rfl⟩
        · dsimp only [tF, tO]
          rw [jX12_oneTickO_57, jX12_oneTickI_57, a1.2.2.2.2.1.1, ns1, nI_clamp (n := k) (by omega), n2, nd2, l4, (a1.2.2.2.2.2.1 k (by omega)).1, nI_1 k]
          by_cases q1 : S1.need k ≤ S1.wt k
          · by_cases q2 : S1.need k ≤ S1.lft (S1.now k) 50 S1.nl
            · have e : S1.nds k = S1.need k := by unfold St.nds; omega
              rw [e] at l6 ⊢
              simp (disch := omega) only [nI_leI, eq_false c0, eq_true hh, eq_true n1, z, eq_false hz, eq_true v, eq_true nd1, eq_true l3, eq_true q1, eq_true q2, eq_true l6, ↓reduceIte, not_true_eq_false, not_false_eq_true, true_imp_iff, false_imp_iff, implies_true, and_true, true_and, eq_self]
              first | exact id | exact ⟨id, rfl⟩
            · have e : S1.nds k = S1.lft (S1.now k) 50 S1.nl := by unfold St.nds; omega
              rw [e] at l6 ⊢
              simp (disch := omega) only [nI_leI, eq_false c0, eq_true hh, eq_true n1, z, eq_false hz, eq_true v, eq_true nd1, eq_true l3, eq_true q1, eq_false q2, eq_true l6, ↓reduceIte, not_true_eq_false, not_false_eq_true, true_imp_iff, false_imp_iff, implies_true, and_true, true_and, eq_self]
              first | exact id | exact ⟨id, rfl⟩
          · by_cases q2 : S1.wt k ≤ S1.lft (S1.now k) 50 S1.nl
            · have e : S1.nds k = S1.wt k := by unfold St.nds; omega
              rw [e] at l6 ⊢
              simp (disch := omega) only [nI_leI, eq_false c0, eq_true hh, eq_true n1, z, eq_false hz, eq_true v, eq_true nd1, eq_true l3, eq_false q1, eq_true q2, eq_true l6, ↓reduceIte, not_true_eq_false, not_false_eq_true, true_imp_iff, false_imp_iff, implies_true, and_true, true_and, eq_self]
              first | exact id | exact ⟨id, rfl⟩
            · have e : S1.nds k = S1.lft (S1.now k) 50 S1.nl := by unfold St.nds; omega
              rw [e] at l6 ⊢
              simp (disch := omega) only [nI_leI, eq_false c0, eq_true hh, eq_true n1, z, eq_false hz, eq_true v, eq_true nd1, eq_true l3, eq_false q1, eq_false q2, eq_true l6, ↓reduceIte, not_true_eq_false, not_false_eq_true, true_imp_iff, false_imp_iff, implies_true, and_true, true_and, eq_self]
              first | exact id | exact ⟨id, rfl⟩)
    ((nI 0, C2) : Int32 × IM) ((2, nI (S.cn S.pl S.does S.tick), nI 0, 0, M2) : Nat × Int32 × Int32 × Int32 × IM) ⟨S2, d1, rfl, rfl, rfl, rfl, rfl, d4, d5, d6, fun s _ q2 => d7 s q2⟩
  dsimp only at e1 e2 e3
  subst e2 e3
  have E2 := g5.ends (Ends.one (b := C3) fun m => by
    dsimp only
    rw [jX2_passNeedsO_2, jX2_passNeedsI_2, e1.2.1.2.2.2.1.1, e4.1.ns]
    simp (disch := omega) only [nI_leI, eq_true c1, ↓reduceIte, not_true_eq_false, not_false_eq_true, true_imp_iff, false_imp_iff, implies_true, and_true, true_and, eq_self])
  obtain ⟨r3, r4⟩ := E2.use (f := FU) (by rw [FU_eq]; omega)
  have r4' : jX2_passNeedsI FU 0 C2 = C3 := r4
  rw [r4']
  exact ⟨r1, r3, S3, M3, e1, e4, e5, e6, (((((k1.trans k2).trans k3).trans k4).trans k5)).le (by omega)⟩
end DAY
end
