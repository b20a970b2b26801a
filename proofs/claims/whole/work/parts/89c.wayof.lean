noncomputable section
/-- a WAY goes to no NODE that it has met -/
theorem path_avoid {S : St} {b z : Nat} : ∀ (p : List Nat) (x seen : Nat), S.path x seen b p → seen.testBit z = true → z ≠ x → (nodesOf S x p).testBit z = false
  | [], x, seen, _, _, h => by unfold nodesOf; rw [pow_bit]; simp; omega
  | l :: p, x, seen, ⟨h1, h2, y, h3, h4, h5⟩, hz, hx => by
    have hy : z ≠ y := fun e => by rw [e, h4] at hz; exact absurd hz (by decide)
    unfold nodesOf
    rw [h3, Option.getD_some, Nat.testBit_or, pow_bit, path_avoid p y _ h5 (by rw [Nat.testBit_or, hz, Bool.true_or]) hy]
    simp; omega
/-- of the LINES ahead only the next one ends here -/
theorem path_only {S : St} {b x y seen l : Nat} {p : List Nat} (h3 : S.oth l x = some y) (h4 : seen.testBit y = false) (hx : seen.testBit x = true) (h5 : S.path y (seen ||| 2 ^ y) b p) {m : Nat} (hm : m ∈ p) : S.oth m x = none := by
  have hp : p ≠ [] := fun e => by rw [e] at hm; exact absurd hm List.not_mem_nil
  have hxy : x ≠ y := fun e => by rw [e, h4] at hx; exact absurd hx (by decide)
  have h6 := path_avoid (z := x) p y _ h5 (by rw [Nat.testBit_or, hx, Bool.true_or]) hxy
  have h7 := nodes_mem p y _ h5 hp x
  have h8 : ¬ (x = S.ea m ∨ x = S.eb m) := fun q => by
    have := h7.mpr ⟨m, hm, q⟩
    rw [h6] at this; exact absurd this (by decide)
  unfold St.oth
  rw [if_neg (fun e => h8 (.inl e)), if_neg (fun e => h8 (.inr e))]
theorem path_fresh {S : St} {b x y seen l : Nat} {p : List Nat} (h3 : S.oth l x = some y) (h4 : seen.testBit y = false) (hx : seen.testBit x = true) (h5 : S.path y (seen ||| 2 ^ y) b p) : l ∉ p := fun hm => by
  have := path_only h3 h4 hx h5 hm
  rw [h3] at this; cases this
theorem pop9_add {s y : Nat} (hy : y < 9) (h : s.testBit y = false) : pop9 (2 ^ y ||| s) = pop9 s + 1 := by
  have := sm_one (f := fun a => if (2 ^ y ||| s).testBit a = true then 1 else 0) (g := fun a => if s.testBit a = true then 1 else 0) (k := y) 9 hy (fun i hi hne => by
    have : (2 ^ y).testBit i = false := by rw [pow_bit, decide_eq_false (fun q => hne q.symm)]
    simp [Nat.testBit_or, this])
  simp only [Nat.testBit_or, pow_bit, h] at this
  unfold pop9
  simp only [Nat.testBit_or, pow_bit]
  simpa using this
theorem path_pop {S : St} (h9 : S.nl ≤ 9) {b : Nat} : ∀ (p : List Nat) (x seen : Nat), S.path x seen b p → seen.testBit x = true → pop9 (setOf p) = p.length
  | [], _, _, _, _ => rfl
  | l :: p, x, seen, ⟨h1, h2, y, h3, h4, h5⟩, hx => by
    have hf := path_fresh h3 h4 hx h5
    have hb : (setOf p).testBit l = false := by
      cases e : (setOf p).testBit l
      · rfl
      · exact absurd ((mem_set p l).mp e) hf
    show pop9 (2 ^ l ||| setOf p) = p.length + 1
    rw [pop9_add (by omega) hb, path_pop h9 p y _ h5 (by rw [Nat.testBit_or, pow_bit]; simp)]
theorem path_len {S : St} (hN : S.netOk) {a b : Nat} (ha : a < S.nn) {p : List Nat} (h : S.path a (2 ^ a) b p) : p.length ≤ 5 ∧ ∀ l ∈ p, l < 9 := by
  have key : ∀ (q : List Nat) (x seen : Nat) (r : List Nat), Pre S a b x seen r → S.path x seen b q → ∃ y s', Pre S a b y s' (r ++ q) := by
    intro q
    induction q with
    | nil => intro x seen r hr _; exact ⟨x, seen, by rw [List.append_nil]; exact hr⟩
    | cons l q ih =>
      rintro x seen r hr ⟨h1, h2, y, h3, h4, h5⟩
      obtain ⟨y', s', hp⟩ := ih y _ (r ++ [l]) (hr.snoc h1 h2 h3 h4) h5
      exact ⟨y', s', by rw [List.append_assoc] at hp; exact hp⟩
  obtain ⟨y, s', hp⟩ := key p a (2 ^ a) [] Pre.nil h
  rw [List.nil_append] at hp
  exact ⟨hp.len hN ha, fun l hl => by have := (hp.pop hN ha).2.2.2 l hl; have := hN.2.1; omega⟩
section SIM
variable {T : Topo} {S : St} {C M : IM}
theorem lineFrom_C (hN : S.netOk) (hC : cNet S C) {x s : Nat} (hx : x < 2 ^ 31) (hs : s < 512) {r : Option Nat} (h0 : ∀ m, r = some m → m < S.nl ∧ s.testBit m = true ∧ (S.oth m x).isSome = true) (h1 : ∀ l, l < S.nl → s.testBit l = true → (S.oth l x).isSome = true → r = some l) : jX5_lineFromK C (nI x) (nI s) ∧ jX5_lineFrom C (nI x) (nI s) = match r with | none => -1 | some m => nI m := by
  have h9 := hN.2.1
  have h6 := hN.1
  unfold jX5_lineFromK jX5_lineFrom
  have skip : ∀ l, l < S.nl → r ≠ some l → ∀ n, (jX5_lineFromO (nI x) (nI s) n (nI (l + 1)) C → jX5_lineFromO (nI x) (nI s) (n + 1) (nI l) C) ∧ jX5_lineFromI (nI x) (nI s) (n + 1) (nI l) C = jX5_lineFromI (nI x) (nI s) n (nI (l + 1)) C := by
    intro l hl hr n
    have v : vp_in (nI l) 9 := (vp_nI (by omega)).mpr (by omega)
    have c0 : ¬ S.nl ≤ l := by omega
    rw [jX5_lineFromO_2, jX5_lineFromI_2, hC.2.1, nI_clamp (by omega), jOther_S hN hC hl hx, nI_1]
    by_cases c : s.testBit l = true
    · have c2 : S.oth l x = none := by
        cases e : S.oth l x
        · rfl
        · exact absurd (h1 l hl c (by rw [e]; rfl)) hr
      have c3 : (-1 : Int32) < 0 := by decide
      rw [c2]
      simp (disch := omega) only [nI_leI, hs_nI, eq_false c0, eq_true c, eq_true c3, eq_true v, ↓reduceIte, not_true_eq_false, not_false_eq_true, true_imp_iff, false_imp_iff, implies_true, and_true, true_and, eq_self]
      first | exact id | exact ⟨id, rfl⟩
    · simp (disch := omega) only [nI_leI, hs_nI, eq_false c0, eq_false c, eq_true v, ↓reduceIte, not_true_eq_false, not_false_eq_true, true_imp_iff, false_imp_iff, implies_true, and_true, true_and, eq_self]
      first | exact id | exact ⟨id, rfl⟩
  cases r with
  | none =>
    have E : Ends (fun n (t : Int32) => jX5_lineFromI (nI x) (nI s) n t C) (fun n t => jX5_lineFromO (nI x) (nI s) n t C) (S.nl * 1 + 1) (nI 0) (-1) := by
      refine Go.ends (Go.loop (a := fun k => nI k) S.nl fun l hl => Go.one (skip l hl (fun q => by cases q))) (Ends.one fun n => ?_)
      have c0 : S.nl ≤ S.nl := Nat.le_refl _
      rw [jX5_lineFromO_2, jX5_lineFromI_2, hC.2.1]
      simp (disch := omega) only [nI_leI, eq_true c0, ↓reduceIte, not_true_eq_false, not_false_eq_true, true_imp_iff, false_imp_iff, implies_true, and_true, true_and, eq_self]
    exact E.use (by rw [FU_eq]; omega)
  | some m =>
    obtain ⟨q1, q2, q3⟩ := h0 m rfl
    have E : Ends (fun n (t : Int32) => jX5_lineFromI (nI x) (nI s) n t C) (fun n t => jX5_lineFromO (nI x) (nI s) n t C) (m * 1 + 1) (nI 0) (nI m) := by
      refine Go.ends (Go.loop (a := fun k => nI k) m fun l hl => Go.one (skip l (by omega) (fun q => by cases q; omega))) (Ends.one fun n => ?_)
      have v : vp_in (nI m) 9 := (vp_nI (by omega)).mpr (by omega)
      have c0 : ¬ S.nl ≤ m := by omega
      rw [jX5_lineFromO_2, jX5_lineFromI_2, hC.2.1, nI_clamp (by omega), jOther_S hN hC q1 hx]
      cases e : S.oth m x with
      | none => rw [e] at q3; cases q3
      | some y =>
        have := (oth_lt hN q1 e).1
        have c3 : ¬ nI y < 0 := nI_pos (by omega)
        simp (disch := omega) only [nI_leI, hs_nI, eq_false c0, eq_true q2, eq_false c3, eq_true v, ↓reduceIte, not_true_eq_false, not_false_eq_true, true_imp_iff, false_imp_iff, implies_true, and_true, true_and, eq_self]
    exact E.use (by rw [FU_eq]; omega)
/-- along a WAY -/
theorem along_C (hN : S.netOk) (hC : cNet S C) (a1 a2 : Int32) {b k : Nat} (hk : k < 2 ^ 31) : ∀ (q : List Nat) (x seen j : Nat) (v6 : Int32), S.path x seen b q → seen.testBit x = true → x < S.nn → j + q.length ≤ 5 → j ≤ k + 1 → Ends (fun n (s : Int32 × Int32 × Int32 × Int32) => jX5_lineAlongI a1 a2 (nI k) n s.1 s.2.1 s.2.2.1 s.2.2.2 C) (fun n s => jX5_lineAlongO a1 a2 (nI k) n s.1 s.2.1 s.2.2.1 s.2.2.2 C) (q.length + 1) (nI x, nI (setOf q), v6, nI j) (if j = k + 1 then v6 else if k < j + q.length then nI (q.getD (k - j) 0) else -1)
  | [], x, seen, j, v6, h, hx, hn, hj, hjk => by
    have h6 := hN.1
    refine (Ends.one fun n => ?_).le (by simp)
    dsimp only
    rw [jX5_lineAlongO_12, jX5_lineAlongI_12]
    by_cases c : j = k + 1
    · have c1 : nI k < nI j := nI_lt (by omega) (by simp at hj; omega)
      have c2 : ¬ (9 : Int32) ≤ nI k := by rw [li9]; exact nI_ge (by simp at hj; omega) (by omega)
      rw [if_pos c]
      simp only [eq_true c1, eq_false c2, ↓reduceIte, not_true_eq_false, not_false_eq_true, true_imp_iff, false_imp_iff, implies_true, and_true, true_and, eq_self]
    · have c1 : ¬ nI k < nI j := nI_nlt (by omega) hk
      have c2 : ¬ (9 : Int32) ≤ nI j := by rw [li9]; exact nI_ge (by simp at hj; omega) (by omega)
      obtain ⟨l1, l2⟩ := lineFrom_C hN hC (x := x) (s := setOf []) (r := none) (by omega) (by decide) (fun m q => by cases q) (fun l _ q => by simp [setOf] at q)
      have l2' : jX5_lineFrom C (nI x) (nI (setOf [])) = -1 := l2
      have c3 : ¬ (0 : Int32) ≤ -1 := by decide
      rw [if_neg c, if_neg (show ¬ k < j + ([] : List Nat).length by show ¬ k < j + 0; omega), l2']
      simp only [eq_false c1, eq_false c2, eq_false c3, eq_true l1, ↓reduceIte, not_true_eq_false, not_false_eq_true, true_imp_iff, false_imp_iff, implies_true, and_true, true_and, eq_self]
  | m :: q, x, seen, j, v6, ⟨h1, h2, y, h3, h4, h5⟩, hx, hn, hj, hjk => by
    have h6 := hN.1
    have h9 := hN.2.1
    have hj' : j + (q.length + 1) ≤ 5 := hj
    by_cases c : j = k + 1
    · refine (Ends.one fun n => ?_).le (by simp)
      dsimp only
      have c1 : nI k < nI j := nI_lt (by omega) (by omega)
      have c2 : ¬ (9 : Int32) ≤ nI k := by rw [li9]; exact nI_ge (by omega) (by omega)
      rw [jX5_lineAlongO_12, jX5_lineAlongI_12, if_pos c]
      simp only [eq_true c1, eq_false c2, ↓reduceIte, not_true_eq_false, not_false_eq_true, true_imp_iff, false_imp_iff, implies_true, and_true, true_and, eq_self]
    · have hy := (oth_lt hN h2 h3).1
      have ih := along_C hN hC a1 a2 hk q y (seen ||| 2 ^ y) (j + 1) (nI m) h5 (by rw [Nat.testBit_or, pow_bit]; simp) hy (by omega) (by omega)
      have s9 : setOf (m :: q) < 512 := Nat.lt_of_lt_of_le (path_set (m :: q) x seen ⟨h1, h2, y, h3, h4, h5⟩) (show 2 ^ S.nl ≤ 2 ^ 9 from Nat.pow_le_pow_right (by decide) h9)
      obtain ⟨l1, l2⟩ := lineFrom_C hN hC (x := x) (s := setOf (m :: q)) (r := some m) (by omega) s9 (fun m' e => by cases e; exact ⟨h2, (mem_set _ _).mpr List.mem_cons_self, by rw [h3]; rfl⟩) (fun l _ q1 q2 => by
        rcases List.mem_cons.mp ((mem_set _ _).mp q1) with e | e
        · rw [e]
        · rw [path_only h3 h4 hx h5 e] at q2; cases q2)
      have l2' : jX5_lineFrom C (nI x) (nI (setOf (m :: q))) = nI m := l2
      have c1 : ¬ nI k < nI j := nI_nlt (by omega) hk
      have c2 : ¬ (9 : Int32) ≤ nI j := by rw [li9]; exact nI_ge (by omega) (by omega)
      have c3 : (0 : Int32) ≤ nI m := nI_pos' (by omega)
      have v : vp_in (nI m) 9 := (vp_nI (by omega)).mpr (by omega)
      obtain ⟨d, d1, d2, d3⟩ := clr_nI (n := setOf (m :: q)) (k := m) (by omega) (by omega)
      have hd : d = setOf q := set_eq fun z => by
        rw [d3]
        have hf := path_fresh h3 h4 hx h5
        rw [show setOf (m :: q) = 2 ^ m ||| setOf q from rfl, Nat.testBit_or, pow_bit]
        by_cases e : z = m
        · subst e
          have : (setOf q).testBit z = false := by
            cases e' : (setOf q).testBit z
            · rfl
            · exact absurd ((mem_set q z).mp e') hf
          simp [this]
        · rw [decide_eq_false (fun e' => e e'.symm), decide_eq_false e]; simp
      have e : (if j = k + 1 then v6 else if k < j + (m :: q).length then nI ((m :: q).getD (k - j) 0) else -1) = if j + 1 = k + 1 then nI m else if k < j + 1 + q.length then nI (q.getD (k - (j + 1)) 0) else -1 := by
        rw [if_neg c, List.length_cons]
        by_cases e1 : j = k
        · rw [if_pos (by omega), if_pos (by omega), e1, Nat.sub_self]; rfl
        · rw [if_neg (by omega : ¬ j + 1 = k + 1)]
          by_cases e2 : k < j + (q.length + 1)
          · rw [if_pos e2, if_pos (by omega), show k - j = k - (j + 1) + 1 by omega]; simp
          · rw [if_neg e2, if_neg (by omega)]
      rw [e]
      refine Ends.le (Go.ends (Go.one fun n => ?_) ih) (by simp; omega)
      dsimp only
      rw [jX5_lineAlongO_12, jX5_lineAlongI_12, l2', d2, hd, nI_clamp (by omega), jOther_S hN hC h2 (by omega), h3, nI_1]
      simp only [eq_false c1, eq_false c2, eq_true c3, eq_true l1, eq_true v, ↓reduceIte, not_true_eq_false, not_false_eq_true, true_imp_iff, false_imp_iff, implies_true, and_true, true_and, eq_self]
      first | exact id | exact ⟨id, rfl⟩
theorem lineAlong_C (hN : S.netOk) (hC : cNet S C) {a b k : Nat} (ha : a < S.nn) (hk : k < 2 ^ 31) {p : List Nat} (h : S.path a (2 ^ a) b p) : jX5_lineAlongK C (nI a) (nI (setOf p)) (nI k) ∧ jX5_lineAlong C (nI a) (nI (setOf p)) (nI k) = if k < p.length then nI (p.getD k 0) else -1 := by
  have hl := path_len hN ha h
  have E := along_C hN hC (nI a) (nI (setOf p)) hk p a (2 ^ a) 0 (-1) h (by rw [pow_bit]; simp) ha (by omega) (by omega)
  obtain ⟨r1, r2⟩ := E.use (f := FU) (by rw [FU_eq]; omega)
  rw [if_neg (by omega), Nat.zero_add, Nat.sub_zero] at r2
  exact ⟨r1, r2⟩
theorem sim_wayOf (hT : PlS T) (hS : S.ok) (hC : RC T S C) (hM : RM S M) (a1 a2 a3 : Int32) : jX11_wayOfK C a1 a2 a3 ∧ jX12_wayOfK M a1 a2 a3 ∧ jX11_wayOf C a1 a2 a3 = jX12_wayOf M a1 a2 a3 ∧ ∃ S' : St, S'.ok ∧ RC T S' (jX11_wayOfM C a1 a2 a3) ∧ RM S' (jX12_wayOfM M a1 a2 a3) := by
  have h8 := hS.2.1.1
  have h9 := hS.1.2.1
  unfold jX11_wayOfK jX12_wayOfK jX11_wayOf jX12_wayOf jX11_wayOfM jX12_wayOfM jX12_finds
  by_cases h : ∃ j, j < S.ns ∧ a1 = nI j
  · have e1 := (sl_C hS hC a1).mpr h
    have e2 := (sl_M hS hM a1).mpr h
    obtain ⟨j, hj, rfl⟩ := h
    have v : vp_in (nI j) 8 := (vp_nI (by omega)).mpr (by omega)
    have i1 := in_C hS hC (j := j) (by omega)
    have i2 := in_M hM (j := j) (by omega)
    have hsl := hS.2.1.2.1 j hj
    rw [nI_clamp (by omega)]
    by_cases c3 : 0 ≤ a3
    · by_cases c : S.pl j = 0
      · have d1 : ¬ inS C j := fun q => i1.mp q c
        have d2 := i2.mpr c
        simp only [eq_true e1, eq_true e2, eq_true c3, eq_false d1, eq_true d2, eq_true v, ↓reduceIte, not_true_eq_false, not_false_eq_true, true_imp_iff, false_imp_iff, implies_true, and_true, true_and, eq_self]
        exact bad hT hS hC hM
      · have d1 := i1.mpr c
        have d2 : ¬ M 106 j = 0 := fun q => c (i2.mp q)
        obtain ⟨k, hk, rfl⟩ := nI_of (Int32.not_lt.mpr c3)
        obtain ⟨-, m1, m2, -, w, u, x, pp, pe, m3, m4⟩ := (hM.2.2.2.2.1 j (by omega)).2 c
        obtain ⟨p1, p2, p3, p4⟩ := id pp
        have hl := pl_lt hS (j := j) (by omega)
        have k0 : 2 ^ S.nl ≤ 2 ^ 9 := Nat.pow_le_pow_right (by decide) h9
        have w9 := path_set _ _ _ p1
        have u9 : setOf u < 2 ^ S.nl := by
          by_cases c2 : S.kd j = 1
          · exact path_set _ _ _ (p4 c2).1
          · rw [p3 c2]; exact Nat.two_pow_pos _
        have ew : wayN (S.pl j) = setOf w := by rw [pe]; simp only [wayN, placeN]; omega
        have eu : spaN (S.pl j) = setOf u := by rw [pe]; simp only [spaN, placeN]; omega
        simp only [eq_true e1, eq_true e2, eq_true c3, eq_true d1, eq_false d2, eq_true v, ↓reduceIte, not_true_eq_false, not_false_eq_true, true_imp_iff, false_imp_iff, implies_true, and_true, true_and, eq_self]
        rw [hC.2.2.2.2.2.1 j (by omega), (hC.2.2.2.1.2 j (by omega)).2.1, way_nI (by omega), spa_nI (by omega), m1, m2, m3, m4, ew, eu, (hM.2.2.1.2 j (by omega)).1]
        by_cases c2 : a2 = 0
        · obtain ⟨l1, l2⟩ := lineAlong_C hS.1 hC.1 hsl.2.1 hk p1
          obtain ⟨o1, o2⟩ := ones_M M (n := setOf w) (by omega)
          rw [path_pop h9 w _ _ p1 (by rw [pow_bit]; simp)] at o2
          obtain ⟨hl5, hl9⟩ := path_len hS.1 hsl.2.1 p1
          obtain ⟨g1, g2⟩ := digit_M M hl5 hl9 hk
          rw [o2, l2, g2]
          simp only [eq_true c2, eq_true l1, eq_true o1, eq_true g1, ↓reduceIte, not_true_eq_false, not_false_eq_true, true_imp_iff, false_imp_iff, implies_true, and_true, true_and, eq_self]
          exact ⟨S, hS, hC, hM⟩
        · obtain ⟨k1, k2⟩ := isOf_C hS hC hj (k := 1) (by omega)
          have k1' : jX8_isOfK C j 1 := k1
          have k2' : jX8_isOf C j 1 = if S.kd j = 1 then 1 else 0 := by
            rw [show jX8_isOf C j 1 = _ from k2]
            by_cases q : S.kd j = 1
            · rw [if_pos q, if_pos (.inl q.symm)]
            · rw [if_neg q, if_neg (by omega)]
          have g3 : (nI (S.kd j) = 1) = (S.kd j = 1) := propext (nI_eq (b := 1) (by omega) (by omega))
          rw [k2']
          by_cases q : S.kd j = 1
          · obtain ⟨l1, l2⟩ := lineAlong_C hS.1 hC.1 hsl.2.1 hk (p4 q).1
            obtain ⟨o1, o2⟩ := ones_M M (n := setOf u) (by omega)
            rw [path_pop h9 u _ _ (p4 q).1 (by rw [pow_bit]; simp)] at o2
            obtain ⟨hl5, hl9⟩ := path_len hS.1 hsl.2.1 (p4 q).1
            obtain ⟨g1, g2⟩ := digit_M M hl5 hl9 hk
            have z : ¬ (1 : Int32) = 0 := by decide
            rw [o2, l2, g2, if_pos q]
            simp only [eq_false c2, g3, eq_true q, eq_false z, eq_true k1', eq_true l1, eq_true o1, eq_true g1, ↓reduceIte, not_true_eq_false, not_false_eq_true, true_imp_iff, false_imp_iff, implies_true, and_true, true_and, eq_self]
            exact ⟨S, hS, hC, hM⟩
          · rw [if_neg q]
            simp only [eq_false c2, g3, eq_false q, eq_true k1', ↓reduceIte, not_true_eq_false, not_false_eq_true, true_imp_iff, false_imp_iff, implies_true, and_true, true_and, eq_self]
            exact bad hT hS hC hM
    · simp only [eq_true e1, eq_true e2, eq_false c3, ↓reduceIte, not_true_eq_false, not_false_eq_true, true_imp_iff, false_imp_iff, implies_true, and_true, true_and, eq_self]
      exact bad hT hS hC hM
  · have e1 := mt (sl_C hS hC a1).mp h
    have e2 := mt (sl_M hS hM a1).mp h
    simp only [eq_false e1, eq_false e2, ↓reduceIte, not_true_eq_false, not_false_eq_true, true_imp_iff, false_imp_iff, implies_true, and_true, true_and, eq_self]
    exact bad hT hS hC hM
end SIM
end
