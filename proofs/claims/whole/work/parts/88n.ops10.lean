noncomputable section
theorem and_or0 (x y z : Nat) : x &&& (y ||| z) = 0 ↔ x &&& y = 0 ∧ x &&& z = 0 := by
  rw [Nat.and_or_distrib_left]
  exact Nat.or_eq_zero_iff
theorem and_bits {x d n : Nat} (hd : d < 2 ^ n) : x &&& d = 0 ↔ ∀ l, l < n → x.testBit l = true → ¬ d.testBit l = true := by
  constructor
  · intro h l _ h1 h2
    have := congrArg (fun y => Nat.testBit y l) h
    simp only [Nat.testBit_and, h1, h2, Nat.zero_testBit] at this
    exact absurd this (by decide)
  · intro h
    refine set_eq fun l => ?_
    rw [Nat.testBit_and, Nat.zero_testBit]
    by_cases q : l < n
    · by_cases c : x.testBit l = true
      · have := h l q c; simp [this]
      · simp [c]
    · rw [bit_no hd (by omega)]; simp
/-- the TAKEN WAY of a PLACE when LINES are DOWN -/
def tak (p d : Nat) : Nat := if wayN p &&& d = 0 then wayN p else if spaN p &&& d = 0 then spaN p else 0
section SIM
variable {T : Topo} {S : St} {C M : IM}
theorem areUp_3 (hN : S.netOk) (m1 : mNet S M) {x : Nat} (hx : x < 2 ^ 31) : jX12_areUpK M (nI x) ∧ jX12_areUp M (nI x) = if x &&& S.dn = 0 then 1 else 0 := by
  have h9 := hN.2.1
  unfold jX12_areUpK jX12_areUp
  obtain ⟨A, B⟩ := Go.loopX (F := fun n (s : Int32) => jX12_areUpI (nI x) n s M) (O := fun n s => jX12_areUpO (nI x) n s M) (B := 1) (a := fun k => nI k) (ok := fun l => x.testBit l = true → ¬ S.dn.testBit l = true) (b0 := (0 : Int32)) (b1 := (1 : Int32)) S.nl S.nl 0 (by omega)
    (fun l hl c => Go.one fun n => by
      have v : vp_in (nI l) 9 := (vp_nI (by omega)).mpr (by omega)
      have c0 : ¬ S.nl ≤ l := by omega
      rw [jX12_areUpO_2, jX12_areUpI_2, m1.2.1, nI_clamp (by omega), m1.2.2.2.2 l hl, nI_1]
      by_cases c1 : x.testBit l = true
      · have c2 := c c1
        have c3 : ¬ (1 : Int32) = 0 := by decide
        rw [if_neg c2]
        simp (disch := omega) only [nI_leI, hs_nI, eq_false c0, eq_true c1, eq_false c3, eq_true v, ↓reduceIte, not_true_eq_false, not_false_eq_true, true_imp_iff, false_imp_iff, implies_true, and_true, true_and, eq_self]
        first | exact id | exact ⟨id, rfl⟩
      · simp (disch := omega) only [nI_leI, hs_nI, eq_false c0, eq_false c1, eq_true v, ↓reduceIte, not_true_eq_false, not_false_eq_true, true_imp_iff, false_imp_iff, implies_true, and_true, true_and, eq_self]
        first | exact id | exact ⟨id, rfl⟩)
    (fun l hl c => Ends.one fun n => by
      have v : vp_in (nI l) 9 := (vp_nI (by omega)).mpr (by omega)
      have c0 : ¬ S.nl ≤ l := by omega
      have c1 : x.testBit l = true := by
        by_cases q : x.testBit l = true
        · exact q
        · exact absurd (fun q' => absurd q' q) c
      have c2 : S.dn.testBit l = true := by
        by_cases q : S.dn.testBit l = true
        · exact q
        · exact absurd (fun _ => q) c
      rw [jX12_areUpO_2, jX12_areUpI_2, m1.2.1, nI_clamp (by omega), m1.2.2.2.2 l hl, nI_1, if_pos c2]
      simp (disch := omega) only [nI_leI, hs_nI, eq_false c0, eq_true c1, eq_true v, ↓reduceIte, not_true_eq_false, not_false_eq_true, true_imp_iff, false_imp_iff, implies_true, and_true, true_and, eq_self])
    (Ends.one fun n => by
      have c0 : S.nl ≤ S.nl := Nat.le_refl _
      rw [jX12_areUpO_2, jX12_areUpI_2, m1.2.1]
      simp (disch := omega) only [nI_leI, eq_true c0, ↓reduceIte, not_true_eq_false, not_false_eq_true, true_imp_iff, false_imp_iff, implies_true, and_true, true_and, eq_self])
  by_cases c : x &&& S.dn = 0
  · obtain ⟨r1, r2⟩ := (A fun j _ q => (and_bits hN.2.2.2.1).mp c j q).use (f := FU) (by rw [FU_eq]; omega)
    rw [if_pos c]
    exact ⟨r1, r2⟩
  · obtain ⟨r1, r2⟩ := (B fun q => c ((and_bits hN.2.2.2.1).mpr fun j hj => q j (Nat.zero_le _) hj)).use (f := FU) (by rw [FU_eq]; omega)
    rw [if_neg c]
    exact ⟨r1, r2⟩
theorem areUp_val (hN : S.netOk) (m1 : mNet S M) {x : Nat} (hx : x < 2 ^ S.nl) : jX12_areUp M (nI x) = if x &&& S.dn = 0 then 1 else 0 := by
  have h9 := hN.2.1
  exact (areUp_3 hN m1 (Nat.lt_of_lt_of_le hx (Nat.pow_le_pow_right (by decide) (by omega)))).2
theorem areUp_M (hN : S.netOk) (m1 : mNet S M) {x : Nat} (hx : x < 2 ^ 31) : jX12_areUpK M (nI x) ∧ (jX12_areUp M (nI x) = 0 ↔ ¬ x &&& S.dn = 0) := by
  obtain ⟨h1, h2⟩ := areUp_3 hN m1 hx
  refine ⟨h1, ?_⟩
  rw [h2]
  split
  · rename_i c; exact ⟨fun q => absurd q (by decide), fun q => absurd c q⟩
  · rename_i c; exact ⟨fun _ => c, fun _ => rfl⟩
theorem taken_C {i p d : Nat} (h : C (17 + 4 * i) 12 = nI p) (hp : p < 2 ^ 31) : jX8_takenWay C i (nI d) = nI (tak p d) := by
  have w9 : wayN p < 512 := Nat.mod_lt _ (by decide)
  have u9 : spaN p < 512 := Nat.mod_lt _ (by decide)
  unfold jX8_takenWay tak
  rw [h, way_nI hp, spa_nI hp]
  by_cases c1 : wayN p &&& d = 0
  · rw [if_pos ((and0 (by omega)).mpr c1), if_pos c1]
  · rw [if_neg (fun q => c1 ((and0 (by omega)).mp q)), if_neg c1]
    by_cases c2 : spaN p &&& d = 0
    · rw [if_pos ((and0 (by omega)).mpr c2), if_pos c2]
    · rw [if_neg (fun q => c2 ((and0 (by omega)).mp q)), if_neg c2, nI_0]
theorem takes_M {P : Nat → Nat} (h : MB S P M) {s : Nat} (hs : s < S.ns) (c : P s ≠ 0) {a2 : Int32} {d : Nat} (ha : (a2 = -1 ∧ d = S.dn) ∨ ∃ l, l < S.nl ∧ a2 = nI l ∧ d = S.dn ||| 2 ^ l) : jX12_takesK M (nI s) a2 ∧ jX12_takes M (nI s) a2 = nI (tak (P s) d) := by
  obtain ⟨hn, hsl, hp, m1, m2, m3⟩ := h
  have h8 := hsl.1
  have h9 := hn.2.1
  have v : vp_in (nI s) 8 := (vp_nI (by omega)).mpr (by omega)
  obtain ⟨-, e1, e2, -, -⟩ := (m3 s (by omega)).2 c
  obtain ⟨e0, -⟩ := m2.2 s (by omega)
  have hk := (hsl.2.1 s hs).1
  have w9 : wayN (P s) < 512 := Nat.mod_lt _ (by decide)
  have u9 : spaN (P s) < 512 := Nat.mod_lt _ (by decide)
  obtain ⟨k1, k2⟩ := areUp_M hn m1 (x := wayN (P s)) (by omega)
  obtain ⟨k3, k4⟩ := areUp_M hn m1 (x := spaN (P s)) (by omega)
  obtain ⟨-, w, u, a, g, -, g1, g2, -⟩ := pl_parts hn hp (show s < 8 by omega) c
  have hu : ¬ S.kd s = 1 → spaN (P s) = 0 := fun q => by rw [g2, g.2.2.1 q]; rfl
  unfold jX12_takesK jX12_takes
  rw [nI_clamp (by omega), e0, e1, e2]
  have g3 : (nI (S.kd s) = 1) = (S.kd s = 1) := propext (nI_eq (b := 1) (by omega) (by omega))
  refine ⟨by simp only [eq_true v, eq_true k1, eq_true k3, ↓reduceIte, not_true_eq_false, not_false_eq_true, true_imp_iff, false_imp_iff, implies_true, and_true, true_and, eq_self], ?_⟩
  have z0 : ∀ y : Int32, (y &&& 0) = 0 := fun y => by rw [Int32.and_zero]
  rcases ha with ⟨rfl, rfl⟩ | ⟨l, hl, rfl, rfl⟩
  · have c0 : ¬ (0 : Int32) ≤ -1 := by decide
    unfold tak
    by_cases q1 : wayN (P s) &&& S.dn = 0
    · have q1' : ¬ jX12_areUp M (nI (wayN (P s))) = 0 := fun q => k2.mp q q1
      simp only [eq_false c0, eq_false q1', z0, eq_true q1, ↓reduceIte, not_true_eq_false, not_false_eq_true, true_imp_iff, false_imp_iff, implies_true, and_true, true_and, eq_self]
    · have q1' : jX12_areUp M (nI (wayN (P s))) = 0 := k2.mpr q1
      by_cases q3 : S.kd s = 1
      · by_cases q2 : spaN (P s) &&& S.dn = 0
        · have q2' : ¬ jX12_areUp M (nI (spaN (P s))) = 0 := fun q => k4.mp q q2
          simp only [eq_false c0, eq_true q1', eq_false q2', z0, eq_false q1, eq_true q2, g3, eq_true q3, ↓reduceIte, not_true_eq_false, not_false_eq_true, true_imp_iff, false_imp_iff, implies_true, and_true, true_and, eq_self]
        · have q2' : jX12_areUp M (nI (spaN (P s))) = 0 := k4.mpr q2
          simp only [eq_false c0, eq_true q1', eq_true q2', z0, eq_false q1, eq_false q2, g3, eq_true q3, ↓reduceIte, not_true_eq_false, not_false_eq_true, true_imp_iff, false_imp_iff, implies_true, and_true, true_and, eq_self]
          rfl
      · rw [hu q3, Nat.zero_and]
        simp only [eq_false c0, eq_true q1', z0, eq_false q1, g3, eq_false q3, ↓reduceIte, not_true_eq_false, not_false_eq_true, true_imp_iff, false_imp_iff, implies_true, and_true, true_and, eq_self]
        rfl
  · have c0 : (0 : Int32) ≤ nI l := nI_pos' (by omega)
    have p9 : 2 ^ l < 2 ^ 31 := Nat.pow_lt_pow_right (by decide) (by omega)
    rw [one_nI (by omega)]
    have z1 : (nI (wayN (P s)) &&& nI (2 ^ l) = 0) = (wayN (P s) &&& 2 ^ l = 0) := propext (and0 (by omega))
    have z2 : (nI (spaN (P s)) &&& nI (2 ^ l) = 0) = (spaN (P s) &&& 2 ^ l = 0) := propext (and0 (by omega))
    unfold tak
    simp only [and_or0]
    have spare : (if S.kd s = 1 then (if jX12_areUp M (nI (spaN (P s))) = 0 then (0 : Int32) else if spaN (P s) &&& 2 ^ l = 0 then nI (spaN (P s)) else 0) else 0) = nI (if spaN (P s) &&& S.dn = 0 ∧ spaN (P s) &&& 2 ^ l = 0 then spaN (P s) else 0) := by
      by_cases q3 : S.kd s = 1
      · rw [if_pos q3]
        by_cases q2 : spaN (P s) &&& S.dn = 0
        · rw [if_neg (fun q => k4.mp q q2)]
          by_cases q4 : spaN (P s) &&& 2 ^ l = 0
          · rw [if_pos q4, if_pos ⟨q2, q4⟩]
          · rw [if_neg q4, if_neg (fun q => q4 q.2)]; rfl
        · rw [if_pos (k4.mpr q2), if_neg (fun q => q2 q.1)]; rfl
      · rw [if_neg q3, hu q3]
        split <;> rfl
    simp only [eq_true c0, z1, z2, g3, ↓reduceIte, not_true_eq_false, not_false_eq_true, true_imp_iff, false_imp_iff, implies_true, and_true, true_and, eq_self]
    rw [spare]
    by_cases q1 : wayN (P s) &&& S.dn = 0
    · have q1' : ¬ jX12_areUp M (nI (wayN (P s))) = 0 := fun q => k2.mp q q1
      rw [if_neg q1']
      by_cases q4 : wayN (P s) &&& 2 ^ l = 0
      · rw [if_pos q4, if_pos ⟨q1, q4⟩]
      · rw [if_neg q4, if_neg (show ¬ (wayN (P s) &&& S.dn = 0 ∧ wayN (P s) &&& 2 ^ l = 0) from fun q => q4 q.2)]
    · have q1' : jX12_areUp M (nI (wayN (P s))) = 0 := k2.mpr q1
      rw [if_pos q1', if_neg (show ¬ (wayN (P s) &&& S.dn = 0 ∧ wayN (P s) &&& 2 ^ l = 0) from fun q => q1 q.1)]
theorem tak_lt (p d : Nat) : tak p d < 512 := by
  have w9 : wayN p < 512 := Nat.mod_lt _ (by decide)
  have u9 : spaN p < 512 := Nat.mod_lt _ (by decide)
  unfold tak
  split
  · exact w9
  · split <;> omega
theorem took_both (hS : S.ok) (hC : RC T S C) (hM : RM S M) {a1 : Int32} {d : Nat} (ha : (a1 = -1 ∧ d = S.dn) ∨ ∃ l, l < S.nl ∧ a1 = nI l ∧ d = S.dn ||| 2 ^ l) :
    jX11_tookO a1 FU (nI d) 0 0 C ∧ jX12_tookO a1 FU 0 0 M ∧ ∃ r, jX11_tookI a1 FU (nI d) 0 0 C = (r, C) ∧ jX12_tookI a1 FU 0 0 M = (r, M) := by
  have h8 := hS.2.1.1
  have mb : MB S S.pl M := ⟨hS.1, hS.2.1, hS.2.2.2.2.1, hM.1, hM.2.2.1, hM.2.2.2.2.1⟩
  let g : Nat → Bool := fun s => decide (S.pl s ≠ 0) && decide (tak (S.pl s) d = 0)
  have E1 : Ends (fun n (s : Int32 × Int32) => jX11_tookI a1 n (nI d) s.1 s.2 C) (fun n s => jX11_tookO a1 n (nI d) s.1 s.2 C) (S.ns * 1 + 1) ((nI 0, nI 0) : Int32 × Int32) (nI (bs g S.ns), C) := by
    refine Go.ends (Go.loop (a := fun k => (nI (bs g k), nI k)) S.ns fun k hk => Go.one fun n => ?_) (Ends.one fun n => ?_)
    · dsimp only
      have v : vp_in (nI k) 8 := (vp_nI (by omega)).mpr (by omega)
      have i1 := in_C hS hC (j := k) (by omega)
      have c0 : ¬ S.ns ≤ k := by omega
      have tk := taken_C (d := d) (hC.2.2.2.2.2.1 k (by omega)) (by have := pl_lt hS (j := k) (by omega); omega)
      have tl := tak_lt (S.pl k) d
      have z : (nI (tak (S.pl k) d) = 0) = (tak (S.pl k) d = 0) := propext (nI_eq (b := 0) (by omega) (by omega))
      rw [jX11_tookO_55, jX11_tookI_55, hC.2.2.2.1.1, nI_clamp (by omega), tk, one_nI (by omega), or_nI, nI_1, bs]
      by_cases c : S.pl k = 0
      · have e : ¬ g k = true := by simp [g, c]
        have d : ¬ inS C k := fun q => i1.mp q c
        simp (disch := omega) only [nI_leI, eq_false c0, eq_false d, eq_true v, eq_false e, Nat.or_zero, ↓reduceIte, not_true_eq_false, not_false_eq_true, true_imp_iff, false_imp_iff, implies_true, and_true, true_and, eq_self]
        first | exact id | exact ⟨id, rfl⟩
      · have d' := i1.mpr c
        by_cases c2 : tak (S.pl k) d = 0
        · have e : g k = true := by simp [g, c, c2]
          simp (disch := omega) only [nI_leI, eq_false c0, eq_true d', eq_true v, eq_true e, z, eq_true c2, ↓reduceIte, not_true_eq_false, not_false_eq_true, true_imp_iff, false_imp_iff, implies_true, and_true, true_and, eq_self]
          first | exact id | exact ⟨id, rfl⟩
        · have e : ¬ g k = true := by simp [g, c2]
          simp (disch := omega) only [nI_leI, eq_false c0, eq_true d', eq_true v, eq_false e, z, eq_false c2, Nat.or_zero, ↓reduceIte, not_true_eq_false, not_false_eq_true, true_imp_iff, false_imp_iff, implies_true, and_true, true_and, eq_self]
          first | exact id | exact ⟨id, rfl⟩
    · dsimp only
      have c0 : S.ns ≤ S.ns := Nat.le_refl _
      rw [jX11_tookO_55, jX11_tookI_55, hC.2.2.2.1.1]
      simp (disch := omega) only [nI_leI, eq_true c0, ↓reduceIte, not_true_eq_false, not_false_eq_true, true_imp_iff, false_imp_iff, implies_true, and_true, true_and, eq_self]
  have E2 : Ends (fun n (s : Int32 × Int32) => jX12_tookI a1 n s.1 s.2 M) (fun n s => jX12_tookO a1 n s.1 s.2 M) (S.ns * 1 + 1) ((nI 0, nI 0) : Int32 × Int32) (nI (bs g S.ns), M) := by
    refine Go.ends (Go.loop (a := fun k => (nI (bs g k), nI k)) S.ns fun k hk => Go.one fun n => ?_) (Ends.one fun n => ?_)
    · dsimp only
      have v : vp_in (nI k) 8 := (vp_nI (by omega)).mpr (by omega)
      have i1 := in_M hM (j := k) (by omega)
      have c0 : ¬ S.ns ≤ k := by omega
      have tl := tak_lt (S.pl k) d
      have z : (nI (tak (S.pl k) d) = 0) = (tak (S.pl k) d = 0) := propext (nI_eq (b := 0) (by omega) (by omega))
      rw [jX12_tookO_24, jX12_tookI_24, hM.2.2.1.1, nI_clamp (by omega), Int32.or_zero, one_nI (by omega), or_nI, nI_1, bs]
      by_cases c : S.pl k = 0
      · have e : ¬ g k = true := by simp [g, c]
        have d' := i1.mpr c
        simp (disch := omega) only [nI_leI, eq_false c0, eq_true d', eq_true v, eq_false e, Nat.or_zero, ↓reduceIte, not_true_eq_false, not_false_eq_true, true_imp_iff, false_imp_iff, implies_true, and_true, true_and, eq_self]
        first | exact id | exact ⟨id, rfl⟩
      · have d' : ¬ M 106 k = 0 := fun q => c (i1.mp q)
        obtain ⟨t1, t2⟩ := takes_M mb hk c ha
        rw [t2]
        by_cases c2 : tak (S.pl k) d = 0
        · have e : g k = true := by simp [g, c, c2]
          simp (disch := omega) only [nI_leI, eq_false c0, eq_false d', eq_true v, eq_true t1, eq_true e, z, eq_true c2, ↓reduceIte, not_true_eq_false, not_false_eq_true, true_imp_iff, false_imp_iff, implies_true, and_true, true_and, eq_self]
          first | exact id | exact ⟨id, rfl⟩
        · have e : ¬ g k = true := by simp [g, c2]
          simp (disch := omega) only [nI_leI, eq_false c0, eq_false d', eq_true v, eq_true t1, eq_false e, z, eq_false c2, Nat.or_zero, ↓reduceIte, not_true_eq_false, not_false_eq_true, true_imp_iff, false_imp_iff, implies_true, and_true, true_and, eq_self]
          first | exact id | exact ⟨id, rfl⟩
    · dsimp only
      have c0 : S.ns ≤ S.ns := Nat.le_refl _
      rw [jX12_tookO_24, jX12_tookI_24, hM.2.2.1.1]
      simp (disch := omega) only [nI_leI, eq_true c0, ↓reduceIte, not_true_eq_false, not_false_eq_true, true_imp_iff, false_imp_iff, implies_true, and_true, true_and, eq_self]
  obtain ⟨r1, r2⟩ := E1.use (f := FU) (by rw [FU_eq]; omega)
  obtain ⟨r3, r4⟩ := E2.use (f := FU) (by rw [FU_eq]; omega)
  exact ⟨r1, r3, _, r2, r4⟩
theorem sim_took (hT : PlS T) (hS : S.ok) (hC : RC T S C) (hM : RM S M) (a1 : Int32) : jX11_tookK C a1 ∧ jX12_tookK M a1 ∧ (jX11_took C a1).1 = (jX12_took M a1).1 ∧ ∃ S' : St, S'.ok ∧ RC T S' (jX11_took C a1).2 ∧ RM S' (jX12_took M a1).2 := by
  have h9 := hS.1.2.1
  unfold jX11_tookK jX12_tookK jX11_took jX12_took jX12_finds
  rw [hC.dnC]
  by_cases c1 : a1 = -1
  · obtain ⟨r1, r2, r, r3, r4⟩ := took_both hS hC hM (a1 := a1) (d := S.dn) (.inl ⟨c1, rfl⟩)
    simp only [eq_true c1, ↓reduceIte, not_true_eq_false, not_false_eq_true, true_imp_iff, false_imp_iff, implies_true, and_true, true_and, eq_self]
    refine ⟨r1, r2, ?_⟩
    rw [r3, r4]
    exact ⟨rfl, S, hS, hC, hM⟩
  · by_cases h : ∃ j, j < S.nl ∧ a1 = nI j
    · have e1 := (li_C hS hC a1).mpr h
      have e2 := (li_M hS hM a1).mpr h
      obtain ⟨l, hl, hl'⟩ := h
      obtain ⟨r1, r2, r, r3, r4⟩ := took_both hS hC hM (a1 := a1) (d := S.dn ||| 2 ^ l) (.inr ⟨l, hl, hl', rfl⟩)
      have e : (1 : Int32) <<< (a1 &&& 31) = nI (2 ^ l) := by rw [hl', one_nI (by omega)]
      rw [e, or_nI]
      simp only [eq_false c1, eq_true e1, eq_true e2, ↓reduceIte, not_true_eq_false, not_false_eq_true, true_imp_iff, false_imp_iff, implies_true, and_true, true_and, eq_self]
      refine ⟨r1, r2, ?_⟩
      rw [r3, r4]
      exact ⟨rfl, S, hS, hC, hM⟩
    · have e1 := mt (li_C hS hC a1).mp h
      have e2 := mt (li_M hS hM a1).mp h
      simp only [eq_false c1, eq_false e1, eq_false e2, ↓reduceIte, not_true_eq_false, not_false_eq_true, true_imp_iff, false_imp_iff, implies_true, and_true, true_and, eq_self]
      exact bad hT hS hC hM
end SIM
end
