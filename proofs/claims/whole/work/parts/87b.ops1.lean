noncomputable section
/-- net, SLICES, PLACES as they were; the rest is told anew -/
theorem RC.upd {T : Topo} {S S' : St} {C C' : IM} (hT : PlS T) (hS : S.ok) (hK : Core S S') (hpl : S'.pl = S.pl) (hC : RC T S C)
    (f : ∀ k j, (k = 1 ∧ (j = 3 ∨ j = 4)) ∨ k = 2 ∨ k = 4 ∨ k = 5 ∨ (6 ≤ k ∧ k < 15 ∧ j < 5) ∨ (15 ≤ k ∧ k < 54 ∧ ¬ (k < 49 ∧ k % 4 = 1 ∧ 13 ≤ j)) ∨ (57 < k ∧ k < 62) ∨ 136 ≤ k → C' k j = C k j)
    (g1 : cPass S' C') (g2 : cDn S' C') (g3 : cWt S' C') (g4 : cDay S' C') (g5 : cFnd S' C') (g6 : cTry S' C') (g7 : cSh S' C') : RC T S' C' := by
  obtain ⟨h1, h2, h3, h4, h5, h6, h7, ⟨h8, h8'⟩, h9, h10, h11, h12, h13, h14, h15⟩ := hC
  have h8n := hS.2.1.1
  refine ⟨by rw [hK.cNet]; exact h1.of fun k j q => f k j (by omega), g1, g2, by rw [hK.cSl]; exact h4.of fun k j q => f k j (by rcases q with q | ⟨s, q1, q2, q3⟩ <;> omega), by rw [hK.cTk]; exact h5.of fun s hs => f _ _ (by omega), ?_, g3, ⟨by rw [f _ _ (by omega)]; exact h8, ?_⟩, h9.of fun k q1 q2 => funext fun j => f k j (by omega), hK.cWays (h10.of fun k q => funext fun j => f k j (by omega)), hK.cPlc hS.1 hS.2.1 (h11.of hT fun i hi => ⟨f _ _ (by omega), f _ _ (by omega), funext fun j => f _ _ (by have := (hT i hi).1; omega)⟩), g4, g5, g6, g7⟩
  · have : cPl S C' := h6.of fun s hs => f _ _ (by omega)
    unfold cPl
    rw [hpl]
    exact this
  · rw [hK.cBk, hpl, hK.does]
    exact h8'.of fun k q1 q2 => funext fun j => f k j (by omega)
theorem RM.upd {S S' : St} {M M' : IM} (hK : Core S S') (hpl : S'.pl = S.pl) (hM : RM S M)
    (f : ∀ k j, (k = 79 ∧ j < 3) ∨ (80 ≤ k ∧ k ≤ 85) ∨ (90 ≤ k ∧ k ≤ 100) ∨ (106 ≤ k ∧ k ≤ 111) → M' k j = M k j)
    (g0 : ∀ l, l < S.nl → M' 89 l = if S'.dn.testBit l = true then 0 else 1) (g1 : mPass S' M') (g2 : mWt S' M') (g3 : mDay S' M') (g4 : mFnd S' M') (g5 : mTry S' M') (g6 : mSh S' M') : RM S' M' := by
  obtain ⟨h1, h2, h3, h4, h5, h6, h7, h8, h9⟩ := hM
  have e : ∀ k, 80 ≤ k ∧ k ≤ 85 ∨ 90 ≤ k ∧ k ≤ 100 ∨ 106 ≤ k ∧ k ≤ 111 → M' k = M k := fun k q => funext fun j => f k j (by omega)
  refine ⟨?_, g1, ?_, g2, ?_, g3, g4, g5, g6⟩
  · obtain ⟨a1, a2, a3, a4, -⟩ := h1
    unfold mNet
    rw [hK.nn, hK.nl, hK.wr, hK.ea, hK.eb, hK.rm, hK.lt, hK.pr, f 79 0 (by omega), f 79 1 (by omega), e 80 (by omega), e 81 (by omega), e 82 (by omega), e 83 (by omega), e 84 (by omega), e 85 (by omega)]
    exact ⟨a1, a2, a3, a4, g0⟩
  · rw [hK.mSl]
    unfold mSl
    rw [f 79 2 (by omega), e 90 (by omega), e 91 (by omega), e 92 (by omega), e 93 (by omega), e 94 (by omega), e 95 (by omega), e 96 (by omega), e 97 (by omega), e 98 (by omega), e 99 (by omega), e 100 (by omega)]
    exact h3
  · rw [hK.mPl, hpl]
    unfold mPl
    rw [e 106 (by omega), e 107 (by omega), e 108 (by omega), e 109 (by omega), e 110 (by omega), e 111 (by omega)]
    exact h5
theorem ok_upd {S S' : St} (hS : S.ok) (hK : Core S S') (hpl : S'.pl = S.pl) (h1 : S'.netOk) (h2 : S'.slOk) (h3 : S'.dayOk) (h4 : S'.shOk) : S'.ok :=
  ⟨h1, h2, h3, h4, by rw [hK.plOk, hpl]; exact hS.2.2.2.2.1, by rw [hK.allOk, hK.does, hpl]; exact hS.2.2.2.2.2⟩
section SIM
variable {T : Topo} {S : St} {C M : IM}
theorem RC.dnC (h : RC T S C) : C 1 5 = nI S.dn := h.2.2.1
/-- is it a SLICE -/
theorem sl_C (hS : S.ok) (hC : RC T S C) (x : Int32) : hSl C x ↔ ∃ j, j < S.ns ∧ x = nI j := by
  have := hS.2.1.1
  unfold hSl
  rw [hC.2.2.2.1.1]
  exact rng_iff (by omega)
theorem sl_M (hS : S.ok) (hM : RM S M) (x : Int32) : wi x 0 (M 79 2 - 1) ↔ ∃ j, j < S.ns ∧ x = nI j := by
  have := hS.2.1.1
  rw [hM.2.2.1.1]
  exact rngM_iff (by omega)
theorem li_C (hS : S.ok) (hC : RC T S C) (x : Int32) : hL C x ↔ ∃ j, j < S.nl ∧ x = nI j := by
  have := hS.1.2.1
  unfold hL
  rw [hC.1.2.1]
  exact rng_iff (by omega)
theorem li_M (hS : S.ok) (hM : RM S M) (x : Int32) : wi x 0 (M 79 1 - 1) ↔ ∃ j, j < S.nl ∧ x = nI j := by
  have := hS.1.2.1
  rw [hM.1.2.1]
  exact rngM_iff (by omega)
theorem no_C (hS : S.ok) (hC : RC T S C) (x : Int32) : hN C x ↔ ∃ j, j < S.nn ∧ x = nI j := by
  have := hS.1.1
  unfold hN
  rw [hC.1.1]
  exact rng_iff (by omega)
theorem no_M (hS : S.ok) (hM : RM S M) (x : Int32) : wi x 0 (M 79 0 - 1) ↔ ∃ j, j < S.nn ∧ x = nI j := by
  have := hS.1.1
  rw [hM.1.1]
  exact rngM_iff (by omega)
theorem tw_CM (hS : S.ok) (hC : RC T S C) (hM : RM S M) (x y : Int32) : tw C x y ↔ twM M x y := by
  unfold tw twM
  rw [no_C hS hC, no_C hS hC, no_M hS hM, no_M hS hM]
theorem tw_of (hS : S.ok) (hC : RC T S C) {x y : Int32} (h : tw C x y) : ∃ a b, a < S.nn ∧ b < S.nn ∧ a ≠ b ∧ x = nI a ∧ y = nI b := by
  obtain ⟨h1, h2, h3⟩ := h
  obtain ⟨a, ha, rfl⟩ := (no_C hS hC x).mp h1
  obtain ⟨b, hb, rfl⟩ := (no_C hS hC y).mp h2
  exact ⟨a, b, ha, hb, fun q => h3 (congrArg nI q), rfl, rfl⟩
theorem in_M (hM : RM S M) {j : Nat} (hj : j < 8) : M 106 j = 0 ↔ S.pl j = 0 := by
  obtain ⟨h1, h2⟩ := hM.2.2.2.2.1 j hj
  constructor
  · intro h
    by_cases c : S.pl j = 0
    · exact c
    · rw [(h2 c).1] at h; cases h
  · exact h1
theorem pl_lt (hS : S.ok) {j : Nat} (hj : j < 8) : S.pl j < 2 ^ 21 := by
  by_cases c : S.pl j = 0
  · rw [c]; decide
  · obtain ⟨-, w, u, h, ⟨g1, g2, g3, g4⟩, e⟩ := hS.2.2.2.2.1 j hj c
    have h6 := hS.1.1
    have h9 := hS.1.2.1
    have key : ∀ (p : List Nat) (x seen b : Nat), S.path x seen b p → setOf p < 2 ^ 9 := by
      intro p
      induction p with
      | nil => intro _ _ _ _; decide
      | cons l p ih =>
        rintro x seen b ⟨_, q2, y, _, _, q5⟩
        exact or_lt (Nat.pow_lt_pow_right (by decide) (by omega)) (ih y _ b q5)
    have k1 := key _ _ _ _ g1
    have k2 : setOf u < 2 ^ 9 := by
      by_cases c2 : S.kd j = 1
      · exact key _ _ _ _ (g4 c2).1
      · rw [g3 c2]; decide
    rw [e]
    unfold placeN
    omega
theorem in_C (hS : S.ok) (hC : RC T S C) {j : Nat} (hj : j < 8) : inS C j ↔ ¬ S.pl j = 0 := by
  unfold inS
  rw [hC.2.2.2.2.2.1 j hj, li0, nI_eq (by have := pl_lt hS hj; omega) (by omega)]
theorem sim_tries (hC : RC T S C) (hM : RM S M) : jX11_tries C = jX12_tries M := by
  unfold jX11_tries jX12_tries
  rw [hC.2.2.2.2.2.2.2.2.2.2.2.2.2.1, hM.2.2.2.2.2.2.2.1]
theorem sim_host (hT : PlS T) (hS : S.ok) (hC : RC T S C) (hM : RM S M) (a1 : Int32) : jX11_hostK C a1 ∧ jX12_hostK M a1 ∧ jX11_host C a1 = jX12_host M a1 ∧ ∃ S' : St, S'.ok ∧ RC T S' (jX11_hostM C a1) ∧ RM S' (jX12_hostM M a1) := by
  have h8 := hS.2.1.1
  unfold jX11_hostK jX12_hostK jX11_host jX12_host jX11_hostM jX12_hostM jX12_finds
  by_cases h : ∃ j, j < S.ns ∧ a1 = nI j
  · have e1 := (sl_C hS hC a1).mpr h
    have e2 := (sl_M hS hM a1).mpr h
    obtain ⟨j, hj, rfl⟩ := h
    have v : vp_in (nI j) 8 := (vp_nI (by omega)).mpr (by omega)
    rw [if_pos e1, if_pos e1, if_pos e2, if_pos e2, nI_clamp (by omega)]
    have i1 := in_C hS hC (j := j) (by omega)
    have i2 := in_M hM (j := j) (by omega)
    by_cases c : S.pl j = 0
    · rw [if_neg (fun q => i1.mp q c), if_neg (fun q => i1.mp q c), if_pos (i2.mpr c), if_pos (i2.mpr c)]
      exact ⟨⟨fun _ => v, fun q => absurd e1 q⟩, ⟨fun _ => ⟨v, fun _ => trivial, fun _ => v⟩, fun q => absurd e2 q⟩, rfl, bad hT hS hC hM⟩
    · rw [if_pos (i1.mpr c), if_pos (i1.mpr c), if_neg (fun q => c (i2.mp q)), if_neg (fun q => c (i2.mp q))]
      refine ⟨⟨fun _ => v, fun q => absurd e1 q⟩, ⟨fun _ => ⟨v, fun _ => trivial, fun _ => v⟩, fun q => absurd e2 q⟩, ?_, S, hS, hC, hM⟩
      have hl := pl_lt hS (j := j) (by omega)
      rw [hC.2.2.2.2.2.1 j (by omega), ((hM.2.2.2.2.1 j (by omega)).2 c).2.2.2.1]
      unfold jHostOf
      rw [show (18 : Int32) &&& 31 = nI 18 &&& 31 from rfl, shr_nI (by omega) (by omega)]
  · have e1 := mt (sl_C hS hC a1).mp h
    have e2 := mt (sl_M hS hM a1).mp h
    rw [if_neg e1, if_neg e1, if_neg e2, if_neg e2]
    exact ⟨⟨fun q => absurd q e1, fun _ => trivial⟩, ⟨fun q => absurd q e2, fun _ => trivial⟩, rfl, bad hT hS hC hM⟩
theorem need_C (hS : S.ok) (hC : RC T S C) {j : Nat} (hj : j < S.ns) : jX8_needed C j = nI (S.need j) := by
  have h8 := hS.2.1.1
  obtain ⟨e0, -, -, e3, -, e5, -⟩ := hC.2.2.2.1.2 j (by omega)
  have hk := (hS.2.1.2.1 j hj).1
  unfold jX8_needed St.need
  rw [e0, e3, e5, li3, li2, li0]
  by_cases c : S.kd j = 3
  · rw [if_pos (by rw [c]), if_pos c]
  · rw [if_neg (fun q => c ((nI_eq (by omega) (by omega)).mp q)), if_neg c]
    by_cases c2 : S.kd j = 2
    · rw [if_pos (by rw [c2]), if_pos c2]
    · rw [if_neg (fun q => c2 ((nI_eq (by omega) (by omega)).mp q)), if_neg c2]
theorem need_M0 (h8 : S.ns ≤ 8) (hk : ∀ j, j < S.ns → S.kd j ≤ 4) (hM : mSl S M) {j : Nat} (hj : j < S.ns) : jX12_needK M (nI j) ∧ jX12_need M (nI j) = nI (S.need j) := by
  obtain ⟨e0, -, -, e3, -, e5, -⟩ := hM.2 j (by omega)
  have hk := hk j hj
  have v : vp_in (nI j) 8 := (vp_nI (by omega)).mpr (by omega)
  unfold jX12_needK jX12_need St.need
  rw [nI_clamp (by omega), e0, e3, e5, li3, li2, li0]
  refine ⟨⟨v, fun _ => ⟨v, fun _ => v, fun _ => v⟩, fun _ => trivial⟩, ?_⟩
  by_cases c : S.kd j = 3
  · rw [if_pos (by rw [c]), if_pos c]
  · rw [if_neg (fun q => c ((nI_eq (by omega) (by omega)).mp q)), if_neg c]
    by_cases c2 : S.kd j = 2
    · rw [if_pos (by rw [c2]), if_pos c2]
    · rw [if_neg (fun q => c2 ((nI_eq (by omega) (by omega)).mp q)), if_neg c2]
theorem need_M (hS : S.ok) (hM : RM S M) {j : Nat} (hj : j < S.ns) : jX12_needK M (nI j) ∧ jX12_need M (nI j) = nI (S.need j) := need_M0 hS.2.1.1 (fun j hj => (hS.2.1.2.1 j hj).1) hM.2.2.1 hj
/-- is a SLICE of a kind -/
theorem isOf_0 {j k kd : Nat} (e0 : C (17 + 4 * j) 0 = nI kd) (hkd : kd ≤ 4) (hk : k < 2 ^ 31) : jX8_isOfK C j (nI k) ∧ jX8_isOf C j (nI k) = if k = kd ∨ k = 0 ∨ (k = 2 ∧ kd = 3) then 1 else 0 := by
  unfold jX8_isOfK jX8_isOf
  rw [e0]
  obtain ⟨f, hf⟩ : ∃ f, FU = f + 1 + 1 + 1 + 1 := ⟨FU - 4, by rw [FU_eq]⟩
  rw [hf]
  have nx : ∀ m v3, m < 5 → v3 < 4 → ∀ f, (abv m = nI 0 ∨ abv m = nI 2 ∨ abv m = -1) → (jX8_isOfO j (nI k) f (abv m) (nI (v3 + 1)) C → jX8_isOfO j (nI k) (f + 1) (nI m) (nI v3) C) ∧ jX8_isOfI j (nI k) (f + 1) (nI m) (nI v3) C = if m = k then 1 else jX8_isOfI j (nI k) f (abv m) (nI (v3 + 1)) C := by
    intro m v3 hm hv f _
    have g1 : ¬ (5 : Int32) ≤ nI v3 := by rw [li5]; exact nI_ge (by omega) (by omega)
    have g2 : ¬ nI m < 0 := nI_pos (by omega)
    have g3 : ¬ (5 : Int32) ≤ nI m := by rw [li5]; exact nI_ge (by omega) (by omega)
    rw [jX8_isOfO_7, jX8_isOfI_7, if_neg g1, if_neg g2, if_neg g3, nI_clamp (by omega), nI_1]
    refine ⟨fun h => ⟨fun q => absurd q g1, fun _ => ⟨fun q => absurd q g2, fun _ => ⟨fun q => absurd q g3, fun _ => ⟨fun _ => ⟨(vp_nI (by omega)).mpr hm, h⟩, fun _ => trivial⟩⟩⟩⟩, ?_⟩
    by_cases c : m = k
    · rw [if_pos (by rw [c]), if_pos c]
    · rw [if_neg (fun q => c ((nI_eq (by omega) hk).mp q)), if_neg c]
  have lst : ∀ v3 f, v3 < 5 → jX8_isOfO j (nI k) (f + 1) (-1) (nI v3) C ∧ jX8_isOfI j (nI k) (f + 1) (-1) (nI v3) C = 0 := by
    intro v3 f hv
    have g1 : ¬ (5 : Int32) ≤ nI v3 := by rw [li5]; exact nI_ge (by omega) (by omega)
    have g2 : (-1 : Int32) < 0 := by decide
    rw [jX8_isOfO_7, jX8_isOfI_7, if_neg g1, if_pos g2]
    exact ⟨⟨fun q => absurd q g1, fun _ => ⟨fun _ => trivial, fun q => absurd g2 q⟩⟩, rfl⟩
  have a0 : abv 0 = -1 := rfl
  have a1 : abv 1 = nI 0 := rfl
  have a2 : abv 2 = nI 0 := rfl
  have a3 : abv 3 = nI 2 := rfl
  have a4 : abv 4 = nI 0 := rfl
  have s0 : ∀ v3 f, v3 < 4 → jX8_isOfO j (nI k) (f + 1 + 1) (nI 0) (nI v3) C ∧ jX8_isOfI j (nI k) (f + 1 + 1) (nI 0) (nI v3) C = if 0 = k then 1 else 0 := by
    intro v3 f hv
    obtain ⟨p1, p2⟩ := nx 0 v3 (by omega) hv (f + 1) (.inr (.inr a0))
    rw [a0] at p1 p2
    obtain ⟨q1, q2⟩ := lst (v3 + 1) f (by omega)
    rw [q2] at p2
    exact ⟨p1 q1, p2⟩
  have s1 : ∀ m v3 f, m < 5 → abv m = nI 0 → v3 < 3 → jX8_isOfO j (nI k) (f + 1 + 1 + 1) (nI m) (nI v3) C ∧ jX8_isOfI j (nI k) (f + 1 + 1 + 1) (nI m) (nI v3) C = if m = k then 1 else if 0 = k then 1 else 0 := by
    intro m v3 f hm ha hv
    obtain ⟨p1, p2⟩ := nx m v3 hm (by omega) (f + 1 + 1) (.inl ha)
    rw [ha] at p1 p2
    obtain ⟨q1, q2⟩ := s0 (v3 + 1) f (by omega)
    rw [q2] at p2
    exact ⟨p1 q1, p2⟩
  have lt4 : kd = 0 ∨ kd = 1 ∨ kd = 2 ∨ kd = 3 ∨ kd = 4 := by omega
  rcases lt4 with c | c | c | c | c <;> rw [c]
  · obtain ⟨p1, p2⟩ := s0 0 (f + 1 + 1) (by omega)
    refine ⟨p1, p2.trans ?_⟩
    by_cases c : k = 0
    · subst c; rfl
    · rw [if_neg (by omega), if_neg (by omega)]
  · obtain ⟨p1, p2⟩ := s1 1 0 (f + 1) (by omega) a1 (by omega)
    refine ⟨p1, p2.trans ?_⟩
    by_cases c : k = 0 ∨ k = 1
    · rcases c with c | c <;> subst c <;> rfl
    · rw [if_neg (by omega), if_neg (by omega), if_neg (by omega)]
  · obtain ⟨p1, p2⟩ := s1 2 0 (f + 1) (by omega) a2 (by omega)
    refine ⟨p1, p2.trans ?_⟩
    by_cases c : k = 0 ∨ k = 2
    · rcases c with c | c <;> subst c <;> rfl
    · rw [if_neg (by omega), if_neg (by omega), if_neg (by omega)]
  · obtain ⟨p1, p2⟩ := nx 3 0 (by omega) (by omega) (f + 1 + 1 + 1) (.inr (.inl a3))
    rw [a3] at p1 p2
    obtain ⟨q1, q2⟩ := s1 2 1 f (by omega) a2 (by omega)
    refine ⟨p1 q1, p2.trans ?_⟩
    rw [q2]
    by_cases c : k = 0 ∨ k = 2 ∨ k = 3
    · rcases c with c | c | c <;> subst c <;> rfl
    · rw [if_neg (by omega), if_neg (by omega), if_neg (by omega), if_neg (by omega)]
  · obtain ⟨p1, p2⟩ := s1 4 0 (f + 1) (by omega) a4 (by omega)
    refine ⟨p1, p2.trans ?_⟩
    by_cases c : k = 0 ∨ k = 4
    · rcases c with c | c <;> subst c <;> rfl
    · rw [if_neg (by omega), if_neg (by omega), if_neg (by omega)]
theorem isOf_C (hS : S.ok) (hC : RC T S C) {j k : Nat} (hj : j < S.ns) (hk : k < 2 ^ 31) : jX8_isOfK C j (nI k) ∧ jX8_isOf C j (nI k) = if k = S.kd j ∨ k = 0 ∨ (k = 2 ∧ S.kd j = 3) then 1 else 0 := by
  have h8 := hS.2.1.1
  exact isOf_0 (hC.2.2.2.1.2 j (by omega)).1 (hS.2.1.2.1 j hj).1 hk
end SIM
end
