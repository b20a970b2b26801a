noncomputable section
section SIM
variable {T : Topo} {S : St} {C M : IM}
/-- units of a number: below 0: none -/
def unit (v : Int32) : Int32 := jMax v 0
theorem unit_of {v : Int32} (h : v ≤ 100) : ∃ n, n ≤ 100 ∧ unit v = nI n ∧ (v ≤ 0 → n = 0) ∧ (¬ v ≤ 0 → v = nI n) := by
  unfold unit jMax
  by_cases c : v < 0
  · rw [if_pos c]
    exact ⟨0, by omega, rfl, fun _ => rfl, fun q => absurd (Int32.le_of_lt c) q⟩
  · rw [if_neg c]
    obtain ⟨n, hn, rfl⟩ := nI_of c
    have h' : n ≤ 100 := (nI_leI hn (by omega)).mp h
    refine ⟨n, h', rfl, fun q => ?_, fun _ => rfl⟩
    have := (nI_leI (b := 0) hn (by omega)).mp q
    omega
theorem sim_read (hT : PlS T) (hS : S.ok) (hC : RC T S C) (hM : RM S M) (a1 : Int32) : jX11_readK C a1 ∧ jX12_readK M a1 ∧ jX11_read C a1 = (jX12_read M a1).1 ∧ ∃ S' : St, S'.ok ∧ RC T S' (jX11_readM C a1) ∧ RM S' (jX12_read M a1).2 := by
  have h8 := hS.2.1.1
  unfold jX11_readK jX12_readK jX11_read jX12_read jX11_readM jX12_finds
  by_cases c1 : wi a1 0 3
  · obtain ⟨i, -, hi, rfl⟩ := wi_nI (a := 0) (b := 3) (by omega) c1 (by omega)
    have v : vp_in (nI i) 4 := (vp_nI (by omega)).mpr (by omega)
    obtain ⟨o1, o2, o3⟩ := hC.2.2.2.2.2.2.2.2.2.2.2.2.2.2 i (by omega)
    obtain ⟨p1, p2, p3⟩ := hM.2.2.2.2.2.2.2.2 i (by omega)
    have hz := hS.2.2.2.1 i (by omega)
    rw [nI_clamp (by omega), o1, o2, p1, p2, hC.2.2.2.1.1, hM.2.2.1.1]
    by_cases c2 : S.sbits i = 0
    · simp only [eq_true c1, eq_true c2, eq_true v, ↓reduceIte, not_true_eq_false, not_false_eq_true, true_imp_iff, false_imp_iff, implies_true, and_true, true_and, eq_self]
      exact bad hT hS hC hM
    · by_cases c3 : S.ssize i ≤ S.ns
      · have c3' : ¬ nI S.ns < nI (S.ssize i) := nI_nlt c3 (by omega)
        have c3'' : nI (S.ssize i) ≤ nI S.ns := nI_le c3 (by omega)
        -- is a number above 100
        have ab := Go.loopX (F := fun n (s : Int32) => jAboveI i 100 n s C) (O := fun n s => jAboveO i 100 n s C) (B := 1) (a := fun k => nI k) (ok := fun k => S.sh i k ≤ 100) (b0 := (1 : Int32)) (b1 := (0 : Int32)) (S.ssize i) (S.ssize i) 0 (by omega)
          (fun k hk c => Go.one fun n => by
            have v : vp_in (nI k) 8 := (vp_nI (by omega)).mpr (by omega)
            have c0 : ¬ S.ssize i ≤ k := by omega
            rw [jAboveO_2, jAboveI_2, o2, nI_clamp (by omega), o3 k (by omega), nI_1]
            simp (disch := omega) only [nI_leI, eq_false c0, eq_true c, eq_true v, ↓reduceIte, not_true_eq_false, not_false_eq_true, true_imp_iff, false_imp_iff, implies_true, and_true, true_and, eq_self]
            first | exact id | exact ⟨id, rfl⟩)
          (fun k hk c => Ends.one fun n => by
            have v : vp_in (nI k) 8 := (vp_nI (by omega)).mpr (by omega)
            have c0 : ¬ S.ssize i ≤ k := by omega
            rw [jAboveO_2, jAboveI_2, o2, nI_clamp (by omega), o3 k (by omega), nI_1]
            simp (disch := omega) only [nI_leI, eq_false c0, eq_false c, eq_true v, ↓reduceIte, not_true_eq_false, not_false_eq_true, true_imp_iff, false_imp_iff, implies_true, and_true, true_and, eq_self])
          (Ends.one fun n => by
            have c0 : S.ssize i ≤ S.ssize i := Nat.le_refl _
            rw [jAboveO_2, jAboveI_2, o2]
            simp (disch := omega) only [nI_leI, eq_true c0, ↓reduceIte, not_true_eq_false, not_false_eq_true, true_imp_iff, false_imp_iff, implies_true, and_true, true_and, eq_self])
        let F : Nat → Nat × Int32 × Int32 × IM → Int32 × IM := fun n s => jX12_readI (nI i) n s.1 s.2.1 s.2.2.1 s.2.2.2
        let O : Nat → Nat × Int32 × Int32 × IM → Prop := fun n s => jX12_readO (nI i) n s.1 s.2.1 s.2.2.1 s.2.2.2
        have e8 : ∀ k, (8 : Int32) * nI i + nI k = nI (8 * i + k) := fun k => by rw [li8, nI_mul, nI_add]
        have m1 := Go.loopG (F := F) (O := O) (B := 1) (a := fun k => (0, nI k, 0, M)) (ok := fun k => S.sh i k ≤ 100) (b0 := ((-1000001 : Int32), jX12_findsM M)) (S.ssize i) (S.ssize i) 0 (by omega)
          (fun k hk c => Go.one fun n => by
            show (jX12_readO (nI i) n 0 (nI (k + 1)) 0 M → jX12_readO (nI i) (n + 1) 0 (nI k) 0 M) ∧ jX12_readI (nI i) (n + 1) 0 (nI k) 0 M = jX12_readI (nI i) n 0 (nI (k + 1)) 0 M
            have v2 : vp_in (nI (8 * i + k)) 32 := (vp_nI (by omega)).mpr (by omega)
            have c0 : ¬ S.ssize i ≤ k := by omega
            rw [jX12_readO_53, jX12_readI_53, e8, nI_clamp (n := i) (by omega), nI_clamp (by omega), p2, p3 k (by omega), nI_1]
            simp (disch := omega) only [nI_leI, eq_false c0, eq_true c, eq_true v, eq_true v2, ↓reduceIte, not_true_eq_false, not_false_eq_true, true_imp_iff, false_imp_iff, implies_true, and_true, true_and, eq_self]
            first | exact id | exact ⟨id, rfl⟩)
          (fun k hk c => Ends.one fun n => by
            show jX12_readO (nI i) (n + 1) 0 (nI k) 0 M ∧ jX12_readI (nI i) (n + 1) 0 (nI k) 0 M = (-1000001, jX12_findsM M)
            have v2 : vp_in (nI (8 * i + k)) 32 := (vp_nI (by omega)).mpr (by omega)
            have c0 : ¬ S.ssize i ≤ k := by omega
            rw [jX12_readO_53, jX12_readI_53, e8, nI_clamp (n := i) (by omega), nI_clamp (by omega), p2, p3 k (by omega), nI_1]
            simp (disch := omega) only [nI_leI, eq_false c0, eq_false c, eq_true v, eq_true v2, ↓reduceIte, not_true_eq_false, not_false_eq_true, true_imp_iff, false_imp_iff, implies_true, and_true, true_and, eq_self]
            rfl)
        by_cases all : ∀ k, k < S.ssize i → S.sh i k ≤ 100
        · obtain ⟨a1, a2⟩ := (ab.1 fun j _ q => all j q).use (f := FU) (by rw [FU_eq]; omega)
          have a2' : jAbove C i 100 = 0 := a2
          have a1' : jAboveK C i 100 := a1
          have g1 := m1.1 fun j _ q => all j q
          have g2 : Go F O 1 (0, nI (S.ssize i), 0, M) (1, nI 0, 0, M) := Go.one fun n => by
            show (jX12_readO (nI i) n 1 0 0 M → jX12_readO (nI i) (n + 1) 0 (nI (S.ssize i)) 0 M) ∧ jX12_readI (nI i) (n + 1) 0 (nI (S.ssize i)) 0 M = jX12_readI (nI i) n 1 0 0 M
            have c0 : S.ssize i ≤ S.ssize i := Nat.le_refl _
            rw [jX12_readO_53, jX12_readI_53, nI_clamp (n := i) (by omega), p2]
            simp (disch := omega) only [nI_leI, eq_true c0, eq_true v, ↓reduceIte, not_true_eq_false, not_false_eq_true, true_imp_iff, false_imp_iff, implies_true, and_true, true_and, eq_self]
            first | exact id | exact ⟨id, rfl⟩
          -- units
          have un : ∀ k, ∃ n, k < S.ssize i → n ≤ 100 ∧ unit (S.sh i k) = nI n ∧ (S.sh i k ≤ 0 → n = 0) ∧ (¬ S.sh i k ≤ 0 → S.sh i k = nI n) := fun k => by
            by_cases q : k < S.ssize i
            · obtain ⟨n, hn⟩ := unit_of (all k q); exact ⟨n, fun _ => hn⟩
            · exact ⟨0, fun q' => absurd q' q⟩
          obtain ⟨u, hu⟩ := Classical.axiomOfChoice un
          have wt1000 : ∀ k, k < S.ns → S.wt k ≤ 1000 := fun k hk => (hS.2.1.2.1 k hk).2.2.2.2.2.2.2.2.2.2.2.2.2.2.1
          have wo := Go.loopX (F := fun n (s : Int32) => jX9_wouldOverflowI i n s C) (O := fun n s => jX9_wouldOverflowO i n s C) (B := 1) (a := fun k => nI k) (ok := fun k => S.wt k + u k ≤ 1000) (b0 := (1 : Int32)) (b1 := (0 : Int32)) (S.ssize i) (S.ssize i) 0 (by omega)
            (fun k hk c => Go.one fun n => by
              have v : vp_in (nI k) 8 := (vp_nI (by omega)).mpr (by omega)
              have v' : jUnitsK (nI k) := v
              have c0 : ¬ S.ssize i ≤ k := by omega
              have c0' : ¬ S.ns ≤ k := by omega
              have eu : jUnits C i (nI k) = nI (u k) := by
                unfold jUnits
                rw [nI_clamp (by omega), o3 k (by omega)]
                exact (hu k hk).2.1
              rw [jX9_wouldOverflowO_2, jX9_wouldOverflowI_2, o2, hC.2.2.2.1.1, nI_clamp (by omega), (hC.2.2.2.2.2.2.1 k (by omega)).1, eu, nI_add, li1000, nI_1]
              simp (disch := omega) only [nI_leI, eq_false c0, eq_false c0', eq_true c, eq_true v, eq_true v', ↓reduceIte, not_true_eq_false, not_false_eq_true, true_imp_iff, false_imp_iff, implies_true, and_true, true_and, eq_self]
              first | exact id | exact ⟨id, rfl⟩)
            (fun k hk c => Ends.one fun n => by
              have v : vp_in (nI k) 8 := (vp_nI (by omega)).mpr (by omega)
              have v' : jUnitsK (nI k) := v
              have c0 : ¬ S.ssize i ≤ k := by omega
              have c0' : ¬ S.ns ≤ k := by omega
              have := wt1000 k (by omega)
              have := (hu k hk).1
              have eu : jUnits C i (nI k) = nI (u k) := by
                unfold jUnits
                rw [nI_clamp (by omega), o3 k (by omega)]
                exact (hu k hk).2.1
              rw [jX9_wouldOverflowO_2, jX9_wouldOverflowI_2, o2, hC.2.2.2.1.1, nI_clamp (by omega), (hC.2.2.2.2.2.2.1 k (by omega)).1, eu, nI_add, li1000, nI_1]
              simp (disch := omega) only [nI_leI, eq_false c0, eq_false c0', eq_false c, eq_true v, eq_true v', ↓reduceIte, not_true_eq_false, not_false_eq_true, true_imp_iff, false_imp_iff, implies_true, and_true, true_and, eq_self])
            (Ends.one fun n => by
              have c0 : S.ssize i ≤ S.ssize i := Nat.le_refl _
              rw [jX9_wouldOverflowO_2, jX9_wouldOverflowI_2, o2]
              simp (disch := omega) only [nI_leI, eq_true c0, ↓reduceIte, not_true_eq_false, not_false_eq_true, true_imp_iff, false_imp_iff, implies_true, and_true, true_and, eq_self])
          have m2 := Go.loopG (F := F) (O := O) (B := 1) (a := fun k => (1, nI k, 0, M)) (ok := fun k => S.wt k + u k ≤ 1000) (b0 := ((-1000002 : Int32), jX12_findsM M)) (S.ssize i) (S.ssize i) 0 (by omega)
            (fun k hk c => Go.one fun n => by
              show (jX12_readO (nI i) n 1 (nI (k + 1)) 0 M → jX12_readO (nI i) (n + 1) 1 (nI k) 0 M) ∧ jX12_readI (nI i) (n + 1) 1 (nI k) 0 M = jX12_readI (nI i) n 1 (nI (k + 1)) 0 M
              have v1 : vp_in (nI k) 8 := (vp_nI (by omega)).mpr (by omega)
              have v2 : vp_in (nI (8 * i + k)) 32 := (vp_nI (by omega)).mpr (by omega)
              have c0 : ¬ S.ssize i ≤ k := by omega
              obtain ⟨q1, q2, q3, q4⟩ := hu k hk
              rw [jX12_readO_94, jX12_readI_94, e8, nI_clamp (n := i) (by omega), nI_clamp (n := k) (by omega), nI_clamp (by omega), p2, p3 k (by omega), (hM.2.2.2.1 k (by omega)).1, nI_1]
              by_cases d : S.sh i k ≤ 0
              · simp (disch := omega) only [nI_leI, eq_false c0, eq_true d, eq_true v, eq_true v1, eq_true v2, ↓reduceIte, not_true_eq_false, not_false_eq_true, true_imp_iff, false_imp_iff, implies_true, and_true, true_and, eq_self]
                first | exact id | exact ⟨id, rfl⟩
              · have d' : nI (S.wt k) + S.sh i k ≤ 1000 := by rw [q4 d, nI_add, li1000]; exact nI_le c (by omega)
                simp (disch := omega) only [nI_leI, eq_false c0, eq_false d, eq_true d', eq_true v, eq_true v1, eq_true v2, ↓reduceIte, not_true_eq_false, not_false_eq_true, true_imp_iff, false_imp_iff, implies_true, and_true, true_and, eq_self]
                first | exact id | exact ⟨id, rfl⟩)
            (fun k hk c => Ends.one fun n => by
              show jX12_readO (nI i) (n + 1) 1 (nI k) 0 M ∧ jX12_readI (nI i) (n + 1) 1 (nI k) 0 M = (-1000002, jX12_findsM M)
              have v1 : vp_in (nI k) 8 := (vp_nI (by omega)).mpr (by omega)
              have v2 : vp_in (nI (8 * i + k)) 32 := (vp_nI (by omega)).mpr (by omega)
              have c0 : ¬ S.ssize i ≤ k := by omega
              obtain ⟨q1, q2, q3, q4⟩ := hu k hk
              have := wt1000 k (by omega)
              have d : ¬ S.sh i k ≤ 0 := fun q => by have := q3 q; omega
              have d' : ¬ nI (S.wt k) + S.sh i k ≤ 1000 := by rw [q4 d, nI_add, li1000]; exact nI_ge (by omega) (by omega)
              rw [jX12_readO_94, jX12_readI_94, e8, nI_clamp (n := i) (by omega), nI_clamp (n := k) (by omega), nI_clamp (by omega), p2, p3 k (by omega), (hM.2.2.2.1 k (by omega)).1, nI_1]
              simp (disch := omega) only [nI_leI, eq_false c0, eq_false d, eq_false d', eq_true v, eq_true v1, eq_true v2, ↓reduceIte, not_true_eq_false, not_false_eq_true, true_imp_iff, false_imp_iff, implies_true, and_true, true_and, eq_self]
              rfl)
          by_cases fit : ∀ k, k < S.ssize i → S.wt k + u k ≤ 1000
          · obtain ⟨b1, b2⟩ := (wo.1 fun j _ q => fit j q).use (f := FU) (by rw [FU_eq]; omega)
            have b2' : jX9_wouldOverflow C i = 0 := b2
            have b1' : jX9_wouldOverflowK C i := b1
            have g3 := m2.1 fun j _ q => fit j q
            have g4 : Go F O 1 (1, nI (S.ssize i), 0, M) (2, nI 0, nI 0, M) := Go.one fun n => by
              show (jX12_readO (nI i) n 2 0 0 M → jX12_readO (nI i) (n + 1) 1 (nI (S.ssize i)) 0 M) ∧ jX12_readI (nI i) (n + 1) 1 (nI (S.ssize i)) 0 M = jX12_readI (nI i) n 2 0 0 M
              have c0 : S.ssize i ≤ S.ssize i := Nat.le_refl _
              rw [jX12_readO_94, jX12_readI_94, nI_clamp (n := i) (by omega), p2]
              simp (disch := omega) only [nI_leI, eq_true c0, eq_true v, ↓reduceIte, not_true_eq_false, not_false_eq_true, true_imp_iff, false_imp_iff, implies_true, and_true, true_and, eq_self]
              first | exact id | exact ⟨id, rfl⟩
            let J : Nat → IM := fun k => Nat.rec C (fun k I => up2 I (17 + 4 * k) 13 (nI (S.wt k + u k))) k
            let N : Nat → IM := fun k => Nat.rec M (fun k I => up2 I 101 k (nI (S.wt k + u k))) k
            have inv : ∀ k, k ≤ S.ssize i → ∃ X : St, X.ok ∧ RC T X (J k) ∧ RM X (N k) ∧ X.ns = S.ns ∧ X.sh = S.sh ∧ X.ssize = S.ssize ∧ ∀ s, k ≤ s → X.wt s = S.wt s := by
              intro k
              induction k with
              | zero => exact fun _ => ⟨S, hS, hC, hM, rfl, rfl, rfl, fun _ _ => rfl⟩
              | succ k ih =>
                intro hk
                obtain ⟨X, x1, x2, x3, x4, x5, x6, x7⟩ := ih (by omega)
                obtain ⟨Y, ⟨y1, y2, y3⟩, rfl⟩ := wt_step hT x1 x2 x3 (j := k) (x := S.wt k + u k) (by rw [x4]; omega) (fit k (by omega))
                refine ⟨_, y1, y2, y3, x4, x5, x6, fun s hs => ?_⟩
                show put X.wt k (S.wt k + u k) s = S.wt s
                rw [put_ne _ _ (by omega)]
                exact x7 s (by omega)
            have E1 : Ends (fun n (s : Int32 × Int32 × IM) => jX9_offerAllI i n s.1 s.2.1 s.2.2) (fun n s => jX9_offerAllO i n s.1 s.2.1 s.2.2) (S.ssize i * 1 + 1) ((nI 0, nI 0, C) : Int32 × Int32 × IM) (nI (sm u (S.ssize i)), J (S.ssize i)) := by
              refine Go.ends (s' := (nI (sm u (S.ssize i)), nI (S.ssize i), J (S.ssize i))) (Go.loop (a := fun k => (nI (sm u k), nI k, J k)) (S.ssize i) fun k hk => Go.one fun n => ?_) (Ends.one fun n => ?_)
              · dsimp only
                obtain ⟨X, x1, x2, x3, x4, x5, x6, x7⟩ := inv k (by omega)
                obtain ⟨r1, r2, r3⟩ := x2.2.2.2.2.2.2.2.2.2.2.2.2.2.2 i (by omega)
                have v : vp_in (nI k) 8 := (vp_nI (by omega)).mpr (by omega)
                have v' : jUnitsK (nI k) := v
                have c0 : ¬ S.ssize i ≤ k := by omega
                have c0' : ¬ S.ns ≤ k := by omega
                have eu : jUnits (J k) i (nI k) = nI (u k) := by
                  unfold jUnits
                  rw [nI_clamp (by omega), r3 k (by omega), x5]
                  exact (hu k hk).2.1
                have eu' : jUnits (up2 (J k) (17 + 4 * k) 13 (nI (S.wt k + u k))) i (nI k) = nI (u k) := by
                  unfold jUnits
                  rw [nI_clamp (by omega), up2_o _ _ _ _ (by omega), r3 k (by omega), x5]
                  exact (hu k hk).2.1
                rw [jX9_offerAllO_4, jX9_offerAllI_4, r2, x6, x2.2.2.2.1.1, x4, nI_clamp (by omega), (x2.2.2.2.2.2.2.1 k (by omega)).1, x7 k (Nat.le_refl _), eu, nI_add, eu', nI_add, nI_1, sm]
                simp (disch := omega) only [nI_leI, eq_false c0, eq_false c0', eq_true v, eq_true v', ↓reduceIte, not_true_eq_false, not_false_eq_true, true_imp_iff, false_imp_iff, implies_true, and_true, true_and, eq_self]
                first | exact id | exact ⟨id, rfl⟩
              · dsimp only
                obtain ⟨X, x1, x2, x3, x4, x5, x6, x7⟩ := inv (S.ssize i) (Nat.le_refl _)
                obtain ⟨r1, r2, r3⟩ := x2.2.2.2.2.2.2.2.2.2.2.2.2.2.2 i (by omega)
                have c0 : S.ssize i ≤ S.ssize i := Nat.le_refl _
                rw [jX9_offerAllO_4, jX9_offerAllI_4, r2, x6]
                simp (disch := omega) only [nI_leI, eq_true c0, ↓reduceIte, not_true_eq_false, not_false_eq_true, true_imp_iff, false_imp_iff, implies_true, and_true, true_and, eq_self]
            have E2 : Ends F O (S.ssize i * 1 + 1) (2, nI 0, nI 0, M) (nI (sm u (S.ssize i)), N (S.ssize i)) := by
              refine Go.ends (s' := (2, nI (sm u (S.ssize i)), nI (S.ssize i), N (S.ssize i))) (Go.loop (a := fun k => (2, nI (sm u k), nI k, N k)) (S.ssize i) fun k hk => Go.one fun n => ?_) (Ends.one fun n => ?_)
              · show (jX12_readO (nI i) n 2 (nI (sm u (k + 1))) (nI (k + 1)) (N (k + 1)) → jX12_readO (nI i) (n + 1) 2 (nI (sm u k)) (nI k) (N k)) ∧ jX12_readI (nI i) (n + 1) 2 (nI (sm u k)) (nI k) (N k) = jX12_readI (nI i) n 2 (nI (sm u (k + 1))) (nI (k + 1)) (N (k + 1))
                obtain ⟨X, x1, x2, x3, x4, x5, x6, x7⟩ := inv k (by omega)
                obtain ⟨r1, r2, r3⟩ := x3.2.2.2.2.2.2.2.2 i (by omega)
                have v1 : vp_in (nI k) 8 := (vp_nI (by omega)).mpr (by omega)
                have v2 : vp_in (nI (8 * i + k)) 32 := (vp_nI (by omega)).mpr (by omega)
                have c0 : ¬ S.ssize i ≤ k := by omega
                obtain ⟨q1, q2, q3, q4⟩ := hu k hk
                have eN : N (k + 1) = up2 (N k) 101 k (nI (S.wt k + u k)) := rfl
                rw [eN, jX12_readO_159, jX12_readI_159, e8, nI_clamp (n := i) (by omega), nI_clamp (n := k) (by omega), nI_clamp (by omega), r2, x6, r3 k (by omega), x5, (x3.2.2.2.1 k (by omega)).1, x7 k (Nat.le_refl _), Int32.add_zero, Int32.add_zero, nI_1, sm]
                by_cases d : S.sh i k ≤ 0
                · rw [q3 d, Nat.add_zero, Nat.add_zero]
                  simp (disch := omega) only [nI_leI, eq_false c0, eq_true d, eq_true v, eq_true v1, eq_true v2, ↓reduceIte, not_true_eq_false, not_false_eq_true, true_imp_iff, false_imp_iff, implies_true, and_true, true_and, eq_self]
                  first | exact id | exact ⟨id, rfl⟩
                · have qd := q4 d
                  rw [qd] at d
                  rw [qd, nI_add, nI_add]
                  simp (disch := omega) only [nI_leI, eq_false c0, eq_false d, eq_true v, eq_true v1, eq_true v2, ↓reduceIte, not_true_eq_false, not_false_eq_true, true_imp_iff, false_imp_iff, implies_true, and_true, true_and, eq_self]
                  first | exact id | exact ⟨id, rfl⟩
              · show jX12_readO (nI i) (n + 1) 2 (nI (sm u (S.ssize i))) (nI (S.ssize i)) (N (S.ssize i)) ∧ jX12_readI (nI i) (n + 1) 2 (nI (sm u (S.ssize i))) (nI (S.ssize i)) (N (S.ssize i)) = _
                obtain ⟨X, x1, x2, x3, x4, x5, x6, x7⟩ := inv (S.ssize i) (Nat.le_refl _)
                obtain ⟨r1, r2, r3⟩ := x3.2.2.2.2.2.2.2.2 i (by omega)
                have c0 : S.ssize i ≤ S.ssize i := Nat.le_refl _
                rw [jX12_readO_159, jX12_readI_159, nI_clamp (n := i) (by omega), r2, x6]
                simp (disch := omega) only [nI_leI, eq_true c0, eq_true v, ↓reduceIte, not_true_eq_false, not_false_eq_true, true_imp_iff, false_imp_iff, implies_true, and_true, true_and, eq_self]
            obtain ⟨r1, r2⟩ := E1.use (f := FU) (by rw [FU_eq]; omega)
            obtain ⟨r3, r4⟩ := ((((g1.trans g2).trans g3).trans g4).ends E2).use (f := FU) (by rw [FU_eq]; omega)
            have r1' : jX9_offerAllK C i := r1
            have r2' : jX9_offerAll C i = (nI (sm u (S.ssize i)), J (S.ssize i)) := r2
            have r3' : jX12_readO (nI i) FU 0 0 0 M := r3
            have r4' : jX12_readI (nI i) FU 0 0 0 M = (nI (sm u (S.ssize i)), N (S.ssize i)) := r4
            simp only [eq_true c1, eq_false c2, eq_false c3', eq_true c3'', eq_true v, eq_true a1', a2', eq_true b1', b2', eq_true r1', r2', eq_true r3', r4', ↓reduceIte, not_true_eq_false, not_false_eq_true, true_imp_iff, false_imp_iff, implies_true, and_true, true_and, eq_self]
            obtain ⟨X, x1, x2, x3, -⟩ := inv (S.ssize i) (Nat.le_refl _)
            exact ⟨X, x1, x2, x3⟩
          · obtain ⟨b1, b2⟩ := (wo.2 fun q => fit fun j hj => q j (Nat.zero_le _) hj).use (f := FU) (by rw [FU_eq]; omega)
            have b2' : jX9_wouldOverflow C i = 1 := b2
            have b1' : jX9_wouldOverflowK C i := b1
            obtain ⟨r3, r4⟩ := ((g1.trans g2).ends (m2.2 fun q => fit fun j hj => q j (Nat.zero_le _) hj)).use (f := FU) (by rw [FU_eq]; omega)
            have r3' : jX12_readO (nI i) FU 0 0 0 M := r3
            have r4' : jX12_readI (nI i) FU 0 0 0 M = (-1000002, jX12_findsM M) := r4
            have z : ¬ (1 : Int32) = 0 := by decide
            simp only [eq_true c1, eq_false c2, eq_false c3', eq_true c3'', eq_true v, eq_true a1', a2', eq_true b1', b2', eq_false z, eq_true r3', r4', ↓reduceIte, not_true_eq_false, not_false_eq_true, true_imp_iff, false_imp_iff, implies_true, and_true, true_and, eq_self]
            exact bad hT hS hC hM
        · obtain ⟨a1, a2⟩ := (ab.2 fun q => all fun j hj => q j (Nat.zero_le _) hj).use (f := FU) (by rw [FU_eq]; omega)
          have a2' : jAbove C i 100 = 1 := a2
          have a1' : jAboveK C i 100 := a1
          obtain ⟨r3, r4⟩ := (m1.2 fun q => all fun j hj => q j (Nat.zero_le _) hj).use (f := FU) (by rw [FU_eq]; omega)
          have r3' : jX12_readO (nI i) FU 0 0 0 M := r3
          have r4' : jX12_readI (nI i) FU 0 0 0 M = (-1000001, jX12_findsM M) := r4
          have z : ¬ (1 : Int32) = 0 := by decide
          simp only [eq_true c1, eq_false c2, eq_false c3', eq_true c3'', eq_true v, eq_true a1', a2', eq_false z, eq_true r3', r4', ↓reduceIte, not_true_eq_false, not_false_eq_true, true_imp_iff, false_imp_iff, implies_true, and_true, true_and, eq_self]
          exact bad hT hS hC hM
      · have c3' : nI S.ns < nI (S.ssize i) := nI_lt (by omega) (by omega)
        have c3'' : ¬ nI (S.ssize i) ≤ nI S.ns := nI_ge (by omega) (by omega)
        simp only [eq_true c1, eq_false c2, eq_true c3', eq_false c3'', eq_true v, ↓reduceIte, not_true_eq_false, not_false_eq_true, true_imp_iff, false_imp_iff, implies_true, and_true, true_and, eq_self]
        exact bad hT hS hC hM
  · simp only [eq_false c1, ↓reduceIte, not_true_eq_false, not_false_eq_true, true_imp_iff, false_imp_iff, implies_true, and_true, true_and, eq_self]
    exact bad hT hS hC hM
end SIM
end
