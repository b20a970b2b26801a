noncomputable section
section SIM
variable {T : Topo} {S : St} {C M : IM}
theorem write_step (hT : PlS T) (hS : S.ok) (hC : RC T S C) (hM : RM S M) {i x : Nat} (v : Int32) (hi : i < 4) (hx : x < 8) : ∃ S' : St, S'.ok ∧ RC T S' (up2 C (72 + 2 * i) x v) ∧ RM S' (up2 M 114 (8 * i + x) v) := by
  refine ⟨S.s_sh (put S.sh i (put (S.sh i) x v)), ?_⟩
  refine sh_upd hT hS hC hM ⟨rfl, rfl, rfl, rfl, rfl, rfl, rfl, rfl, rfl, rfl, rfl, rfl, rfl, rfl, rfl, rfl, rfl, rfl, rfl, rfl⟩ rfl ⟨rfl, rfl, rfl, rfl, rfl, rfl, rfl, rfl, rfl, rfl, rfl, rfl, rfl, rfl, rfl⟩ hS.2.2.2.1 (fun k q => up2_ne (by omega)) (fun k q1 q2 => up2_ne (by omega)) (fun t ht => ?_) (fun t ht => ?_)
  · show up2 C (72 + 2 * i) x v (71 + 2 * t) 1 = S.sbits t ∧ up2 C (72 + 2 * i) x v (71 + 2 * t) 2 = nI (S.ssize t) ∧ ∀ j, j < 8 → up2 C (72 + 2 * i) x v (72 + 2 * t) j = put S.sh i (put (S.sh i) x v) t j
    obtain ⟨o1, o2, o3⟩ := hC.2.2.2.2.2.2.2.2.2.2.2.2.2.2 t ht
    rw [up2_ne (by omega)]
    refine ⟨o1, o2, fun j hj => ?_⟩
    by_cases e : t = i
    · subst e
      rw [put_at]
      by_cases e2 : j = x
      · rw [e2, put_at, up2_at]
      · rw [put_ne _ _ e2, up2_sj _ _ _ e2]; exact o3 j hj
    · rw [put_ne _ _ e, up2_o _ _ _ _ (by omega)]; exact o3 j hj
  · show up2 M 114 (8 * i + x) v 112 t = S.sbits t ∧ up2 M 114 (8 * i + x) v 113 t = nI (S.ssize t) ∧ ∀ j, j < 8 → up2 M 114 (8 * i + x) v 114 (8 * t + j) = put S.sh i (put (S.sh i) x v) t j
    obtain ⟨o1, o2, o3⟩ := hM.2.2.2.2.2.2.2.2 t ht
    rw [up2_ne (by omega), up2_ne (by omega)]
    refine ⟨o1, o2, fun j hj => ?_⟩
    by_cases e : t = i
    · subst e
      rw [put_at]
      by_cases e2 : j = x
      · rw [e2, put_at, up2_at]
      · rw [put_ne _ _ e2, up2_sj _ _ _ (by omega)]; exact o3 j hj
    · rw [put_ne _ _ e, up2_sj _ _ _ (by omega)]; exact o3 j hj
theorem sim_write (hT : PlS T) (hS : S.ok) (hC : RC T S C) (hM : RM S M) (a1 a2 a3 : Int32) : jX11_writeK C a1 a2 ∧ jX12_writeK M a1 a2 ∧ jX11_write C a1 a2 = jX12_write M a1 a2 ∧ ∃ S' : St, S'.ok ∧ RC T S' (jX11_writeM C a1 a2 a3) ∧ RM S' (jX12_writeM M a1 a2 a3) := by
  unfold jX11_writeK jX12_writeK jX11_write jX12_write jX11_writeM jX12_writeM jX12_finds jPutK jPut jPutM jLowest
  by_cases c1 : wi a1 0 3
  · obtain ⟨i, -, hi, rfl⟩ := wi_nI (a := 0) (b := 3) (by omega) c1 (by omega)
    have v : vp_in (nI i) 4 := (vp_nI (by omega)).mpr (by omega)
    obtain ⟨o1, o2, o3⟩ := hC.2.2.2.2.2.2.2.2.2.2.2.2.2.2 i (by omega)
    obtain ⟨p1, p2, p3⟩ := hM.2.2.2.2.2.2.2.2 i (by omega)
    rw [nI_clamp (by omega), o1, o2, p1, p2]
    have hz := hS.2.2.2.1 i (by omega)
    by_cases c2 : S.sbits i = 0
    · simp only [eq_true c1, eq_true c2, eq_true v, ↓reduceIte, not_true_eq_false, not_false_eq_true, true_imp_iff, false_imp_iff, implies_true, and_true, true_and, eq_self]
      exact bad hT hS hC hM
    · by_cases c3 : wi a2 0 (nI (S.ssize i) - 1)
      · obtain ⟨x, hx, rfl⟩ := (rngM_iff (by omega)).mp c3
        have w1 : vp_in (nI x) 8 := (vp_nI (by omega)).mpr (by omega)
        have w2 : vp_in (nI (8 * i + x)) 32 := (vp_nI (by omega)).mpr (by omega)
        have st := fun v => write_step hT hS hC hM (i := i) (x := x) v (by omega) (by omega)
        rw [show (8 : Int32) * nI i + nI x = nI (8 * i + x) by rw [li8, nI_mul, nI_add], nI_clamp (by omega), nI_clamp (by omega)]
        by_cases b8 : S.sbits i = 8
        · simp only [eq_true c1, eq_false c2, eq_true c3, eq_true v, eq_true w1, eq_true w2, eq_true b8, ↓reduceIte, not_true_eq_false, not_false_eq_true, true_imp_iff, false_imp_iff, implies_true, and_true, true_and, eq_self]
          exact ⟨by rw [o3 x (by omega), p3 x (by omega)], st _⟩
        · by_cases b16 : S.sbits i = 16
          · simp only [eq_true c1, eq_false c2, eq_true c3, eq_true v, eq_true w1, eq_true w2, eq_false b8, eq_true b16, ↓reduceIte, not_true_eq_false, not_false_eq_true, true_imp_iff, false_imp_iff, implies_true, and_true, true_and, eq_self]
            exact ⟨by rw [o3 x (by omega), p3 x (by omega)], st _⟩
          · simp only [eq_true c1, eq_false c2, eq_true c3, eq_true v, eq_true w1, eq_true w2, eq_false b8, eq_false b16, ↓reduceIte, not_true_eq_false, not_false_eq_true, true_imp_iff, false_imp_iff, implies_true, and_true, true_and, eq_self]
            exact ⟨by rw [o3 x (by omega), p3 x (by omega)], st _⟩
      · simp only [eq_true c1, eq_false c2, eq_false c3, eq_true v, ↓reduceIte, not_true_eq_false, not_false_eq_true, true_imp_iff, false_imp_iff, implies_true, and_true, true_and, eq_self]
        exact bad hT hS hC hM
  · simp only [eq_false c1, ↓reduceIte, not_true_eq_false, not_false_eq_true, true_imp_iff, false_imp_iff, implies_true, and_true, true_and, eq_self]
    exact bad hT hS hC hM
theorem run_iff {i z : Nat} (h : C (71 + 2 * i) 2 = nI z) (hz : z ≤ 8) (a b : Int32) : jHasRun C i a b = 0 ↔ ¬ ∃ x n, x + n ≤ z ∧ a = nI x ∧ b = nI n := by
  unfold jHasRun
  rw [h]
  by_cases c1 : a < 0
  · rw [if_pos c1]
    refine ⟨fun _ => ?_, fun _ => rfl⟩
    rintro ⟨x, n, h1, rfl, rfl⟩
    exact absurd c1 (nI_pos (by omega))
  · rw [if_neg c1]
    by_cases c2 : b < 0
    · rw [if_pos c2]
      refine ⟨fun _ => ?_, fun _ => rfl⟩
      rintro ⟨x, n, h1, rfl, rfl⟩
      exact absurd c2 (nI_pos (by omega))
    · rw [if_neg c2]
      obtain ⟨x, hx, rfl⟩ := nI_of c1
      obtain ⟨n, hn, rfl⟩ := nI_of c2
      have key : (∃ x' n', x' + n' ≤ z ∧ nI x = nI x' ∧ nI n = nI n') ↔ x + n ≤ z := by
        constructor
        · rintro ⟨x', n', q1, q2, q3⟩
          have := (nI_eq hx (by omega)).mp q2
          have := (nI_eq hn (by omega)).mp q3
          omega
        · intro q; exact ⟨x, n, q, rfl, rfl⟩
      rw [key]
      by_cases c3 : z < x
      · rw [if_pos (nI_lt c3 hx)]; exact ⟨fun _ => by omega, fun _ => rfl⟩
      · rw [if_neg (nI_nlt (by omega) (by omega)), nI_sub (by omega)]
        by_cases c4 : z - x < n
        · rw [if_pos (nI_lt c4 hn)]; exact ⟨fun _ => by omega, fun _ => rfl⟩
        · rw [if_neg (nI_nlt (by omega) (by omega))]; exact ⟨fun q => absurd q (by decide), fun q => absurd (by omega) q⟩
theorem copy_step (hT : PlS T) (hS : S.ok) (hC : RC T S C) (hM : RM S M) {i k x y n : Nat} (hi : i < 4) (hk : k < 4) (hx : x + n ≤ S.ssize i) (hy : y + n ≤ S.ssize k) :
    jX12_copyO (nI i) (nI x) (nI k) (nI y) (nI n) FU 0 0 M ∧ (jX12_copyI (nI i) (nI x) (nI k) (nI y) (nI n) FU 0 0 M).1 = nI n ∧ ∃ S' : St, S'.ok ∧ RC T S' (cpy2 C (72 + 2 * i) (72 + 2 * k) x y n) ∧ RM S' (jX12_copyI (nI i) (nI x) (nI k) (nI y) (nI n) FU 0 0 M).2 := by
  have z1 := hS.2.2.2.1 i hi
  have z2 := hS.2.2.2.1 k hk
  let g : Nat → Int32 := fun j => M 114 (8 * i + x + j)
  have E : Ends (fun m (s : Nat × Int32 × IM) => jX12_copyI (nI i) (nI x) (nI k) (nI y) (nI n) m s.1 s.2.1 s.2.2) (fun m s => jX12_copyO (nI i) (nI x) (nI k) (nI y) (nI n) m s.1 s.2.1 s.2.2) (n * 1 + (1 + (n * 1 + 1))) ((0, nI 0, M) : Nat × Int32 × IM) (nI n, rowU (rowU M 135 0 g n) 114 (8 * k + y) g n) := by
    have L1 := Go.loop (F := fun m (s : Nat × Int32 × IM) => jX12_copyI (nI i) (nI x) (nI k) (nI y) (nI n) m s.1 s.2.1 s.2.2) (O := fun m s => jX12_copyO (nI i) (nI x) (nI k) (nI y) (nI n) m s.1 s.2.1 s.2.2) (B := 1) (a := fun j => (0, nI j, rowU M 135 0 g j)) n fun j hj => Go.one fun m => ?_
    · rw [rowU_0] at L1
      refine L1.ends (Go.ends (s' := (1, nI 0, rowU M 135 0 g n)) (Go.one fun m => ?_) ?_)
      · dsimp only
        have c0 : n ≤ n := Nat.le_refl _
        rw [jX12_copyO_128, jX12_copyI_128]
        simp (disch := omega) only [nI_leI, eq_true c0, ↓reduceIte, not_true_eq_false, not_false_eq_true, true_imp_iff, false_imp_iff, implies_true, and_true, true_and, eq_self]
        first | exact id | exact ⟨id, rfl⟩
      · have L2 := Go.loop (F := fun m (s : Nat × Int32 × IM) => jX12_copyI (nI i) (nI x) (nI k) (nI y) (nI n) m s.1 s.2.1 s.2.2) (O := fun m s => jX12_copyO (nI i) (nI x) (nI k) (nI y) (nI n) m s.1 s.2.1 s.2.2) (B := 1) (a := fun j => (1, nI j, rowU (rowU M 135 0 g n) 114 (8 * k + y) g j)) n fun j hj => Go.one fun m => ?_
        · rw [rowU_0] at L2
          refine L2.ends (Ends.one fun m => ?_)
          dsimp only
          have c0 : n ≤ n := Nat.le_refl _
          rw [jX12_copyO_165, jX12_copyI_165]
          simp (disch := omega) only [nI_leI, eq_true c0, ↓reduceIte, not_true_eq_false, not_false_eq_true, true_imp_iff, false_imp_iff, implies_true, and_true, true_and, eq_self]
        · dsimp only
          have c0 : ¬ n ≤ j := by omega
          have v1 : vp_in (nI j) 8 := (vp_nI (by omega)).mpr (by omega)
          have v2 : vp_in (nI (8 * k + y + j)) 32 := (vp_nI (by omega)).mpr (by omega)
          have e : rowU (rowU M 135 0 g n) 114 (8 * k + y) g j 135 j = g j := by
            rw [rowU_ne (by omega)]
            have := rowU_at (C := M) (a := 135) (lo := 0) (g := g) hj
            rw [Nat.zero_add] at this
            exact this
          rw [jX12_copyO_165, jX12_copyI_165, show (8 : Int32) * nI k + nI y + nI j = nI (8 * k + y + j) by rw [li8, nI_mul, nI_add, nI_add], nI_clamp (by omega), nI_clamp (by omega), e, nI_1, rowU_1]
          simp (disch := omega) only [nI_leI, eq_false c0, eq_true v1, eq_true v2, ↓reduceIte, not_true_eq_false, not_false_eq_true, true_imp_iff, false_imp_iff, implies_true, and_true, true_and, eq_self]
          first | exact id | exact ⟨id, rfl⟩
    · dsimp only
      have c0 : ¬ n ≤ j := by omega
      have v1 : vp_in (nI j) 8 := (vp_nI (by omega)).mpr (by omega)
      have v2 : vp_in (nI (8 * i + x + j)) 32 := (vp_nI (by omega)).mpr (by omega)
      rw [jX12_copyO_128, jX12_copyI_128, show (8 : Int32) * nI i + nI x + nI j = nI (8 * i + x + j) by rw [li8, nI_mul, nI_add, nI_add], nI_clamp (by omega), nI_clamp (by omega), rowU_ne (by omega), nI_1, rowU_1, Nat.zero_add]
      simp (disch := omega) only [nI_leI, eq_false c0, eq_true v1, eq_true v2, ↓reduceIte, not_true_eq_false, not_false_eq_true, true_imp_iff, false_imp_iff, implies_true, and_true, true_and, eq_self]
      first | exact id | exact ⟨id, rfl⟩
  obtain ⟨r1, r2⟩ := E.use (f := FU) (by rw [FU_eq]; omega)
  have r2' : jX12_copyI (nI i) (nI x) (nI k) (nI y) (nI n) FU 0 0 M = (nI n, rowU (rowU M 135 0 g n) 114 (8 * k + y) g n) := r2
  refine ⟨r1, by rw [r2'], S.s_sh (put S.sh k (fun j => if y ≤ j ∧ j < y + n then S.sh i (x + (j - y)) else S.sh k j)), ?_⟩
  rw [r2']
  have cp : ∀ c j, cpy2 C (72 + 2 * i) (72 + 2 * k) x y n c j = if c = 72 + 2 * k then (if y ≤ j ∧ j < y + n then C (72 + 2 * i) (x + (j - y)) else C c j) else C c j := fun c j => by
    unfold cpy2 va_cpy
    by_cases e : c = 72 + 2 * k
    · rw [if_pos e, if_pos e, e]
    · rw [if_neg e, if_neg e]
  obtain ⟨-, -, oi⟩ := hC.2.2.2.2.2.2.2.2.2.2.2.2.2.2 i hi
  obtain ⟨-, -, pi⟩ := hM.2.2.2.2.2.2.2.2 i hi
  refine sh_upd hT hS hC hM ⟨rfl, rfl, rfl, rfl, rfl, rfl, rfl, rfl, rfl, rfl, rfl, rfl, rfl, rfl, rfl, rfl, rfl, rfl, rfl, rfl⟩ rfl ⟨rfl, rfl, rfl, rfl, rfl, rfl, rfl, rfl, rfl, rfl, rfl, rfl, rfl, rfl, rfl⟩ hS.2.2.2.1 (fun c q => funext fun j => by rw [cp, if_neg (by omega)]) (fun c q1 q2 => funext fun j => ?_) (fun t ht => ?_) (fun t ht => ?_)
  · show rowU (rowU M 135 0 g n) 114 (8 * k + y) g n c j = M c j
    rw [rowU_ne (by omega), rowU_ne (by omega)]
  · show cpy2 C (72 + 2 * i) (72 + 2 * k) x y n (71 + 2 * t) 1 = S.sbits t ∧ cpy2 C (72 + 2 * i) (72 + 2 * k) x y n (71 + 2 * t) 2 = nI (S.ssize t) ∧ ∀ j, j < 8 → cpy2 C (72 + 2 * i) (72 + 2 * k) x y n (72 + 2 * t) j = put S.sh k (fun j => if y ≤ j ∧ j < y + n then S.sh i (x + (j - y)) else S.sh k j) t j
    obtain ⟨o1, o2, o3⟩ := hC.2.2.2.2.2.2.2.2.2.2.2.2.2.2 t ht
    rw [cp, if_neg (by omega), cp, if_neg (by omega)]
    refine ⟨o1, o2, fun j hj => ?_⟩
    rw [cp]
    by_cases e : t = k
    · subst e
      rw [put_at, if_pos rfl]
      by_cases q : y ≤ j ∧ j < y + n
      · rw [if_pos q, if_pos q]; exact oi _ (by omega)
      · rw [if_neg q, if_neg q]; exact o3 j hj
    · rw [put_ne _ _ e, if_neg (by omega)]; exact o3 j hj
  · show rowU (rowU M 135 0 g n) 114 (8 * k + y) g n 112 t = S.sbits t ∧ rowU (rowU M 135 0 g n) 114 (8 * k + y) g n 113 t = nI (S.ssize t) ∧ ∀ j, j < 8 → rowU (rowU M 135 0 g n) 114 (8 * k + y) g n 114 (8 * t + j) = put S.sh k (fun j => if y ≤ j ∧ j < y + n then S.sh i (x + (j - y)) else S.sh k j) t j
    obtain ⟨o1, o2, o3⟩ := hM.2.2.2.2.2.2.2.2 t ht
    rw [rowU_ne (by omega), rowU_ne (by omega), rowU_ne (by omega), rowU_ne (by omega)]
    refine ⟨o1, o2, fun j hj => ?_⟩
    by_cases e : t = k
    · subst e
      rw [put_at]
      by_cases q : y ≤ j ∧ j < y + n
      · rw [show 8 * t + j = 8 * t + y + (j - y) by omega, rowU_at (by omega), if_pos q]
        show M 114 (8 * i + x + (j - y)) = _
        rw [Nat.add_assoc]
        exact pi _ (by omega)
      · rw [rowU_ne (by omega), rowU_ne (by omega), if_neg q]; exact o3 j hj
    · rw [put_ne _ _ e, rowU_ne (by omega), rowU_ne (by omega)]; exact o3 j hj
theorem sim_copy (hT : PlS T) (hS : S.ok) (hC : RC T S C) (hM : RM S M) (a1 a2 a3 a4 a5 : Int32) : jX11_copyK C a1 a2 a3 a4 a5 ∧ jX12_copyK M a1 a2 a3 a4 a5 ∧ jX11_copy C a1 a2 a3 a4 a5 = (jX12_copy M a1 a2 a3 a4 a5).1 ∧ ∃ S' : St, S'.ok ∧ RC T S' (jX11_copyM C a1 a2 a3 a4 a5) ∧ RM S' (jX12_copy M a1 a2 a3 a4 a5).2 := by
  unfold jX11_copyK jX12_copyK jX11_copy jX12_copy jX11_copyM jX12_finds
  by_cases c1 : wi a1 0 3
  · by_cases c3 : wi a3 0 3
    · obtain ⟨i, -, hi, rfl⟩ := wi_nI (a := 0) (b := 3) (by omega) c1 (by omega)
      obtain ⟨k, -, hk, rfl⟩ := wi_nI (a := 0) (b := 3) (by omega) c3 (by omega)
      have v : vp_in (nI i) 4 := (vp_nI (by omega)).mpr (by omega)
      have v' : vp_in (nI k) 4 := (vp_nI (by omega)).mpr (by omega)
      obtain ⟨o1, o2, o3⟩ := hC.2.2.2.2.2.2.2.2.2.2.2.2.2.2 i (by omega)
      obtain ⟨p1, p2, p3⟩ := hM.2.2.2.2.2.2.2.2 i (by omega)
      obtain ⟨o1', o2', o3'⟩ := hC.2.2.2.2.2.2.2.2.2.2.2.2.2.2 k (by omega)
      obtain ⟨p1', p2', p3'⟩ := hM.2.2.2.2.2.2.2.2 k (by omega)
      have z1 := hS.2.2.2.1 i (by omega)
      have z2 := hS.2.2.2.1 k (by omega)
      rw [nI_clamp (n := i) (by omega), nI_clamp (n := k) (by omega), o1, o1', p1, p1', p2, p2']
      by_cases d1 : S.sbits i = 0
      · simp only [eq_true c1, eq_true c3, eq_true d1, eq_true v, eq_true v', ↓reduceIte, not_true_eq_false, not_false_eq_true, true_imp_iff, false_imp_iff, implies_true, and_true, true_and, eq_self]
        exact bad hT hS hC hM
      · by_cases d2 : S.sbits k = 0
        · simp only [eq_true c1, eq_true c3, eq_false d1, eq_true d2, eq_true v, eq_true v', ↓reduceIte, not_true_eq_false, not_false_eq_true, true_imp_iff, false_imp_iff, implies_true, and_true, true_and, eq_self]
          exact bad hT hS hC hM
        · by_cases d3 : S.sbits i = S.sbits k
          · have r1 := run_iff (i := i) o2 z1 a2 a5
            have r2 := run_iff (i := k) o2' z2 a4 a5
            by_cases ok : ∃ x y n, x + n ≤ S.ssize i ∧ y + n ≤ S.ssize k ∧ a2 = nI x ∧ a4 = nI y ∧ a5 = nI n
            · obtain ⟨x, y, n, q1, q2, rfl, rfl, rfl⟩ := ok
              have s1 : ¬ jHasRun C i (nI x) (nI n) = 0 := fun q => r1.mp q ⟨x, n, q1, rfl, rfl⟩
              have s2 : ¬ jHasRun C k (nI y) (nI n) = 0 := fun q => r2.mp q ⟨y, n, q2, rfl, rfl⟩
              have t1 : ¬ nI x < 0 := nI_pos (by omega)
              have t2 : ¬ nI y < 0 := nI_pos (by omega)
              have t3 : ¬ nI n < 0 := nI_pos (by omega)
              have t4 : ¬ 0 < lg_cmp ((nI x).toInt64 + (nI n).toInt64) (nI (S.ssize i)).toInt64 := by
                rw [nI_l (by omega), nI_l (by omega), nI_l (by omega), lN_add]
                exact fun q => absurd ((lg_pos (by omega) (by omega)).mp q) (by omega)
              have t5 : lg_cmp ((nI y).toInt64 + (nI n).toInt64) (nI (S.ssize k)).toInt64 ≤ 0 := by
                rw [nI_l (by omega), nI_l (by omega), nI_l (by omega), lN_add]
                exact (lg_np (by omega) (by omega)).mpr q2
              obtain ⟨w1, w2, w3⟩ := copy_step hT hS hC hM (show i < 4 by omega) (show k < 4 by omega) q1 q2
              simp only [eq_true c1, eq_true c3, eq_false d1, eq_false d2, eq_true d3, eq_false s1, eq_false s2, eq_false t1, eq_false t2, eq_false t3, eq_false t4, eq_true t5, eq_true v, eq_true v', eq_true w1, ↓reduceIte, not_true_eq_false, not_false_eq_true, true_imp_iff, false_imp_iff, implies_true, and_true, true_and, eq_self]
              rw [nI_clamp (by omega), nI_clamp (by omega), nI_clamp (by omega)]
              exact ⟨⟨by omega, by omega⟩, w2.symm, w3⟩
            · have s : jHasRun C i a2 a5 = 0 ∨ jHasRun C k a4 a5 = 0 := by
                by_cases q : jHasRun C i a2 a5 = 0
                · exact .inl q
                · refine .inr (r2.mpr ?_)
                  rintro ⟨y, n, q1, q2, q3⟩
                  have q' : ∃ x n, x + n ≤ S.ssize i ∧ a2 = nI x ∧ a5 = nI n := by
                    by_cases q0 : ∃ x n, x + n ≤ S.ssize i ∧ a2 = nI x ∧ a5 = nI n
                    · exact q0
                    · exact absurd (r1.mpr q0) q
                  obtain ⟨x, n', q4, q5, q6⟩ := q'
                  have : n' = n := (nI_eq (by omega) (by omega)).mp (q6.symm.trans q3)
                  subst this
                  exact ok ⟨x, y, n', q4, q1, q5, q2, q6⟩
              have mbad : ((if a2 < 0 then ((-1000001 : Int32), jX12_findsM M) else if a4 < 0 then (-1000001, jX12_findsM M) else if a5 < 0 then (-1000001, jX12_findsM M) else if 0 < lg_cmp (a2.toInt64 + a5.toInt64) (nI (S.ssize i)).toInt64 then (-1000001, jX12_findsM M) else if lg_cmp (a4.toInt64 + a5.toInt64) (nI (S.ssize k)).toInt64 ≤ 0 then jX12_copyI (nI i) a2 (nI k) a4 a5 FU 0 0 M else (-1000001, jX12_findsM M)) = (-1000001, jX12_findsM M)) ∧ ((a2 < 0 → True) ∧ (¬ a2 < 0 → (a4 < 0 → True) ∧ (¬ a4 < 0 → (a5 < 0 → True) ∧ (¬ a5 < 0 → vp_in (nI i) 4 ∧ (0 < lg_cmp (a2.toInt64 + a5.toInt64) (nI (S.ssize i)).toInt64 → True) ∧ (¬ 0 < lg_cmp (a2.toInt64 + a5.toInt64) (nI (S.ssize i)).toInt64 → vp_in (nI k) 4 ∧ (lg_cmp (a4.toInt64 + a5.toInt64) (nI (S.ssize k)).toInt64 ≤ 0 → jX12_copyO (nI i) a2 (nI k) a4 a5 FU 0 0 M) ∧ (¬ lg_cmp (a4.toInt64 + a5.toInt64) (nI (S.ssize k)).toInt64 ≤ 0 → True)))))) := by
                by_cases t1 : a2 < 0
                · simp only [eq_true t1, ↓reduceIte, not_true_eq_false, not_false_eq_true, true_imp_iff, false_imp_iff, implies_true, and_true, true_and, eq_self]
                · by_cases t2 : a4 < 0
                  · simp only [eq_false t1, eq_true t2, ↓reduceIte, not_true_eq_false, not_false_eq_true, true_imp_iff, false_imp_iff, implies_true, and_true, true_and, eq_self]
                  · by_cases t3 : a5 < 0
                    · simp only [eq_false t1, eq_false t2, eq_true t3, ↓reduceIte, not_true_eq_false, not_false_eq_true, true_imp_iff, false_imp_iff, implies_true, and_true, true_and, eq_self]
                    · obtain ⟨x, hx, rfl⟩ := nI_of t1
                      obtain ⟨y, hy, rfl⟩ := nI_of t2
                      obtain ⟨n, hn, rfl⟩ := nI_of t3
                      rw [nI_l hx, nI_l hy, nI_l hn, nI_l (by omega), nI_l (by omega), lN_add, lN_add]
                      by_cases t4 : 0 < lg_cmp (lN (x + n)) (lN (S.ssize i))
                      · simp only [eq_false t1, eq_false t2, eq_false t3, eq_true t4, eq_true v, ↓reduceIte, not_true_eq_false, not_false_eq_true, true_imp_iff, false_imp_iff, implies_true, and_true, true_and, eq_self]
                      · have t5 : ¬ lg_cmp (lN (y + n)) (lN (S.ssize k)) ≤ 0 := fun q => by
                          have u1 := (lg_np (a := y + n) (b := S.ssize k) (by omega) (by omega)).mp q
                          have u2 : ¬ S.ssize i < x + n := fun q => t4 ((lg_pos (by omega) (by omega)).mpr q)
                          exact ok ⟨x, y, n, by omega, u1, rfl, rfl, rfl⟩
                        simp only [eq_false t1, eq_false t2, eq_false t3, eq_false t4, eq_false t5, eq_true v, eq_true v', ↓reduceIte, not_true_eq_false, not_false_eq_true, true_imp_iff, false_imp_iff, implies_true, and_true, true_and, eq_self]
              rcases s with s | s
              · simp only [eq_true c1, eq_true c3, eq_false d1, eq_false d2, eq_true d3, eq_true s, eq_true v, eq_true v', ↓reduceIte, not_true_eq_false, not_false_eq_true, true_imp_iff, false_imp_iff, implies_true, and_true, true_and, eq_self]
                refine ⟨fun q1 q2 q3 q4 q5 => ((((mbad.2.2 q1).2 q2).2 q3).2.2 q4).2.1 q5, ?_⟩
                rw [mbad.1]
                exact ⟨rfl, bad hT hS hC hM⟩
              · by_cases s' : jHasRun C i a2 a5 = 0
                · simp only [eq_true c1, eq_true c3, eq_false d1, eq_false d2, eq_true d3, eq_true s', eq_true v, eq_true v', ↓reduceIte, not_true_eq_false, not_false_eq_true, true_imp_iff, false_imp_iff, implies_true, and_true, true_and, eq_self]
                  refine ⟨fun q1 q2 q3 q4 q5 => ((((mbad.2.2 q1).2 q2).2 q3).2.2 q4).2.1 q5, ?_⟩
                  rw [mbad.1]
                  exact ⟨rfl, bad hT hS hC hM⟩
                · simp only [eq_true c1, eq_true c3, eq_false d1, eq_false d2, eq_true d3, eq_false s', eq_true s, eq_true v, eq_true v', ↓reduceIte, not_true_eq_false, not_false_eq_true, true_imp_iff, false_imp_iff, implies_true, and_true, true_and, eq_self]
                  refine ⟨fun q1 q2 q3 q4 q5 => ((((mbad.2.2 q1).2 q2).2 q3).2.2 q4).2.1 q5, ?_⟩
                  rw [mbad.1]
                  exact ⟨rfl, bad hT hS hC hM⟩
          · simp only [eq_true c1, eq_true c3, eq_false d1, eq_false d2, eq_false d3, eq_true v, eq_true v', ↓reduceIte, not_true_eq_false, not_false_eq_true, true_imp_iff, false_imp_iff, implies_true, and_true, true_and, eq_self]
            exact bad hT hS hC hM
    · simp only [eq_true c1, eq_false c3, ↓reduceIte, not_true_eq_false, not_false_eq_true, true_imp_iff, false_imp_iff, implies_true, and_true, true_and, eq_self]
      exact bad hT hS hC hM
  · simp only [eq_false c1, ↓reduceIte, not_true_eq_false, not_false_eq_true, true_imp_iff, false_imp_iff, implies_true, and_true, true_and, eq_self]
    exact bad hT hS hC hM
end SIM
end
