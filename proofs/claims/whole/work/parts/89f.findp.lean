noncomputable section
section GATH
variable {T : Topo} {S : St} {C : IM} {i : Nat}
theorem gaL_stop {s k : Nat} : ∀ d, (∀ m, k ≤ m → m < k + d → S.bd s < S.latW s m) → S.gaL s 0 (k + d) = S.gaL s 0 k
  | 0, _ => rfl
  | d + 1, h => by
    have := h (k + d) (by omega) (by omega)
    rw [← Nat.add_assoc, gaL_one, gaL_stop d (fun m q1 q2 => h m q1 (by omega)), if_neg (by omega), List.append_nil]
theorem first_late (s : Nat) : ∀ n, ∃ k, k ≤ n ∧ (∀ m, m < k → S.latW s m ≤ S.bd s) ∧ (k = n ∨ S.bd s < S.latW s k)
  | 0 => ⟨0, Nat.le_refl _, fun m h => absurd h (Nat.not_lt_zero _), .inl rfl⟩
  | n + 1 => by
    obtain ⟨k, h1, h2, h3⟩ := first_late s n
    rcases h3 with h3 | h3
    · subst h3
      by_cases c : S.latW s k ≤ S.bd s
      · refine ⟨k + 1, Nat.le_refl _, fun m hm => ?_, .inl rfl⟩
        by_cases e : m = k
        · subst e; exact c
        · exact h2 m (by omega)
      · exact ⟨k, Nat.le_succ _, h2, .inr (by omega)⟩
    · exact ⟨k, by omega, h2, .inr h3⟩
theorem gather_C (hT : PlS T) (hi : i < 8) (hN : S.netOk) (hsl : S.slOk) {s : Nat} (hs : s < S.ns) (hW : WyC S s C) :
    jX6_gatherK T C i s ∧ GatS T i (S.plist s) (jX6_gather T C i s) ∧ FrP T i C (jX6_gather T C i s) := by
  have h8 := hsl.1
  have h27 : S.wn s ≤ 27 := wayA_27 hN _ _
  obtain ⟨t1, -⟩ := hT i hi
  have hbd := (hsl.2.1 s hs).2.2.2.2.2.2.2.1
  have hkd := (hsl.2.1 s hs).1
  unfold jX6_gatherK jX6_gather
  have f0 : FrP T i C (up2 C (18 + 4 * i) 3 0) := fun k j q1 q2 => by rw [up2_ap, if_neg q1]
  obtain ⟨K, k1, k2, k3⟩ := first_late (S := S) s (S.wn s)
  have sorted : S.gaL s 0 K = S.plist s := by
    unfold St.plist
    obtain ⟨d, hd⟩ : ∃ d, S.wn s = K + d := ⟨S.wn s - K, by omega⟩
    rw [hd, gaL_stop d fun m q1 q2 => ?_]
    rcases k3 with k3 | k3
    · omega
    · have := way_sorted S (S.sa s) (S.sb s) K m q1 (show m < S.wn s by omega)
      exact Nat.lt_of_lt_of_le k3 this
  obtain ⟨⟨v, C'⟩, ⟨e, p1, p2⟩, go⟩ := Go.loopE (F := fun n (t : Int32 × IM) => jX6_gatherI T i s n t.1 t.2) (O := fun n t => jX6_gatherO T i s n t.1 t.2) (B := 1) (P := fun k t => t.1 = nI k ∧ GatS T i (S.gaL s 0 k) t.2 ∧ FrP T i C t.2) K
    (fun k hk t ht => by
      obtain ⟨v, I⟩ := t
      obtain ⟨e, p1, p2⟩ := ht
      dsimp only at e p1 p2
      subst e
      have hI := hW.frp hT hi (by omega) p2
      have hk' : k < S.wn s := by omega
      obtain ⟨w1, w2, w3, w4, w5, w6⟩ := way_facts hN hsl hs hk'
      have c0 : ¬ S.wn s ≤ k := by omega
      have c1 := k2 k hk
      have hl := gaL_len hN s k
      have kA : jKeyAtK (nI k) := (vp_nI (by omega)).mpr (by omega)
      have ky : jKeyAt I (nI k) = nI (keyN S (S.wy s k)) := by
        unfold jKeyAt
        rw [nI_clamp (by omega)]
        exact hI.2.1.2 k hk'
      obtain ⟨l1, l2⟩ := linesIn_key w2 I
      have l2' : jLinesIn I (nI (keyN S (S.wy s k))) = nI (S.setW s k) := l2
      obtain ⟨n3, n4⟩ := nodesOn_C hN hI.1 (s := S.setW s k) w3
      rw [w5] at n4
      have lk : jLateOf (nI (keyN S (S.wy s k))) = nI (S.latW s k) := late_key w2
      have kk : I 4 4 = nI (S.wn s) := hI.2.1.1
      obtain ⟨o1, o2⟩ := isOf_0 (k := 1) hI.2.2.2 hkd (by omega)
      have o1' : jX8_isOfK I s 1 := o1
      have o2' : jX8_isOf I s 1 = if S.kd s = 1 then 1 else 0 := by
        rw [show jX8_isOf I s 1 = _ from o2]
        by_cases q : S.kd s = 1
        · rw [if_pos q, if_pos (.inl q.symm)]
        · rw [if_neg q, if_neg (by omega)]
      rw [gaL_one, if_pos c1]
      by_cases c2 : S.kd s = 1
      · obtain ⟨h1, h2, h3⟩ := spares_C hT hi hN hsl hs hI (L := S.gaL s 0 k) hk' (by omega) p1
        rw [if_pos c2]
        refine ⟨(nI (k + 1), _), ⟨rfl, h2, p2.trans h3⟩, Go.one fun n => ?_⟩
        have z : ¬ (1 : Int32) = 0 := by decide
        dsimp only
        rw [jX6_gatherO_8, jX6_gatherI_8, kk, ky, lk, hI.2.2.1, l2', o2', if_pos c2, nI_1]
        simp (disch := omega) only [nI_leI, eq_false c0, eq_true c1, eq_false z, eq_true kA, eq_true l1, eq_true o1', eq_true h1, ↓reduceIte, not_true_eq_false, not_false_eq_true, true_imp_iff, false_imp_iff, implies_true, and_true, true_and, eq_self]
        first | exact id | exact ⟨id, rfl⟩
      · obtain ⟨h1, h2, h3⟩ := gatherHosts_C hT hi hN hI.1 (L := S.gaL s 0 k) (w := S.setW s k) (u := 0) (h := S.nodW s k) w3 (by omega) w4 (by omega) p1
        rw [if_neg c2]
        refine ⟨(nI (k + 1), _), ⟨rfl, h2, p2.trans h3⟩, Go.one fun n => ?_⟩
        have h1' : jX6_gatherHostsK T I i (nI (S.setW s k)) 0 (nI (S.nodW s k)) := h1
        dsimp only
        rw [jX6_gatherO_8, jX6_gatherI_8, kk, ky, lk, hI.2.2.1, l2', o2', if_neg c2, n4, nI_1]
        simp (disch := omega) only [nI_leI, eq_false c0, eq_true c1, eq_true kA, eq_true l1, eq_true o1', eq_true n3, eq_true h1', ↓reduceIte, not_true_eq_false, not_false_eq_true, true_imp_iff, false_imp_iff, implies_true, and_true, true_and, eq_self]
        first | exact id | exact ⟨id, rfl⟩)
    ((nI 0, up2 C (18 + 4 * i) 3 0) : Int32 × IM) ⟨rfl, ⟨by show up2 C (18 + 4 * i) 3 0 (18 + 4 * i) 3 = _; rw [up2_at]; rfl, fun p hp => absurd hp (by simp [St.gaL])⟩, f0⟩
  dsimp only at e p1 p2
  subst e
  rw [sorted] at p1
  have hI := hW.frp hT hi (by omega) p2
  have kk : C' 4 4 = nI (S.wn s) := hI.2.1.1
  have E := go.ends (Ends.one (b := C') fun n => by
    dsimp only
    rw [jX6_gatherO_8, jX6_gatherI_8, kk]
    by_cases c : K = S.wn s
    · have c0 : S.wn s ≤ K := by omega
      simp (disch := omega) only [nI_leI, eq_true c0, ↓reduceIte, not_true_eq_false, not_false_eq_true, true_imp_iff, false_imp_iff, implies_true, and_true, true_and, eq_self]
    · have c0 : ¬ S.wn s ≤ K := by omega
      have hk' : K < S.wn s := by omega
      obtain ⟨w1, w2, w3, w4, w5, w6⟩ := way_facts hN hsl hs hk'
      have kA : jKeyAtK (nI K) := (vp_nI (by omega)).mpr (by omega)
      have ky : jKeyAt C' (nI K) = nI (keyN S (S.wy s K)) := by
        unfold jKeyAt
        rw [nI_clamp (by omega)]
        exact hI.2.1.2 K hk'
      have lk : jLateOf (nI (keyN S (S.wy s K))) = nI (S.latW s K) := late_key w2
      have c1 : ¬ S.latW s K ≤ S.bd s := by omega
      rw [ky, lk, hI.2.2.1]
      simp (disch := omega) only [nI_leI, eq_false c0, eq_false c1, eq_true kA, ↓reduceIte, not_true_eq_false, not_false_eq_true, true_imp_iff, false_imp_iff, implies_true, and_true, true_and, eq_self])
  obtain ⟨r1, r2⟩ := E.use (f := FU) (by rw [FU_eq]; omega)
  have r2' : jX6_gatherI T i s FU 0 (up2 C (18 + 4 * i) 3 0) = C' := r2
  rw [r2']
  exact ⟨r1, p1, p2⟩
theorem RC.rows {T' : Topo} {C' : IM} (hS : S.ok) (hC : RC T S C) (f : ∀ k j, k < 79 → k ≠ 4 → k ≠ 5 → ¬ (17 ≤ k ∧ k < 49 ∧ k % 4 ≠ 1) → C' k j = C k j) (w : cWays S C') (p : cPlc T' S C') : RC T' S C' := by
  obtain ⟨h1, h2, h3, h4, h5, h6, h7, ⟨h8, h8'⟩, h9, h10, h11, h12, h13, h14, h15⟩ := hC
  have h8n := hS.2.1.1
  have f' : ∀ k, k < 79 → k ≠ 4 → k ≠ 5 → ¬ (17 ≤ k ∧ k < 49 ∧ k % 4 ≠ 1) → C' k = C k := fun k q1 q2 q3 q4 => funext fun j => f k j q1 q2 q3 q4
  exact ⟨h1.of fun k j q => f k j (by omega) (by omega) (by omega) (by omega), h2.of fun k j q1 q2 q3 => f k j (by omega) (by omega) (by omega) (by omega), h3.of (f _ _ (by omega) (by omega) (by omega) (by omega)), h4.of fun k j q => f k j (by rcases q with q | ⟨s, q1, q2, q3⟩ <;> omega) (by rcases q with q | ⟨s, q1, q2, q3⟩ <;> omega) (by rcases q with q | ⟨s, q1, q2, q3⟩ <;> omega) (by rcases q with q | ⟨s, q1, q2, q3⟩ <;> omega), h5.of fun s hs => f _ _ (by omega) (by omega) (by omega) (by omega), h6.of fun s hs => f _ _ (by omega) (by omega) (by omega) (by omega), h7.of fun s j hs q1 q2 => f _ _ (by omega) (by omega) (by omega) (by omega), ⟨by rw [f _ _ (by omega) (by omega) (by omega) (by omega)]; exact h8, h8'.of fun k q1 q2 => f' k (by omega) (by omega) (by omega) (by omega)⟩, h9.of fun k q1 q2 => f' k (by omega) (by omega) (by omega) (by omega), w, p, h12.of (f' _ (by omega) (by omega) (by omega) (by omega)), h13.of (f _ _ (by omega) (by omega) (by omega) (by omega)), h14.of (f _ _ (by omega) (by omega) (by omega) (by omega)), h15.of fun k q1 q2 => f' k (by omega) (by omega) (by omega) (by omega)⟩
/-! new rows -/
theorem fT_plA (hL : Lay T) (hP : Pl T) (hT : PlS T) (hi : i < 8) (N : Nat) {j : Nat} (hj : j < 8) : plA (fT T i N) j = (if j = i then tN T else plA T j) ∧ plB (fT T i N) j = (if j = i then tN T + 1 else plB T j) := by
  have hn := hL.1
  unfold plA plB
  rw [fT_R hn hi N _ 0 (by omega), fT_R hn hi N _ 1 (by omega)]
  by_cases e : j = i
  · subst e
    simp
  · have e' : ¬ 4 * j = 4 * i := by omega
    simp [e, e']
theorem fT_L (T : Topo) (i N k : Nat) : tL (fT T i N) k = if k = tN T ∨ k = tN T + 1 then N else tL T k := by
  unfold fT setR newT va_up tL tN
  dsimp only
  by_cases h1 : k = T.1
  · subst h1
    simp
  · by_cases h2 : k = T.1 + 1
    · subst h2; simp
    · simp [h1, h2]
theorem fT_PlS (hL : Lay T) (hP : Pl T) (hT : PlS T) (hi : i < 8) {N : Nat} (hN : N ≤ 4374) : PlS (fT T i N) := by
  have hn := hL.1
  intro j hj
  obtain ⟨a1, b1⟩ := fT_plA hL hP hT hi N hj
  obtain ⟨t1, t2, t3, t4, t5, t6, t7, t8⟩ := hT j hj
  by_cases e : j = i
  · subst e
    rw [if_pos rfl] at a1 b1
    rw [a1, b1, fT_N, fT_L, fT_L, if_pos (.inr rfl), if_pos (.inl rfl)]
    refine ⟨by omega, by omega, by omega, by omega, rfl, hN, fun k hk => ?_, fun k hk hne => ?_⟩
    · obtain ⟨-, b2⟩ := fT_plA hL hP hT hi N hk
      obtain ⟨-, -, -, s4, -⟩ := hT k hk
      rw [b2]
      split <;> omega
    · obtain ⟨a2, b2⟩ := fT_plA hL hP hT hi N hk
      obtain ⟨-, -, s3, s4, -⟩ := hT k hk
      rw [a2, b2, if_neg (by omega), if_neg (by omega)]
      omega
  · rw [if_neg e] at a1 b1
    rw [a1, b1, fT_N, fT_L, fT_L, if_neg (by omega), if_neg (by omega)]
    refine ⟨t1, t2, by omega, by omega, t5, t6, fun k hk => ?_, fun k hk hne => ?_⟩
    · obtain ⟨-, b2⟩ := fT_plA hL hP hT hi N hk
      rw [b2]
      split
      · omega
      · exact t7 k hk
    · obtain ⟨a2, b2⟩ := fT_plA hL hP hT hi N hk
      rw [a2, b2]
      split
      · omega
      · exact t8 k hk hne
theorem phi_one {C' : IM} (hi : i < 8) (f : ∀ j, j < 8 → j ≠ i → C' (18 + 4 * j) 2 = C (18 + 4 * j) 2) (h : (C (18 + 4 * i) 2 + 1).toNatClampNeg + 1 ≤ (C' (18 + 4 * i) 2 + 1).toNatClampNeg) : phi C 8 + 1 ≤ phi C' 8 := by
  have key : ∀ n, n ≤ 8 → phi C n + (if i < n then 1 else 0) ≤ phi C' n := by
    intro n
    induction n with
    | zero => intro _; exact Nat.le_refl _
    | succ n ih =>
      intro hn
      have := ih (by omega)
      unfold phi
      by_cases e : n = i
      · subst e
        rw [if_neg (by omega)] at this
        rw [if_pos (by omega)]
        omega
      · rw [f n (by omega) e]
        by_cases q : i < n
        · rw [if_pos q] at this; rw [if_pos (by omega)]; omega
        · rw [if_neg q] at this; rw [if_neg (by omega)]; omega
  have := key 8 (Nat.le_refl _)
  rw [if_pos hi] at this
  exact this
end GATH
end
