noncomputable section
section LY
variable {T : Topo} {S : St} {C M A : IM}
theorem parts_of (hN : S.netOk) {s : Nat} {w u : List Nat} {h : Nat} (q : S.isPl s w u h) : wayN (placeN (setOf w) (setOf u) h) = setOf w ∧ spaN (placeN (setOf w) (setOf u) h) = setOf u ∧ hosN (placeN (setOf w) (setOf u) h) = h ∧ h < 6 ∧ setOf w < 512 ∧ setOf u < 512 := by
  obtain ⟨q1, q2, q3, q4⟩ := q
  have h9 := hN.2.1
  have h6 := hN.1
  have p9 : 2 ^ S.nl ≤ 512 := Nat.pow_le_pow_right (n := 2) (by omega) h9
  have b1 := path_set w _ _ q1
  have b2 : setOf u < 512 := by
    by_cases c : S.kd s = 1
    · have := path_set u _ _ (q4 c).1; omega
    · rw [q3 c]; show 0 < 512; omega
  refine ⟨?_, ?_, ?_, by omega, by omega, b2⟩
  · unfold wayN placeN; omega
  · unfold spaN placeN; omega
  · unfold hosN placeN; omega
theorem rows_same (hN : S.netOk) {s : Nat} {w u w' u' : List Nat} {h h' : Nat} (q : S.isPl s w u h) (q' : S.isPl s w' u' h') (e : placeN (setOf w) (setOf u) h = placeN (setOf w') (setOf u') h') : w = w' ∧ u = u' := by
  obtain ⟨a1, a2, a3, -⟩ := parts_of hN q
  obtain ⟨b1, b2, b3, -⟩ := parts_of hN q'
  rw [e] at a1 a2 a3
  have ew := a1.symm.trans b1
  have eu := a2.symm.trans b2
  obtain ⟨q1, q2, q3, q4⟩ := q
  obtain ⟨r1, r2, r3, r4⟩ := q'
  refine ⟨path_uniq _ _ _ _ q1 r1 (by rw [pow_bit]; simp) ew, ?_⟩
  by_cases c : S.kd s = 1
  · exact path_uniq _ _ _ _ (q4 c).1 (r4 c).1 (by rw [pow_bit]; simp) eu
  · rw [q3 c, r3 c]
abbrev uF (set : Int32) (A : IM) : Nat → Int32 × Int32 → Int32 × IM := fun n t => jX12_layI set n t.1 t.2 A
abbrev uO (set : Int32) (A : IM) : Nat → Int32 × Int32 → Prop := fun n t => jX12_layO set n t.1 t.2 A
theorem lay_step (set : Int32) (h8 : S.ns ≤ 8) (e2 : A 79 2 = nI S.ns) {k : Nat} (hk : k < S.ns) (v : Int32) :
    (A 128 k = 0 → Go (uF set A) (uO set A) 1 (v, nI k) (v + 0, nI (k + 1))) ∧
    (A 106 k ≠ 0 → A 107 k = A 129 k → A 109 k = A 131 k → A 108 k = A 130 k → A 110 k = A 132 k → A 111 k = A 133 k → Go (uF set A) (uO set A) 1 (v, nI k) (v + 0, nI (k + 1))) ∧
    (A 128 k ≠ 0 → ¬ (A 106 k ≠ 0 ∧ A 107 k = A 129 k ∧ A 108 k = A 130 k ∧ A 111 k = A 133 k) → ¬ (A 106 k ≠ 0 ∧ A 107 k = A 129 k ∧ A 109 k = A 131 k ∧ A 108 k = A 130 k ∧ A 110 k = A 132 k ∧ A 111 k = A 133 k) → Go (uF set A) (uO set A) 1 (v, nI k) (v + 1, nI (k + 1))) := by
  have c0 : ¬ S.ns ≤ k := by omega
  have v8 : vp_in (nI k) 8 := (vp_nI (by omega)).mpr (by omega)
  refine ⟨fun z => Go.one fun n => ?_, fun d0 d1 d2 d3 d4 d5 => Go.one fun n => ?_, fun z nz _ => Go.one fun n => ?_⟩
  · dsimp only [uF, uO]
    rw [jX12_layO_64, jX12_layI_64, e2, nI_clamp (by omega), nI_1]
    by_cases d0 : A 106 k = 0
    · simp (disch := omega) only [nI_leI, eq_false c0, eq_true v8, eq_true z, eq_true d0, ↓reduceIte, not_true_eq_false, not_false_eq_true, true_imp_iff, false_imp_iff, implies_true, and_true, true_and, eq_self]
      first | exact id | exact ⟨id, rfl⟩
    · by_cases d1 : A 107 k = A 129 k
      · by_cases d2 : A 109 k = A 131 k
        · by_cases d3 : A 108 k = A 130 k
          · by_cases d4 : A 110 k = A 132 k
            · by_cases d5 : A 111 k = A 133 k
              · simp (disch := omega) only [nI_leI, eq_false c0, eq_true v8, eq_true z, eq_false d0, eq_true d1, eq_true d2, eq_true d3, eq_true d4, eq_true d5, ↓reduceIte, not_true_eq_false, not_false_eq_true, true_imp_iff, false_imp_iff, implies_true, and_true, true_and, eq_self]
                first | exact id | exact ⟨id, rfl⟩
              · simp (disch := omega) only [nI_leI, eq_false c0, eq_true v8, eq_true z, eq_false d0, eq_true d1, eq_true d2, eq_true d3, eq_true d4, eq_false d5, ↓reduceIte, not_true_eq_false, not_false_eq_true, true_imp_iff, false_imp_iff, implies_true, and_true, true_and, eq_self]
                first | exact id | exact ⟨id, rfl⟩
            · simp (disch := omega) only [nI_leI, eq_false c0, eq_true v8, eq_true z, eq_false d0, eq_true d1, eq_true d2, eq_true d3, eq_false d4, ↓reduceIte, not_true_eq_false, not_false_eq_true, true_imp_iff, false_imp_iff, implies_true, and_true, true_and, eq_self]
              first | exact id | exact ⟨id, rfl⟩
          · simp (disch := omega) only [nI_leI, eq_false c0, eq_true v8, eq_true z, eq_false d0, eq_true d1, eq_true d2, eq_false d3, ↓reduceIte, not_true_eq_false, not_false_eq_true, true_imp_iff, false_imp_iff, implies_true, and_true, true_and, eq_self]
            first | exact id | exact ⟨id, rfl⟩
        · simp (disch := omega) only [nI_leI, eq_false c0, eq_true v8, eq_true z, eq_false d0, eq_true d1, eq_false d2, ↓reduceIte, not_true_eq_false, not_false_eq_true, true_imp_iff, false_imp_iff, implies_true, and_true, true_and, eq_self]
          first | exact id | exact ⟨id, rfl⟩
      · simp (disch := omega) only [nI_leI, eq_false c0, eq_true v8, eq_true z, eq_false d0, eq_false d1, ↓reduceIte, not_true_eq_false, not_false_eq_true, true_imp_iff, false_imp_iff, implies_true, and_true, true_and, eq_self]
        first | exact id | exact ⟨id, rfl⟩
  · dsimp only [uF, uO]
    rw [jX12_layO_64, jX12_layI_64, e2, nI_clamp (by omega), nI_1]
    by_cases z : A 128 k = 0
    · simp (disch := omega) only [nI_leI, eq_false c0, eq_true v8, eq_true z, eq_false d0, eq_true d1, eq_true d2, eq_true d3, eq_true d4, eq_true d5, ↓reduceIte, not_true_eq_false, not_false_eq_true, true_imp_iff, false_imp_iff, implies_true, and_true, true_and, eq_self]
      first | exact id | exact ⟨id, rfl⟩
    · simp (disch := omega) only [nI_leI, eq_false c0, eq_true v8, eq_false z, eq_false d0, eq_true d1, eq_true d2, eq_true d3, eq_true d4, eq_true d5, ↓reduceIte, not_true_eq_false, not_false_eq_true, true_imp_iff, false_imp_iff, implies_true, and_true, true_and, eq_self]
      first | exact id | exact ⟨id, rfl⟩
  · dsimp only [uF, uO]
    rw [jX12_layO_64, jX12_layI_64, e2, nI_clamp (by omega), nI_1]
    by_cases d0 : A 106 k = 0
    · simp (disch := omega) only [nI_leI, eq_false c0, eq_true v8, eq_false z, eq_true d0, ↓reduceIte, not_true_eq_false, not_false_eq_true, true_imp_iff, false_imp_iff, implies_true, and_true, true_and, eq_self]
      first | exact id | exact ⟨id, rfl⟩
    · by_cases d1 : A 107 k = A 129 k
      · by_cases d2 : A 109 k = A 131 k
        · by_cases d3 : A 108 k = A 130 k
          · by_cases d4 : A 110 k = A 132 k
            · have d5 : ¬ A 111 k = A 133 k := fun d5 => nz ⟨d0, d1, d3, d5⟩
              simp (disch := omega) only [nI_leI, eq_false c0, eq_true v8, eq_false z, eq_false d0, eq_true d1, eq_true d2, eq_true d3, eq_true d4, eq_false d5, ↓reduceIte, not_true_eq_false, not_false_eq_true, true_imp_iff, false_imp_iff, implies_true, and_true, true_and, eq_self]
              first | exact id | exact ⟨id, rfl⟩
            · simp (disch := omega) only [nI_leI, eq_false c0, eq_true v8, eq_false z, eq_false d0, eq_true d1, eq_true d2, eq_true d3, eq_false d4, ↓reduceIte, not_true_eq_false, not_false_eq_true, true_imp_iff, false_imp_iff, implies_true, and_true, true_and, eq_self]
              first | exact id | exact ⟨id, rfl⟩
          · simp (disch := omega) only [nI_leI, eq_false c0, eq_true v8, eq_false z, eq_false d0, eq_true d1, eq_true d2, eq_false d3, ↓reduceIte, not_true_eq_false, not_false_eq_true, true_imp_iff, false_imp_iff, implies_true, and_true, true_and, eq_self]
            first | exact id | exact ⟨id, rfl⟩
        · simp (disch := omega) only [nI_leI, eq_false c0, eq_true v8, eq_false z, eq_false d0, eq_true d1, eq_false d2, ↓reduceIte, not_true_eq_false, not_false_eq_true, true_imp_iff, false_imp_iff, implies_true, and_true, true_and, eq_self]
          first | exact id | exact ⟨id, rfl⟩
      · simp (disch := omega) only [nI_leI, eq_false c0, eq_true v8, eq_false z, eq_false d0, eq_false d1, ↓reduceIte, not_true_eq_false, not_false_eq_true, true_imp_iff, false_imp_iff, implies_true, and_true, true_and, eq_self]
        first | exact id | exact ⟨id, rfl⟩
theorem count_M (hN : S.netOk) (hsl : S.slOk) {P Q : Nat → Nat} (hO : mPl S P M) (hQ : mPl S Q A) (hK : Kp M A) (e2 : A 79 2 = nI S.ns) (set : Int32) : jX12_layO set FU 0 0 A ∧ jX12_layI set FU 0 0 A = (nI (dif P Q S.ns), A) := by
  have h8 := hsl.1
  have E : Ends (uF set A) (uO set A) (S.ns * 1 + 1) (nI (dif P Q 0), nI 0) (nI (dif P Q S.ns), A) := by
    refine Go.ends (s' := (nI (dif P Q S.ns), nI S.ns)) (Go.loop (a := fun k => (nI (dif P Q k), nI k)) S.ns fun k hk => ?_) (Ends.one fun n => ?_)
    · obtain ⟨s1, s2, s3⟩ := lay_step set h8 e2 hk (nI (dif P Q k))
      have a0 : nI (dif P Q k) + 0 = nI (dif P Q k) := Int32.add_zero _
      have a1 := nI_1 (dif P Q k)
      rw [a0] at s1 s2
      rw [a1] at s3
      have ed : dif P Q (k + 1) = dif P Q k + (if P k ≠ 0 ∧ Q k ≠ P k then 1 else 0) := rfl
      have k6 := hK 106 k (by omega) (by omega) (by omega)
      have k7 := hK 107 k (by omega) (by omega) (by omega)
      have k8 := hK 108 k (by omega) (by omega) (by omega)
      have k9 := hK 109 k (by omega) (by omega) (by omega)
      have k10 := hK 110 k (by omega) (by omega) (by omega)
      have k11 := hK 111 k (by omega) (by omega) (by omega)
      simp only [Nat.reduceAdd] at k6 k7 k8 k9 k10 k11
      obtain ⟨o1, o2⟩ := hO k (by omega)
      obtain ⟨n1, n2⟩ := hQ k (by omega)
      by_cases c : P k = 0
      · rw [ed, if_neg (fun q => q.1 c)]
        exact s1 (by rw [k6]; exact o1 c)
      · obtain ⟨m1, m2, m3, m4, w, u, x, m5, m6, m7, m8⟩ := o2 c
        have z1 : A 128 k ≠ 0 := by rw [k6, m1]; decide
        by_cases d : Q k = 0
        · have ne : Q k ≠ P k := fun q => c (by rw [← q]; exact d)
          rw [ed, if_pos ⟨c, ne⟩]
          exact s3 z1 (fun q => q.1 (n1 d)) (fun q => q.1 (n1 d))
        · obtain ⟨p1, p2, p3, p4, w', u', x', p5, p6, p7, p8⟩ := n2 d
          have z2 : A 106 k ≠ 0 := by rw [p1]; decide
          by_cases e : Q k = P k
          · rw [ed, if_neg (fun q => q.2 e)]
            obtain ⟨ew, eu⟩ := rows_same hN p5 m5 (by rw [← p6, ← m6, e])
            refine s2 z2 ?_ ?_ ?_ ?_ ?_
            · rw [k7, p2, m2, e]
            · rw [k9, p7, m7, ew]
            · rw [k8, p3, m3, e]
            · rw [k10, p8, m8, eu]
            · rw [k11, p4, m4, e]
          · rw [ed, if_pos ⟨c, e⟩]
            have key : ¬ (A 106 k ≠ 0 ∧ A 107 k = A 129 k ∧ A 108 k = A 130 k ∧ A 111 k = A 133 k) := by
              rintro ⟨-, f1, f2, f3⟩
              rw [k7, p2, m2] at f1
              rw [k8, p3, m3] at f2
              rw [k11, p4, m4] at f3
              obtain ⟨r1, r2, r3, r4, -⟩ := parts_of hN m5
              obtain ⟨t1, t2, t3, t4, -⟩ := parts_of hN p5
              have hP6 : hosN (P k) < 6 := by rw [m6, r3]; exact r4
              have hQ6 : hosN (Q k) < 6 := by rw [p6, t3]; exact t4
              have g1 := (nI_eq (a := wayN (Q k)) (b := wayN (P k)) (by unfold wayN; omega) (by unfold wayN; omega)).mp f1
              have g2 := (nI_eq (a := spaN (Q k)) (b := spaN (P k)) (by unfold spaN; omega) (by unfold spaN; omega)).mp f2
              have g3 := (nI_eq (a := hosN (Q k)) (b := hosN (P k)) (by omega) (by omega)).mp f3
              unfold wayN at g1
              unfold spaN at g2
              unfold hosN at g3
              omega
            exact s3 z1 key (fun q => key ⟨q.1, q.2.1, q.2.2.2.1, q.2.2.2.2.2⟩)
    · dsimp only [uF, uO]
      rw [jX12_layO_64, jX12_layI_64, e2]
      simp (disch := omega) only [nI_leI, eq_true (Nat.le_refl S.ns), ↓reduceIte, not_true_eq_false, not_false_eq_true, true_imp_iff, false_imp_iff, implies_true, and_true, true_and, eq_self]
  obtain ⟨r1, r2⟩ := E.use (f := FU) (by rw [FU_eq]; omega)
  exact ⟨r1, r2⟩
theorem sim_lay (a1 : Int32) {I : IM} : SimR T I (jLayK T I a1) (jLay T I a1).1 (jLay T I a1).2.1 (jLay T I a1).2.2 (fun M => jX12_layK M a1) (fun M => (jX12_lay M a1).1) (fun M => (jX12_lay M a1).2) := by
  by_cases h0 : jX9_haveAll I a1 = 0
  · unfold jLay
    rw [if_pos h0]
    refine simR_bad (fun q => absurd h0 q) fun S M hS hC hM => ?_
    have nx : ¬ ∃ set, set < 2 ^ S.ns ∧ a1 = nI set := by
      rcases have_C hS hC a1 with ⟨_, q⟩ | ⟨q, _⟩
      · rw [h0] at q; exact absurd q (by decide)
      · exact q
    have e : jX12_isOfThem M a1 = 0 := by
      rcases have_M hS hM a1 with ⟨q, _⟩ | ⟨_, q⟩
      · exact absurd q nx
      · exact q
    unfold jX12_layK jX12_lay jX12_finds
    rw [if_pos e]
    exact ⟨⟨fun q => absurd e q, fun _ => trivial⟩, rfl, rfl⟩
  · intro S hL hP hT hS hC
    have h8 := hS.2.1.1
    have ex : ∃ set, set < 2 ^ S.ns ∧ a1 = nI set := by
      rcases have_C hS hC a1 with ⟨q, _⟩ | ⟨_, q⟩
      · exact q
      · exact absurd q h0
    obtain ⟨set, hset, rfl⟩ := ex
    have h256 := set_256 h8 hset
    obtain ⟨mc, ms, k1, b1, b2, b3, b4, b5, ⟨d, b6, b7, b8⟩, b9, n, wh, b10, b11⟩ := begin_spec hL hP hT hS hC
    obtain ⟨l1, C', l2, l3, l4, l5, l6, l7⟩ := lb_C b3 hS b4 b5 b10 b11 h256
    have e1 : jLay T I (nI set) = (jLayR (jBeg T I).1 (jBeg T I).2 (nI set), (jBeg T I).1, jLayRM (jBeg T I).1 (jBeg T I).2 (nI set)) := if_neg h0
    rw [e1]
    unfold jLayK jLayRK
    dsimp only
    unfold jLayR jLayRM
    rw [l2]
    dsimp only
    have z10 : ¬ (1 : Int32) = 0 := by decide
    have h79 : ∀ k, 79 ≤ k → k < 136 → C' k = I k := fun k q1 q2 => (l3.fr79 k q1 q2).trans (b9 k q1 q2)
    obtain ⟨hv, -, hw⟩ := lays_ok (S := S.s_tried 0) (set := set) (q := 0) hS.1 hS.2.1 (by omega)
    obtain ⟨V, hV⟩ : ∃ V, V = (S.s_tried 0).lays set 0 := ⟨_, rfl⟩
    rw [← hV] at hv hw l4 l5 l6 ⊢
    have S2ok : (S2 S V.2.1).ok := ok_tried (ok_tried hS 0) _
    have em : ∀ M, RM S M → ¬ jX12_isOfThem M (nI set) = 0 := fun M hM => by
      rcases have_M hS hM (nI set) with ⟨_, q⟩ | ⟨q, _⟩
      · rw [q]; exact z10
      · exact absurd ⟨set, hset, rfl⟩ q
    rcases hv with e | e | e
    · rw [e] at l4
      rw [if_neg (by decide : ¬ (0 : Nat) = 2)] at l4
      rw [if_pos l4, if_pos l4, if_neg (show ¬ V.1 = 1 by omega), if_pos rfl, if_pos rfl]
      refine ⟨mc, ms, fun _ => ⟨k1, l1, fun _ => ⟨fun _ => trivial, fun q => absurd rfl q⟩, fun q => absurd l4 q⟩, b1, b2, b3, ⟨d, b6, b7, by rw [phi_fnd, l7]; exact b8⟩, fun k q1 q2 => by rw [fnd_79 _ k q1 q2]; exact h79 k q1 q2, fun M hM => ?_⟩
      obtain ⟨m1, m2, A, m3, m4, m5, m6, m7, m8, m9, m10⟩ := lb_M hS hM h256
      have em := em M hM
      rw [← hV] at m3 m6 m8 m10
      rw [e, show cdR 0 = 0 from rfl] at m3
      unfold jX12_layK jX12_lay jX12_finds
      rw [if_neg em, m3]
      dsimp only
      rw [if_neg (by decide : ¬ (0 : Int32) = 1), if_neg (by decide : ¬ (0 : Int32) = -1000006)]
      exact ⟨⟨fun _ => ⟨m1, m2, fun q => absurd q (by decide), fun _ => m9⟩, fun q => absurd q em⟩, rfl, bad b3 S2ok l6 m10⟩
    · rw [e] at l4
      rw [if_neg (by decide : ¬ (1 : Nat) = 2)] at l4
      obtain ⟨w1, w2, w3, w4⟩ := hw e
      have hK : Core S (S2 S V.2.1) := ⟨rfl, rfl, rfl, rfl, rfl, rfl, rfl, rfl, rfl, rfl, rfl, rfl, rfl, rfl, rfl, rfl, rfl, rfl, rfl, rfl⟩
      have hK1 : Core S (S.s_tried 0) := core_tried 0
      have hK2 : Core (S.s_tried 0) (S2 S V.2.1) := core_tried _
      have ups2 : ∀ i, V.2.2 i ≠ 0 → V.2.2 i ∈ (S2 S V.2.1).ups i := fun i hi => by
        have hin := ((w3 i).mp hi).1
        have := List.mem_filter.mp (w4 i hi)
        refine List.mem_filter.mpr ⟨?_, this.2⟩
        rw [hK2.plist (ok_tried hS 0).1 (ok_tried hS 0).2.1 hin]
        exact this.1
      obtain ⟨o1, C2, o2, o3, o4, o5, o6⟩ := over_C (S := S2 S V.2.1) b3 S2ok l6 h256 (Q := V.2.2) (by rw [hK2.plOk]; exact w1) (by rw [hK2.allOk, hK2.does]; exact w2) w3 ups2 (l5 e)
      rw [if_pos l4, if_pos l4, if_pos e, if_neg z10, if_neg z10, o2]
      refine ⟨mc, ms, fun _ => ⟨k1, l1, fun _ => ⟨fun q => absurd q z10, fun _ => o1⟩, fun q => absurd l4 q⟩, b1, b2, b3, ⟨d, b6, b7, by rw [o4, l7]; exact b8⟩, fun k q1 q2 => (o3 k (by omega)).trans (h79 k q1 q2), fun M hM => ?_⟩
      obtain ⟨m1, m2, A, m3, m4, m5, m6, m7, m8, m9, m10⟩ := lb_M hS hM h256
      have em := em M hM
      rw [← hV] at m3 m6 m8 m10
      rw [e, show cdR 1 = 1 from rfl] at m3
      have mA := m8 e
      rw [hK1.mPl] at mA
      obtain ⟨r1, r2⟩ := count_M hS.1 hS.2.1 hM.2.2.2.2.1 mA m4 (by rw [m7 _ _ (by omega)]; exact hM.2.2.1.1) (nI set)
      obtain ⟨y1, y2, y3⟩ := back_M (M := A) fun s hs => by rw [m4 106 s (by omega) (by omega) hs]; exact in01 hM.2.2.2.2.1 s hs
      unfold jX12_layK jX12_lay jX12_finds
      rw [if_neg em, m3]
      dsimp only
      rw [if_pos rfl, r2]
      refine ⟨⟨fun _ => ⟨m1, m2, fun _ => r1, fun q => absurd rfl q⟩, fun q => absurd q em⟩, rfl, _, o5, o6, RM.setPl m10 (fun j _ => (y2 _ _ (by omega)).symm) (fun k q => funext fun j => (y2 _ _ (by omega)).symm) ?_⟩
      intro s hs
      have es : inQ (outQ (S2 S V.2.1).pl (S2 S V.2.1).ns) V.2.2 (S2 S V.2.1).ns s = V.2.2 s := by
        unfold inQ outQ
        by_cases c : s < (S2 S V.2.1).ns
        · rw [if_pos c]
        · rw [if_neg c, if_neg c]
          have z1 : S.pl s = 0 := by
            by_cases q : S.pl s = 0
            · exact q
            · exact absurd (hS.2.2.2.2.1 s hs q).1 c
          have z2 : V.2.2 s = 0 := by
            by_cases q : V.2.2 s = 0
            · exact q
            · exact absurd ((w3 s).mp q).1 c
          exact z1.trans z2.symm
      rw [es, hK.isPl]
      exact mA s hs
    · rw [e] at l4
      rw [if_pos rfl] at l4
      have l4' : ¬ C' 56 12 = 0 := by rw [l4]; exact z10
      rw [if_neg l4', if_neg l4']
      refine ⟨mc, ms, fun _ => ⟨k1, l1, fun q => absurd q l4', fun _ => trivial⟩, b1, b2, b3, ⟨d, b6, b7, by rw [phi_fnd, l7]; exact b8⟩, fun k q1 q2 => by rw [fnd_79 _ k q1 q2]; exact h79 k q1 q2, fun M hM => ?_⟩
      obtain ⟨m1, m2, A, m3, m4, m5, m6, m7, m8, m9, m10⟩ := lb_M hS hM h256
      have em := em M hM
      rw [← hV] at m3 m6 m8 m10
      rw [e, show cdR 2 = -1000006 from rfl] at m3
      unfold jX12_layK jX12_lay jX12_finds
      rw [if_neg em, m3]
      dsimp only
      rw [if_neg (by decide : ¬ (-1000006 : Int32) = 1), if_pos rfl]
      exact ⟨⟨fun _ => ⟨m1, m2, fun q => absurd q (by decide), fun _ => m9⟩, fun q => absurd q em⟩, rfl, bad b3 S2ok l6 m10⟩
end LY
end
