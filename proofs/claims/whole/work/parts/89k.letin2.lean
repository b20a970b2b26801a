noncomputable section
section PL
variable {T : Topo} {S : St} {C M : IM} {s : Nat}
theorem RM.frt (hM : RM S M) {M' : IM} (f : FrT s M M') (h0 : S.pl s = 0) (g : M' 106 s = 0) : RM S M' := by
  obtain ⟨h1, h2, h3, h4, h5, h6', h7, h8, h9'⟩ := hM
  have f' : ∀ k, ¬ (106 ≤ k ∧ k ≤ 111) → ¬ (124 ≤ k ∧ k ≤ 127) → M' k = M k := fun k q1 q2 => funext fun j => f k j (by omega) (by omega)
  exact ⟨h1.of (f _ _ (by omega) (by omega)) (f _ _ (by omega) (by omega)) fun k q => f' k (by omega) (by omega), h2.of fun k q1 q2 => f' k (by omega) (by omega), h3.of (f _ _ (by omega) (by omega)) fun k q1 q2 => f' k (by omega) (by omega), h4.of fun k q1 q2 => f' k (by omega) (by omega), mPl_clear h5 (fun a b q1 q2 q3 => f a b (by omega) (by omega)) g h0, h6'.of fun j q => f _ _ (by omega) (by omega), h7.of (f _ _ (by omega) (by omega)), h8.of (f _ _ (by omega) (by omega)), h9'.of fun k q1 q2 => f' k (by omega) (by omega)⟩
theorem RM.frs (hM : RM S M) {M' : IM} (f : FrS s M M') : RM S M' := RM.low hM fun k q1 q2 => funext fun j => f k j (by omega) (by omega) (by omega) (by omega)
/-- the reference lets a SLICE in -/
theorem letIn_M (hS : S.ok) (hss : s < S.ns) (h0 : S.pl s = 0) : ∀ (L : List Nat) (k : Nat) (M : IM), RM S M → Cur S s M L k → ∃ B, B ≤ L.length + 1 ∧
    ((fstG (S.good s) L k = none → ∃ M', RM S M' ∧ Ends (fun n (I : IM) => jX12_letInI (nI s) n I) (fun n I => jX12_letInO (nI s) n I) B M (-1000005, jX12_findsM M')) ∧
    ∀ i p, fstG (S.good s) L k = some (i, p) → ∃ M', RM (S.s_pl (put S.pl s p)) M' ∧ Ends (fun n (I : IM) => jX12_letInI (nI s) n I) (fun n I => jX12_letInO (nI s) n I) B M (nI i, M'))
  | [], k, M, hM, hc => by
    have h8 := hS.2.1.1
    obtain ⟨a1, a2, -⟩ := advance_M hS.1 hS.2.1 hss hc
    obtain ⟨A, b1, b2⟩ := a2 rfl
    have m106 : M 106 s = 0 := (in_M hM (j := s) (by omega)).mpr h0
    refine ⟨1, Nat.le_refl _, fun _ => ⟨A, hM.frt (fun a b _ q2 => b2 a b q2) h0 (by rw [b2 _ _ (by omega)]; exact m106), Ends.one fun n => ?_⟩, fun i p e => by cases e⟩
    rw [jX12_letInO_36, jX12_letInI_36, b1]
    simp only [eq_true a1, ↓reduceIte, not_true_eq_false, not_false_eq_true, true_imp_iff, false_imp_iff, implies_true, and_true, true_and, eq_self]
    rfl
  | p :: r, k, M, hM, hc => by
    have h8 := hS.2.1.1
    have h27 : S.wn s ≤ 27 := wayA_27 hS.1 _ _
    have v8 : vp_in (nI s) 8 := (vp_nI (by omega)).mpr (by omega)
    have z10 : ¬ (1 : Int32) = 0 := by decide
    obtain ⟨t1, A, t2, t3, t4, t5, t6, t7, t8, t9, t10, t11, t12⟩ := try_M hS.1 hS.2.1 hss hS.2.2.2.2.1 h0 hM.1 hM.2.2.1 hM.2.2.2.2.1 hc
    obtain ⟨ho1, ho2⟩ := holds_M t12 (a1 := 0) (.inl rfl)
    have hall : (∀ t, t < 24 → S.linesOk (put S.pl s p) S.does t ∧ ((0 : Int32) = 0 → S.worksOk (put S.pl s p) S.does t)) ↔ S.lnP S.pl S.does 24 s p ∧ S.wkP S.pl S.does 24 s p := by
      constructor
      · intro q; exact ⟨fun t ht => (q t ht).1, fun t ht => (q t ht).2 rfl⟩
      · intro q t ht; exact ⟨q.1 t ht, fun _ => q.2 t ht⟩
    rw [hall] at ho2
    -- on to the next one
    have nx : ∀ v, FrT s M (up2 (up2 (jX12_putsM A (nI s)) 106 s v) 106 s 0) ∧ up2 (up2 (jX12_putsM A (nI s)) 106 s v) 106 s 0 106 s = 0 ∧ Cur S s (up2 (up2 (jX12_putsM A (nI s)) 106 s v) 106 s 0) r (k + 1) := fun v => by
      refine ⟨fun a b q1 q2 => ?_, up2_at _ _ _ _, (t4.fr (fun a b q => ?_) h27).cur⟩
      · rw [up2_ap, if_neg (by omega), up2_ap, if_neg (by omega), t10 a b (by omega)]; exact t3 a b q2
      · rw [up2_ap, if_neg (by omega), up2_ap, if_neg (by omega), t10 a b (by omega)]
    by_cases u : S.up' p
    · have u' : jX12_puts A (nI s) = 1 := t6.resolve_left fun q => t7.mp q u
      by_cases lw : S.lnP S.pl S.does 24 s p ∧ S.wkP S.pl S.does 24 s p
      · have g : S.good s p = true := good_iff.mpr ⟨u, lw⟩
        have ho3 : ¬ jX12_holds (up2 (jX12_putsM A (nI s)) 106 s 1) 0 = 0 := fun q => ho2.mp q lw
        unfold fstG
        rw [if_pos g]
        refine ⟨1, by simp, fun e => by (cases e), fun i q e => ?_⟩
        have e' := Option.some.inj e
        have e1 : k = i := congrArg Prod.fst e'
        have e2 : p = q := congrArg Prod.snd e'
        subst e1 e2
        have n127 : jX12_putsM A (nI s) 127 s = nI k := by
          rw [t10 _ _ (by omega)]
          obtain ⟨-, w', u'', x', -, -, -, q4, -⟩ := t4
          exact q4
        refine ⟨up2 (jX12_putsM A (nI s)) 106 s 1, RM.setPl hM (fun j hj => ?_) (fun k q => funext fun j => ?_) t12.2.2.2.2.2, Ends.one fun n => ?_⟩
        · rw [up2_ap, if_neg (by omega), t10 _ _ (by omega), t3 _ _ (by omega)]
        · rw [up2_ap, if_neg (by omega), t10 _ _ (by omega), t3 _ _ (by omega)]
        · rw [jX12_letInO_36, jX12_letInI_36, t2, nI_clamp (by omega)]
          dsimp only
          rw [u', n127]
          simp only [eq_true t1, eq_false z10, eq_true t5, eq_true v8, eq_true ho1, eq_false ho3, or_true, ↓reduceIte, not_true_eq_false, not_false_eq_true, true_imp_iff, false_imp_iff, implies_true, and_true, true_and, eq_self]
      · have g : ¬ S.good s p = true := fun q => lw (good_iff.mp q).2
        have ho3 : jX12_holds (up2 (jX12_putsM A (nI s)) 106 s 1) 0 = 0 := ho2.mpr lw
        obtain ⟨n1, n2, n3⟩ := nx 1
        obtain ⟨B, hB, i1, i2⟩ := letIn_M hS hss h0 r (k + 1) _ (hM.frt n1 h0 n2) n3
        have go : Go (fun n (I : IM) => jX12_letInI (nI s) n I) (fun n I => jX12_letInO (nI s) n I) 1 M (up2 (up2 (jX12_putsM A (nI s)) 106 s 1) 106 s 0) := Go.one fun n => by
          rw [jX12_letInO_36, jX12_letInI_36, t2, nI_clamp (by omega)]
          dsimp only
          rw [u']
          simp only [eq_true t1, eq_false z10, eq_true t5, eq_true v8, eq_true ho1, eq_true ho3, or_true, ↓reduceIte, not_true_eq_false, not_false_eq_true, true_imp_iff, false_imp_iff, implies_true, and_true, true_and, eq_self]
          first | exact id | exact ⟨id, rfl⟩
        unfold fstG
        rw [if_neg g]
        refine ⟨1 + B, by simp; omega, fun e => ?_, fun i q e => ?_⟩
        · obtain ⟨M', j1, j2⟩ := i1 e
          exact ⟨M', j1, go.ends j2⟩
        · obtain ⟨M', j1, j2⟩ := i2 i q e
          exact ⟨M', j1, go.ends j2⟩
    · have u' : jX12_puts A (nI s) = 0 := t7.mpr u
      have g : ¬ S.good s p = true := fun q => u (good_iff.mp q).1
      obtain ⟨n1, n2, n3⟩ := nx 0
      obtain ⟨B, hB, i1, i2⟩ := letIn_M hS hss h0 r (k + 1) _ (hM.frt n1 h0 n2) n3
      have go : Go (fun n (I : IM) => jX12_letInI (nI s) n I) (fun n I => jX12_letInO (nI s) n I) 1 M (up2 (up2 (jX12_putsM A (nI s)) 106 s 0) 106 s 0) := Go.one fun n => by
        rw [jX12_letInO_36, jX12_letInI_36, t2, nI_clamp (by omega)]
        dsimp only
        rw [u']
        simp only [eq_true t1, eq_false z10, eq_true t5, eq_true v8, true_or, ↓reduceIte, not_true_eq_false, not_false_eq_true, true_imp_iff, false_imp_iff, implies_true, and_true, true_and, eq_self]
        first | exact id | exact ⟨id, rfl⟩
      unfold fstG
      rw [if_neg g]
      refine ⟨1 + B, by simp; omega, fun e => ?_, fun i q e => ?_⟩
      · obtain ⟨M', j1, j2⟩ := i1 e
        exact ⟨M', j1, go.ends j2⟩
      · obtain ⟨M', j1, j2⟩ := i2 i q e
        exact ⟨M', j1, go.ends j2⟩
/-- what a call that may make rows has to show -/
def SimR (T : Topo) (I : IM) (K1 : Nat → Nat → Prop) (X : Int32) (T1 : Topo) (C1 : IM) (K2 : IM → Prop) (Y : IM → Int32) (M2 : IM → IM) : Prop :=
  ∀ S : St, Lay T → Pl T → PlS T → S.ok → RC T S I → ∃ mc ms, K1 mc ms ∧ Lay T1 ∧ Pl T1 ∧ PlS T1 ∧ (∃ d, mc ≤ 2 * d ∧ ms ≤ 8748 * d ∧ phi I 8 + d ≤ phi C1 8) ∧ (∀ k, 79 ≤ k → k < 136 → C1 k = I k) ∧ ∀ M, RM S M → K2 M ∧ X = Y M ∧ ∃ S' : St, S'.ok ∧ RC T1 S' C1 ∧ RM S' (M2 M)
theorem phi_fnd (C : IM) : phi (fnd C) 8 = phi C 8 := phi_of fun i hi => by unfold fnd; rw [up2_o _ _ _ _ (by omega)]
theorem fnd_79 (C : IM) : ∀ k, 79 ≤ k → k < 136 → fnd C k = C k := fun k q1 _ => up2_ne (by omega)
theorem simR_bad {K1 : Nat → Nat → Prop} {I : IM} (hk : K1 0 0) {X : Int32} {K2 : IM → Prop} {Y : IM → Int32} {M2 : IM → IM} (h : ∀ (S : St) (M : IM), S.ok → RC T S I → RM S M → K2 M ∧ X = Y M ∧ M2 M = jX12_findsM M) : SimR T I K1 X T (fnd I) K2 Y M2 := by
  intro S hL hP hT hS hC
  refine ⟨0, 0, hk, hL, hP, hT, ⟨0, by omega, by omega, by rw [phi_fnd]; exact Nat.le_refl _⟩, fnd_79 I, fun M hM => ?_⟩
  obtain ⟨h1, h2, h3⟩ := h S M hS hC hM
  rw [h3]
  exact ⟨h1, h2, bad hT hS hC hM⟩
theorem letIn_mod (hS : S.ok) {j : Nat} (hj : j < S.ns) (c : S.pl j = 0) (hM : RM S M) : wi (nI j) 0 (M 79 2 - 1) ∧ vp_in (nI j) 8 ∧ M 106 j = 0 ∧ jX12_startK M (nI j) ∧ RM S (jX12_startM M (nI j)) ∧ Cur S j (jX12_startM M (nI j)) (S.plist j) 0 := by
  have h8 := hS.2.1.1
  obtain ⟨s1, s2, s3⟩ := start_M hS.1 hS.2.1 hj hM.1 hM.2.2.1
  exact ⟨(sl_M hS hM (nI j)).mpr ⟨j, hj, rfl⟩, (vp_nI (by omega)).mpr (by omega), (in_M hM (j := j) (by omega)).mpr c, s1, hM.frs s3, s2⟩
theorem sim_letIn (a1 : Int32) {I : IM} : SimR T I (jLetInK T I a1) (jLetIn T I a1).1 (jLetIn T I a1).2.1 (jLetIn T I a1).2.2 (fun M => jX12_letInK M a1) (fun M => (jX12_letIn M a1).1) (fun M => (jX12_letIn M a1).2) := by
  intro S hL hP hT hS hC
  have h8 := hS.2.1.1
  unfold jLetInK jLetIn jX12_letInK jX12_letIn jX12_finds
  by_cases h : ∃ j, j < S.ns ∧ a1 = nI j
  · have e1 := (sl_C hS hC a1).mpr h
    obtain ⟨j, hj, rfl⟩ := h
    have v : vp_in (nI j) 8 := (vp_nI (by omega)).mpr (by omega)
    have i1 := in_C hS hC (j := j) (by omega)
    rw [nI_clamp (by omega)]
    by_cases c : S.pl j = 0
    · have d1 : ¬ inS I j := fun q => i1.mp q c
      obtain ⟨mc, ms, k1, f1, f2, f3, f4, f5, f6, f7, f8, -⟩ := findP_spec hL hP hT hS hC hj
      have hlen := plist_len hS.1 j
      obtain ⟨B, hB, c1, c2⟩ := letIn_C f3 hS f4 hj c f5 (S.plist j) 0 rfl (by omega)
      rw [if_pos e1, if_neg d1]
      dsimp only
      cases hf : fstG (S.good j) (S.plist j) 0 with
      | none =>
        obtain ⟨r1, r2⟩ := (c1 hf).use (f := FU) (by rw [FU_eq]; omega)
        have r2' : jLetInR (jFindP T I j j).1 (jFindP T I j j).2 j = (-1000005, fnd (jFindP T I j j).2) := r2
        rw [r2']
        refine ⟨mc, ms, fun _ => ⟨v, fun _ => ⟨k1, r1⟩⟩, f1, f2, f3, by rw [phi_fnd]; exact f8, fun k q1 q2 => (fnd_79 _ k q1 q2).trans (f7 k q1 q2), fun M hM => ?_⟩
        obtain ⟨m1, m2, m3, m4, m5, m6⟩ := letIn_mod hS hj c hM
        obtain ⟨B', hB', g1, -⟩ := letIn_M hS hj c _ 0 _ m5 m6
        obtain ⟨M', g2, g3⟩ := g1 hf
        obtain ⟨r3, r4⟩ := g3.use (f := FU) (by rw [FU_eq]; omega)
        have r4' : jX12_letInI (nI j) FU (jX12_startM M (nI j)) = (-1000005, jX12_findsM M') := r4
        have r3' : jX12_letInO (nI j) FU (jX12_startM M (nI j)) := r3
        simp only [eq_true m1, eq_true m2, eq_true m3, eq_true m4, eq_true r3', r4', ↓reduceIte, not_true_eq_false, not_false_eq_true, true_imp_iff, false_imp_iff, implies_true, and_true, true_and, eq_self]
        exact bad f3 hS f4 g2
      | some x =>
        obtain ⟨i, p⟩ := x
        obtain ⟨p1, p2, p3⟩ := c2 i p hf
        obtain ⟨u, l, w⟩ := good_iff.mp p2
        obtain ⟨ck, ok', rc'⟩ := comeIn_ok f3 hS f4 hj c p1 l w
        obtain ⟨r1, r2⟩ := p3.use (f := FU) (by rw [FU_eq]; omega)
        have r2' : jLetInR (jFindP T I j j).1 (jFindP T I j j).2 j = (nI i, jX11_comeInM (jFindP T I j j).2 j (nI p)) := r2
        have fr : ∀ k, ¬ (49 < k ∧ k < 54) → k ≠ 17 + 4 * j → jX11_comeInM (jFindP T I j j).2 j (nI p) k = (jFindP T I j j).2 k := fun k q1 q2 => comeIn_fr hS f4 hj c p1 k q1 q2
        have ph : phi (jX11_comeInM (jFindP T I j j).2 j (nI p)) 8 = phi (jFindP T I j j).2 8 := phi_of fun i hi => by rw [fr _ (by omega) (by omega)]
        rw [r2']
        dsimp only
        refine ⟨mc, ms, fun _ => ⟨v, fun _ => ⟨k1, r1⟩⟩, f1, f2, f3, by rw [ph]; exact f8, fun k q1 q2 => (fr k (by omega) (by omega)).trans (f7 k q1 q2), fun M hM => ?_⟩
        obtain ⟨m1, m2, m3, m4, m5, m6⟩ := letIn_mod hS hj c hM
        obtain ⟨B', hB', -, g1⟩ := letIn_M hS hj c _ 0 _ m5 m6
        obtain ⟨M', g2, g3⟩ := g1 i p hf
        obtain ⟨r3, r4⟩ := g3.use (f := FU) (by rw [FU_eq]; omega)
        have r4' : jX12_letInI (nI j) FU (jX12_startM M (nI j)) = (nI i, M') := r4
        have r3' : jX12_letInO (nI j) FU (jX12_startM M (nI j)) := r3
        simp only [eq_true m1, eq_true m2, eq_true m3, eq_true m4, eq_true r3', r4', ↓reduceIte, not_true_eq_false, not_false_eq_true, true_imp_iff, false_imp_iff, implies_true, and_true, true_and, eq_self]
        exact ⟨_, ok', rc', g2⟩
    · have d1 := i1.mpr c
      rw [if_pos e1, if_pos d1]
      refine simR_bad (fun _ => ⟨v, fun q => absurd d1 q⟩) (fun S' M hS' hC' hM => ?_) S hL hP hT hS hC
      have e1' := (sl_C hS' hC' (nI j)).mp e1
      have e2 := (sl_M hS' hM (nI j)).mpr e1'
      obtain ⟨j', hj', ej⟩ := e1'
      have h8' := hS'.2.1.1
      have : j = j' := (nI_eq (by omega) (by omega)).mp ej
      subst this
      have d2 : ¬ M 106 j = 0 := fun q => (in_C hS' hC' (j := j) (by omega)).mp d1 ((in_M hM (j := j) (by omega)).mp q)
      simp only [eq_true e2, eq_true v, eq_false d2, ↓reduceIte, not_true_eq_false, not_false_eq_true, true_imp_iff, false_imp_iff, implies_true, and_true, true_and, eq_self]
  · have e1 := mt (sl_C hS hC a1).mp h
    rw [if_neg e1]
    refine simR_bad (fun q => absurd q e1) (fun S' M hS' hC' hM => ?_) S hL hP hT hS hC
    have e2 : ¬ wi a1 0 (M 79 2 - 1) := fun q => e1 ((sl_C hS' hC' a1).mpr ((sl_M hS' hM a1).mp q))
    simp only [eq_false e2, ↓reduceIte, not_true_eq_false, not_false_eq_true, true_imp_iff, false_imp_iff, implies_true, and_true, true_and, eq_self]
end PL
end
