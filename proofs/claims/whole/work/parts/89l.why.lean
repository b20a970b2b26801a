noncomputable section
def cwF (ln wk : Nat → Bool) : List Nat → Nat → Nat
  | [], a => a
  | p :: r, a => if ln p = true then (if wk p = true then 0 else cwF ln wk r 4) else cwF ln wk r a
def mwF (up ln wk : Nat → Bool) : List Nat → Nat → Nat
  | [], b => b
  | p :: r, b => if up p = true then (if ln p = true then (if wk p = true then 0 else mwF up ln wk r (max b 4)) else mwF up ln wk r (max b 3)) else mwF up ln wk r (max b 2)
theorem mw_cw (up ln wk : Nat → Bool) : ∀ (L : List Nat) (b : Nat), b ≤ 4 → mwF up ln wk L b = if L.filter up = [] then (if L = [] then b else max b 2) else cwF ln wk (L.filter up) (max b 3)
  | [], b, _ => rfl
  | p :: r, b, hb => by
    have ne : ¬ p :: r = [] := by simp
    have nf : ¬ p :: r.filter up = [] := by simp
    unfold mwF
    rw [List.filter_cons]
    by_cases u : up p = true
    · rw [if_pos u, if_pos u, if_neg nf]
      unfold cwF
      by_cases l : ln p = true
      · rw [if_pos l, if_pos l]
        by_cases w : wk p = true
        · rw [if_pos w, if_pos w]
        · rw [if_neg w, if_neg w, mw_cw up ln wk r _ (by omega), show max b 4 = 4 by omega]
          by_cases e : r.filter up = []
          · rw [if_pos e, e]
            unfold cwF
            split
            · rfl
            · omega
          · rw [if_neg e]; rfl
      · rw [if_neg l, if_neg l, mw_cw up ln wk r _ (by omega)]
        by_cases e : r.filter up = []
        · rw [if_pos e, e]
          unfold cwF
          split
          · rfl
          · omega
        · rw [if_neg e, show max (max b 3) 3 = max b 3 by omega]
    · rw [if_neg u, if_neg u, mw_cw up ln wk r _ (by omega)]
      by_cases e : r.filter up = []
      · rw [if_pos e, if_pos e, if_neg ne]
        split
        · rfl
        · omega
      · rw [if_neg e, if_neg e, show max (max b 2) 3 = max b 3 by omega]
section PL
variable {T : Topo} {S : St} {C M : IM} {s : Nat}
/-- the PLACES whose LINES are all UP -/
def St.ups (S : St) (s : Nat) : List Nat := (S.plist s).filter fun p => gB (S.up' p)
def KeptS (T : Topo) (i : Nat) (U : List Nat) (C : IM) : Prop := C (18 + 4 * i) 4 = nI U.length ∧ ∀ p, p < U.length → C (plB T i) p = nI (U.getD p 0)
def FrK (T : Topo) (i : Nat) (C C' : IM) : Prop := ∀ k j, ¬ (k = 18 + 4 * i ∧ j = 4) → k ≠ plB T i → C' k j = C k j
theorem plB_facts (hT : PlS T) (hs : s < 8) : (plB T s = 20 + 4 * s ∨ 136 ≤ plB T s) ∧ plA T s ≠ plB T s ∧ tL T (plB T s) = tL T (plA T s) := by
  obtain ⟨t1, t2, t3, t4, t5, t6, t7, t8⟩ := hT s hs
  exact ⟨t2, t7 s hs, t5⟩
theorem RC.frk (hT : PlS T) (hS : S.ok) (hC : RC T S C) (hs : s < 8) {C' : IM} (f : FrK T s C C') : RC T S C' := by
  obtain ⟨b1, b2, b3⟩ := plB_facts hT hs
  refine RC.rows hS hC (fun k j q1 q2 q3 q4 => f k j (by omega) (by omega)) (hC.2.2.2.2.2.2.2.2.2.1.of fun k q => funext fun j => f k j (by omega) (by omega)) (hC.plc.of hT fun i hi => ⟨f _ _ (by omega) (by omega), f _ _ (by omega) (by omega), funext fun j => ?_⟩)
  obtain ⟨t1, -, -, -, -, -, t7, -⟩ := hT i hi
  exact f _ _ (by omega) (t7 s hs)
theorem keepUp_C (hT : PlS T) (hS : S.ok) (hC : RC T S C) (hss : s < S.ns) (hp1 : cPl1 T S s C) : jX6_keepUpK T C s ∧ KeptS T s (S.ups s) (jX6_keepUp T C s) ∧ FrK T s C (jX6_keepUp T C s) := by
  have h8 := hS.2.1.1
  have hlen := plist_len hS.1 s
  obtain ⟨b1, b2, b3⟩ := plB_facts hT (show s < 8 by omega)
  obtain ⟨t1, -⟩ := hT s (by omega)
  unfold jX6_keepUpK jX6_keepUp
  obtain ⟨⟨v, C'⟩, ⟨e, p1, p2⟩, go⟩ := Go.loopE (F := fun n (t : Int32 × IM) => jX6_keepUpI T s n t.1 t.2) (O := fun n t => jX6_keepUpO T s n t.1 t.2) (B := 1) (P := fun k t => t.1 = nI k ∧ KeptS T s (((S.plist s).take k).filter fun p => gB (S.up' p)) t.2 ∧ FrK T s C t.2) (S.plist s).length
    (fun k hk t ht => by
      obtain ⟨v, I⟩ := t
      obtain ⟨e, p1, p2⟩ := ht
      dsimp only at e p1 p2
      subst e
      have hI := hC.frk hT hS (show s < 8 by omega) p2
      have mem : (S.plist s)[k] ∈ S.plist s := List.getElem_mem _
      obtain ⟨-, -, f2, -⟩ := place_facts hS.1 hS.2.1 hss mem
      have c0 : ¬ (S.plist s).length ≤ k := by omega
      have sz : I (18 + 4 * s) 3 = nI (S.plist s).length := by rw [p2 _ _ (by omega) (by omega)]; exact hp1.1
      have ra : I (plA T s) k = nI ((S.plist s)[k]) := by
        rw [p2 _ _ (by omega) b2, hp1.2.2 k hk, List.getD_eq_getElem?_getD, List.getElem?_eq_getElem hk]; rfl
      have va : vp_in (nI k) (tL T (plA T s)) := (vp_nI (by omega)).mpr (by have := hp1.2.1; omega)
      have up := up_C hI (p := (S.plist s)[k]) (by omega)
      have lf : (((S.plist s).take k).filter fun p => gB (S.up' p)).length ≤ k := by
        refine Nat.le_trans (List.length_filter_le _ _) ?_
        rw [List.length_take]; omega
      rw [List.take_succ_eq_append_getElem hk, List.filter_append, List.filter_cons, List.filter_nil]
      by_cases u : S.up' ((S.plist s)[k])
      · rw [if_pos (gB_iff.mpr u)]
        have vb : vp_in (I (18 + 4 * s) 4) (tL T (plB T s)) := by
          rw [p1.1, b3]
          exact (vp_nI (by omega)).mpr (by have := hp1.2.1; omega)
        refine ⟨(nI (k + 1), up2 (up2 I (plB T s) (I (18 + 4 * s) 4).toNatClampNeg (nI ((S.plist s)[k]))) (18 + 4 * s) 4 ((up2 I (plB T s) (I (18 + 4 * s) 4).toNatClampNeg (nI ((S.plist s)[k]))) (18 + 4 * s) 4 + 1)), ⟨rfl, ⟨?_, fun p hp => ?_⟩, fun a b q1 q2 => ?_⟩, Go.one fun n => ?_⟩
        · dsimp only
          rw [up2_at, up2_o _ _ _ _ (by omega), p1.1, nI_1, List.length_append]; rfl
        · dsimp only
          rw [up2_o _ _ _ _ (by omega), p1.1, nI_clamp (by omega)]
          rw [List.length_append] at hp
          by_cases ep : p = (((S.plist s).take k).filter fun p => gB (S.up' p)).length
          · rw [ep, up2_at, getD_app_eq]
          · have : p < (((S.plist s).take k).filter fun p => gB (S.up' p)).length := by simp at hp ⊢; omega
            rw [up2_sj _ _ _ ep, p1.2 p this, getD_app_lt this]
        · dsimp only
          rw [up2_ap, if_neg q1, up2_ap, if_neg (fun e => q2 e.1)]; exact p2 a b q1 q2
        · dsimp only
          rw [jX6_keepUpO_7, jX6_keepUpI_7, sz, nI_clamp (n := k) (by omega), ra, nI_1 k]
          simp (disch := omega) only [nI_leI, eq_false c0, eq_true va, up, eq_true u, eq_true vb, ↓reduceIte, not_true_eq_false, not_false_eq_true, true_imp_iff, false_imp_iff, implies_true, and_true, true_and, eq_self]
          first | exact id | exact ⟨id, rfl⟩
      · rw [if_neg (gB_no.mpr u), List.append_nil]
        refine ⟨(nI (k + 1), I), ⟨rfl, p1, p2⟩, Go.one fun n => ?_⟩
        dsimp only
        rw [jX6_keepUpO_7, jX6_keepUpI_7, sz, nI_clamp (n := k) (by omega), ra, nI_1 k]
        simp (disch := omega) only [nI_leI, eq_false c0, eq_true va, up, eq_false u, ↓reduceIte, not_true_eq_false, not_false_eq_true, true_imp_iff, false_imp_iff, implies_true, and_true, true_and, eq_self]
        first | exact id | exact ⟨id, rfl⟩)
    ((nI 0, up2 C (18 + 4 * s) 4 0) : Int32 × IM) ⟨rfl, ⟨by show up2 C (18 + 4 * s) 4 0 (18 + 4 * s) 4 = _; rw [up2_at]; rfl, fun p hp => absurd hp (by simp)⟩, fun k j q1 q2 => by show up2 C (18 + 4 * s) 4 0 k j = _; rw [up2_ap, if_neg q1]⟩
  dsimp only at e p1 p2
  subst e
  rw [List.take_length] at p1
  have E := go.ends (Ends.one (b := C') fun n => by
    dsimp only
    have c0 : (S.plist s).length ≤ (S.plist s).length := Nat.le_refl _
    have sz : C' (18 + 4 * s) 3 = nI (S.plist s).length := by rw [p2 _ _ (by omega) (by omega)]; exact hp1.1
    rw [jX6_keepUpO_7, jX6_keepUpI_7, sz]
    simp (disch := omega) only [nI_leI, eq_true c0, ↓reduceIte, not_true_eq_false, not_false_eq_true, true_imp_iff, false_imp_iff, implies_true, and_true, true_and, eq_self])
  obtain ⟨r1, r2⟩ := E.use (f := FU) (by rw [FU_eq]; omega)
  have r2' : jX6_keepUpI T s FU 0 (up2 C (18 + 4 * s) 4 0) = C' := r2
  rw [r2']
  exact ⟨r1, p1, p2⟩
theorem why_C (hS : S.ok) (hC : RC T S C) (hss : s < S.ns) (h0 : S.pl s = 0) (hK : KeptS T s (S.ups s) C) (hT : PlS T) (hp1 : (S.plist s).length ≤ tL T (plA T s)) : ∀ (L : List Nat) (k a : Nat), (S.ups s).drop k = L → k ≤ (S.ups s).length → Ends (fun n (t : Int32 × Int32) => jX11_whyNoRoomI T s s n t.1 t.2 C) (fun n t => jX11_whyNoRoomO T s s n t.1 t.2 C) (L.length + 1) (nI a, nI k) (nI (cwF (fun p => gB (S.lnP S.pl S.does 24 s p)) (fun p => gB (S.wkP S.pl S.does 24 s p)) L a))
  | [], k, a, hL, hk => by
    have hlen := plist_len hS.1 s
    have hul : (S.ups s).length ≤ (S.plist s).length := List.length_filter_le _ _
    have hk' : (S.ups s).length ≤ k := List.drop_eq_nil_iff.mp hL
    refine Ends.one fun n => ?_
    dsimp only
    rw [jX11_whyNoRoomO_5, jX11_whyNoRoomI_5, hK.1]
    simp (disch := omega) only [nI_leI, eq_true hk', ↓reduceIte, not_true_eq_false, not_false_eq_true, true_imp_iff, false_imp_iff, implies_true, and_true, true_and, eq_self]
    rfl
  | p :: r, k, a, hL, hk => by
    have h8 := hS.2.1.1
    have hlen := plist_len hS.1 s
    have hul : (S.ups s).length ≤ (S.plist s).length := List.length_filter_le _ _
    obtain ⟨b1, b2, b3⟩ := plB_facts hT (show s < 8 by omega)
    obtain ⟨d1, d2, d3, d4⟩ := drop_cons hL
    have mem : p ∈ S.plist s := (List.mem_filter.mp d4).1
    obtain ⟨⟨g1, g2⟩, g3, g4⟩ := holds_C hS hC hss h0 mem
    have c0 : ¬ (S.ups s).length ≤ k := by omega
    have pa : jX6_upAt T C s (nI k) = nI p := by
      unfold jX6_upAt
      rw [nI_clamp (by omega), hK.2 k d1, d2]
    have pk : jX6_upAtK T s (nI k) := by
      unfold jX6_upAtK
      exact (vp_nI (by omega)).mpr (by omega)
    unfold cwF
    by_cases l : S.lnP S.pl S.does 24 s p
    · rw [if_pos (gB_iff.mpr l)]
      have l' : ¬ jX0_linesHold C 49 s (nI p) (C (17 + 4 * s) 11) = 0 := fun q => g2.mp q l
      by_cases w : S.wkP S.pl S.does 24 s p
      · rw [if_pos (gB_iff.mpr w)]
        have w' : ¬ jX0_hostHolds C 49 s (nI p) (C (17 + 4 * s) 11) = 0 := fun q => g4.mp q w
        refine (Ends.one fun n => ?_).le (by simp)
        dsimp only
        rw [jX11_whyNoRoomO_5, jX11_whyNoRoomI_5, hK.1, pa]
        simp (disch := omega) only [nI_leI, eq_false c0, eq_true pk, eq_true g1, eq_false l', eq_true g3, eq_false w', ↓reduceIte, not_true_eq_false, not_false_eq_true, true_imp_iff, false_imp_iff, implies_true, and_true, true_and, eq_self]
        rfl
      · rw [if_neg (gB_no.mpr w)]
        have w' := g4.mpr w
        have ih := why_C hS hC hss h0 hK hT hp1 r (k + 1) 4 d3 (by omega)
        refine Ends.le (Go.ends (Go.one fun n => ?_) ih) (by simp; omega)
        dsimp only
        rw [jX11_whyNoRoomO_5, jX11_whyNoRoomI_5, hK.1, pa, nI_1]
        simp (disch := omega) only [nI_leI, eq_false c0, eq_true pk, eq_true g1, eq_false l', eq_true g3, eq_true w', ↓reduceIte, not_true_eq_false, not_false_eq_true, true_imp_iff, false_imp_iff, implies_true, and_true, true_and, eq_self]
        first | exact id | exact ⟨id, rfl⟩
    · rw [if_neg (gB_no.mpr l)]
      have l' := g2.mpr l
      have ih := why_C hS hC hss h0 hK hT hp1 r (k + 1) a d3 (by omega)
      refine Ends.le (Go.ends (Go.one fun n => ?_) ih) (by simp; omega)
      dsimp only
      rw [jX11_whyNoRoomO_5, jX11_whyNoRoomI_5, hK.1, pa, nI_1]
      simp (disch := omega) only [nI_leI, eq_false c0, eq_true pk, eq_true g1, eq_true l', ↓reduceIte, not_true_eq_false, not_false_eq_true, true_imp_iff, false_imp_iff, implies_true, and_true, true_and, eq_self]
      first | exact id | exact ⟨id, rfl⟩
theorem why_M (hS : S.ok) (hss : s < S.ns) (h0 : S.pl s = 0) : ∀ (L : List Nat) (k b : Nat) (M : IM), b ≤ 4 → RM S M → Cur S s M L k → ∃ M', RM S M' ∧ Ends (fun n (t : Int32 × IM) => jX12_whyI (nI s) n t.1 t.2) (fun n t => jX12_whyO (nI s) n t.1 t.2) (L.length + 1) (nI b, M) (nI (mwF (fun p => gB (S.up' p)) (fun p => gB (S.lnP S.pl S.does 24 s p)) (fun p => gB (S.wkP S.pl S.does 24 s p)) L b), M')
  | [], k, b, M, hb, hM, hc => by
    have h8 := hS.2.1.1
    obtain ⟨a1, a2, -⟩ := advance_M hS.1 hS.2.1 hss hc
    obtain ⟨A, b1, b2⟩ := a2 rfl
    have m106 : M 106 s = 0 := (in_M hM (j := s) (by omega)).mpr h0
    refine ⟨A, hM.frt (fun a b _ q2 => b2 a b q2) h0 (by rw [b2 _ _ (by omega)]; exact m106), Ends.one fun n => ?_⟩
    dsimp only
    rw [jX12_whyO_38, jX12_whyI_38, b1]
    simp only [eq_true a1, ↓reduceIte, not_true_eq_false, not_false_eq_true, true_imp_iff, false_imp_iff, implies_true, and_true, true_and, eq_self]
    rfl
  | p :: r, k, b, M, hb, hM, hc => by
    have h8 := hS.2.1.1
    have h27 : S.wn s ≤ 27 := wayA_27 hS.1 _ _
    have v8 : vp_in (nI s) 8 := (vp_nI (by omega)).mpr (by omega)
    have z10 : ¬ (1 : Int32) = 0 := by decide
    obtain ⟨t1, A, t2, t3, t4, t5, t6, t7, t8, t9, t10, t11, t12⟩ := try_M hS.1 hS.2.1 hss hS.2.2.2.2.1 h0 hM.1 hM.2.2.1 hM.2.2.2.2.1 hc
    obtain ⟨ho1, ho2⟩ := holds_M t12 (a1 := 0) (.inl rfl)
    obtain ⟨ho3, ho4⟩ := holds_M t12 (a1 := 1) (.inr rfl)
    have hall : (∀ t, t < 24 → S.linesOk (put S.pl s p) S.does t ∧ ((0 : Int32) = 0 → S.worksOk (put S.pl s p) S.does t)) ↔ S.lnP S.pl S.does 24 s p ∧ S.wkP S.pl S.does 24 s p := by
      constructor
      · intro q; exact ⟨fun t ht => (q t ht).1, fun t ht => (q t ht).2 rfl⟩
      · intro q t ht; exact ⟨q.1 t ht, fun _ => q.2 t ht⟩
    have hall2 : (∀ t, t < 24 → S.linesOk (put S.pl s p) S.does t ∧ ((1 : Int32) = 0 → S.worksOk (put S.pl s p) S.does t)) ↔ S.lnP S.pl S.does 24 s p := by
      constructor
      · intro q; exact fun t ht => (q t ht).1
      · intro q t ht; exact ⟨q t ht, fun e => absurd e z10⟩
    rw [hall] at ho2
    rw [hall2] at ho4
    have nx : ∀ v, FrT s M (up2 (up2 (jX12_putsM A (nI s)) 106 s v) 106 s 0) ∧ up2 (up2 (jX12_putsM A (nI s)) 106 s v) 106 s 0 106 s = 0 ∧ Cur S s (up2 (up2 (jX12_putsM A (nI s)) 106 s v) 106 s 0) r (k + 1) := fun v => by
      refine ⟨fun a b q1 q2 => ?_, up2_at _ _ _ _, (t4.fr (fun a b q => ?_) h27).cur⟩
      · rw [up2_ap, if_neg (by omega), up2_ap, if_neg (by omega), t10 a b (by omega)]; exact t3 a b q2
      · rw [up2_ap, if_neg (by omega), up2_ap, if_neg (by omega), t10 a b (by omega)]
    have mx : ∀ c : Nat, c ≤ 4 → (if nI c ≤ nI b then nI b else nI c) = nI (max b c) := fun c hc => by
      by_cases q : c ≤ b
      · rw [if_pos (nI_le q (by omega)), Nat.max_eq_left q]
      · rw [if_neg (nI_ge (by omega) (by omega)), Nat.max_eq_right (by omega)]
    unfold mwF
    by_cases u : S.up' p
    · rw [if_pos (gB_iff.mpr u)]
      have u' : jX12_puts A (nI s) = 1 := t6.resolve_left fun q => t7.mp q u
      obtain ⟨n1, n2, n3⟩ := nx 1
      by_cases l : S.lnP S.pl S.does 24 s p
      · rw [if_pos (gB_iff.mpr l)]
        have l' : ¬ jX12_holds (up2 (jX12_putsM A (nI s)) 106 s 1) 1 = 0 := fun q => ho4.mp q l
        by_cases w : S.wkP S.pl S.does 24 s p
        · rw [if_pos (gB_iff.mpr w)]
          have w' : ¬ jX12_holds (up2 (jX12_putsM A (nI s)) 106 s 1) 0 = 0 := fun q => ho2.mp q ⟨l, w⟩
          refine ⟨_, hM.frt n1 h0 n2, (Ends.one fun n => ?_).le (by simp)⟩
          dsimp only
          rw [jX12_whyO_38, jX12_whyI_38, t2, nI_clamp (by omega)]
          dsimp only
          rw [u']
          simp only [eq_true t1, eq_false z10, eq_true t5, eq_true v8, eq_true ho1, eq_true ho3, eq_false w', eq_false l', or_true, ↓reduceIte, not_true_eq_false, not_false_eq_true, true_imp_iff, false_imp_iff, implies_true, and_true, true_and, eq_self]
          rfl
        · rw [if_neg (gB_no.mpr w)]
          have w' : jX12_holds (up2 (jX12_putsM A (nI s)) 106 s 1) 0 = 0 := ho2.mpr fun q => w q.2
          obtain ⟨M', j1, j2⟩ := why_M hS hss h0 r (k + 1) (max b 4) _ (by omega) (hM.frt n1 h0 n2) n3
          refine ⟨M', j1, Ends.le (Go.ends (Go.one fun n => ?_) j2) (by simp; omega)⟩
          dsimp only
          rw [jX12_whyO_38, jX12_whyI_38, t2, nI_clamp (by omega)]
          dsimp only
          rw [u']
          have m4 := mx 4 (by omega)
          by_cases q : nI 4 ≤ nI b
          · have q' : (4 : Int32) ≤ nI b := q
            rw [if_pos q] at m4
            rw [← m4]
            simp only [eq_true t1, eq_false z10, eq_true t5, eq_true v8, eq_true ho1, eq_true ho3, eq_true w', eq_false l', eq_true q', or_true, ↓reduceIte, not_true_eq_false, not_false_eq_true, true_imp_iff, false_imp_iff, implies_true, and_true, true_and, eq_self]
            first | exact id | exact ⟨id, rfl⟩
          · have q' : ¬ (4 : Int32) ≤ nI b := q
            rw [if_neg q] at m4
            rw [← m4]
            simp only [eq_true t1, eq_false z10, eq_true t5, eq_true v8, eq_true ho1, eq_true ho3, eq_true w', eq_false l', eq_false q', or_true, ↓reduceIte, not_true_eq_false, not_false_eq_true, true_imp_iff, false_imp_iff, implies_true, and_true, true_and, eq_self]
            first | exact id | exact ⟨id, rfl⟩
      · rw [if_neg (gB_no.mpr l)]
        have l' : jX12_holds (up2 (jX12_putsM A (nI s)) 106 s 1) 1 = 0 := ho4.mpr l
        have w' : jX12_holds (up2 (jX12_putsM A (nI s)) 106 s 1) 0 = 0 := ho2.mpr fun q => l q.1
        obtain ⟨M', j1, j2⟩ := why_M hS hss h0 r (k + 1) (max b 3) _ (by omega) (hM.frt n1 h0 n2) n3
        refine ⟨M', j1, Ends.le (Go.ends (Go.one fun n => ?_) j2) (by simp; omega)⟩
        dsimp only
        rw [jX12_whyO_38, jX12_whyI_38, t2, nI_clamp (by omega)]
        dsimp only
        rw [u']
        have m4 := mx 3 (by omega)
        by_cases q : nI 3 ≤ nI b
        · have q' : (3 : Int32) ≤ nI b := q
          rw [if_pos q] at m4
          rw [← m4]
          simp only [eq_true t1, eq_false z10, eq_true t5, eq_true v8, eq_true ho1, eq_true ho3, eq_true w', eq_true l', eq_true q', or_true, ↓reduceIte, not_true_eq_false, not_false_eq_true, true_imp_iff, false_imp_iff, implies_true, and_true, true_and, eq_self]
          first | exact id | exact ⟨id, rfl⟩
        · have q' : ¬ (3 : Int32) ≤ nI b := q
          rw [if_neg q] at m4
          rw [← m4]
          simp only [eq_true t1, eq_false z10, eq_true t5, eq_true v8, eq_true ho1, eq_true ho3, eq_true w', eq_true l', eq_false q', or_true, ↓reduceIte, not_true_eq_false, not_false_eq_true, true_imp_iff, false_imp_iff, implies_true, and_true, true_and, eq_self]
          first | exact id | exact ⟨id, rfl⟩
    · rw [if_neg (gB_no.mpr u)]
      have u' : jX12_puts A (nI s) = 0 := t7.mpr u
      obtain ⟨n1, n2, n3⟩ := nx 0
      obtain ⟨M', j1, j2⟩ := why_M hS hss h0 r (k + 1) (max b 2) _ (by omega) (hM.frt n1 h0 n2) n3
      refine ⟨M', j1, Ends.le (Go.ends (Go.one fun n => ?_) j2) (by simp; omega)⟩
      dsimp only
      rw [jX12_whyO_38, jX12_whyI_38, t2, nI_clamp (by omega)]
      dsimp only
      rw [u']
      have m4 := mx 2 (by omega)
      by_cases q : nI 2 ≤ nI b
      · have q' : (2 : Int32) ≤ nI b := q
        rw [if_pos q] at m4
        rw [← m4]
        simp only [eq_true t1, eq_false z10, eq_true t5, eq_true v8, eq_true q', true_or, ↓reduceIte, not_true_eq_false, not_false_eq_true, true_imp_iff, false_imp_iff, implies_true, and_true, true_and, eq_self]
        first | exact id | exact ⟨id, rfl⟩
      · have q' : ¬ (2 : Int32) ≤ nI b := q
        rw [if_neg q] at m4
        rw [← m4]
        simp only [eq_true t1, eq_false z10, eq_true t5, eq_true v8, eq_false q', true_or, ↓reduceIte, not_true_eq_false, not_false_eq_true, true_imp_iff, false_imp_iff, implies_true, and_true, true_and, eq_self]
        first | exact id | exact ⟨id, rfl⟩
theorem places_M (hS : S.ok) (hss : s < S.ns) (h0 : mNet S M) : ∀ (L : List Nat) (k a : Nat) (M : IM), Cur S s M L k → ∃ M', FrA s M M' ∧ Ends (fun n (t : Int32 × IM) => jX12_placesI (nI s) n t.1 t.2) (fun n t => jX12_placesO (nI s) n t.1 t.2) (L.length + 1) (nI a, M) (nI (a + L.length), M')
  | [], k, a, M, hc => by
    obtain ⟨a1, a2, -⟩ := advance_M hS.1 hS.2.1 hss hc
    obtain ⟨A, b1, b2⟩ := a2 rfl
    refine ⟨A, b2, Ends.one fun n => ?_⟩
    dsimp only
    rw [jX12_placesO_22, jX12_placesI_22, b1]
    simp only [eq_true a1, ↓reduceIte, not_true_eq_false, not_false_eq_true, true_imp_iff, false_imp_iff, implies_true, and_true, true_and, eq_self]
    rfl
  | p :: r, k, a, M, hc => by
    obtain ⟨a1, -, a3⟩ := advance_M hS.1 hS.2.1 hss hc
    obtain ⟨A, b1, b2, b3⟩ := a3 p r rfl
    obtain ⟨M', j1, j2⟩ := places_M hS hss h0 r (k + 1) (a + 1) A b3.cur
    have z10 : ¬ (1 : Int32) = 0 := by decide
    rw [show a + 1 + r.length = a + (p :: r).length by simp; omega] at j2
    refine ⟨M', b2.trans j1, Ends.le (Go.ends (Go.one fun n => ?_) j2) (by simp; omega)⟩
    dsimp only
    rw [jX12_placesO_22, jX12_placesI_22, b1, nI_1]
    simp only [eq_true a1, eq_false z10, ↓reduceIte, not_true_eq_false, not_false_eq_true, true_imp_iff, false_imp_iff, implies_true, and_true, true_and, eq_self]
    first | exact id | exact ⟨id, rfl⟩
theorem sim_places (a1 : Int32) {I : IM} : SimR T I (jPlacesK T I a1) (jPlaces T I a1).1 (jPlaces T I a1).2.1 (jPlaces T I a1).2.2 (fun M => jX12_placesK M a1) (fun M => (jX12_places M a1).1) (fun M => (jX12_places M a1).2) := by
  intro S hL hP hT hS hC
  have h8 := hS.2.1.1
  unfold jPlacesK jPlaces jX12_placesK jX12_places jX12_finds
  by_cases h : ∃ j, j < S.ns ∧ a1 = nI j
  · have e1 := (sl_C hS hC a1).mpr h
    obtain ⟨j, hj, rfl⟩ := h
    have v : vp_in (nI j) 8 := (vp_nI (by omega)).mpr (by omega)
    rw [nI_clamp (by omega), if_pos e1]
    dsimp only
    obtain ⟨mc, ms, k1, f1, f2, f3, f4, f5, f6, f7, f8, -⟩ := findP_spec hL hP hT hS hC hj
    have hlen := plist_len hS.1 j
    refine ⟨mc, ms, fun _ => ⟨v, k1⟩, f1, f2, f3, f8, f7, fun M hM => ?_⟩
    have e2 := (sl_M hS hM (nI j)).mpr ⟨j, hj, rfl⟩
    obtain ⟨s1, s2, s3⟩ := start_M hS.1 hS.2.1 hj hM.1 hM.2.2.1
    obtain ⟨M', j1, j2⟩ := places_M hS hj hM.1 _ 0 0 _ s2
    obtain ⟨r3, r4⟩ := j2.use (f := FU) (by rw [FU_eq]; omega)
    rw [Nat.zero_add] at r4
    have r4' : jX12_placesI (nI j) FU 0 (jX12_startM M (nI j)) = (nI (S.plist j).length, M') := r4
    have r3' : jX12_placesO (nI j) FU 0 (jX12_startM M (nI j)) := r3
    simp only [eq_true e2, eq_true s1, eq_true r3', r4', ↓reduceIte, not_true_eq_false, not_false_eq_true, true_imp_iff, false_imp_iff, implies_true, and_true, true_and, eq_self]
    refine ⟨f5.1, S, hS, f4, RM.low (hM.frs s3) fun k q1 q2 => funext fun x => j1 k x (by omega)⟩
  · have e1 := mt (sl_C hS hC a1).mp h
    rw [if_neg e1]
    refine simR_bad (fun q => absurd q e1) (fun S' M hS' hC' hM => ?_) S hL hP hT hS hC
    have e2 : ¬ wi a1 0 (M 79 2 - 1) := fun q => e1 ((sl_C hS' hC' a1).mpr ((sl_M hS' hM a1).mp q))
    simp only [eq_false e2, ↓reduceIte, not_true_eq_false, not_false_eq_true, true_imp_iff, false_imp_iff, implies_true, and_true, true_and, eq_self]
theorem sim_why (a1 : Int32) {I : IM} : SimR T I (jWhyK T I a1) (jWhy T I a1).1 (jWhy T I a1).2.1 (jWhy T I a1).2.2 (fun M => jX12_whyK M a1) (fun M => (jX12_why M a1).1) (fun M => (jX12_why M a1).2) := by
  intro S hL hP hT hS hC
  have h8 := hS.2.1.1
  unfold jWhyK jWhy jX12_whyK jX12_why jX12_finds
  by_cases h : ∃ j, j < S.ns ∧ a1 = nI j
  · have e1 := (sl_C hS hC a1).mpr h
    obtain ⟨j, hj, rfl⟩ := h
    have v : vp_in (nI j) 8 := (vp_nI (by omega)).mpr (by omega)
    have i1 := in_C hS hC (j := j) (by omega)
    rw [nI_clamp (by omega)]
    by_cases c : S.pl j = 0
    · have d1 : ¬ inS I j := fun q => i1.mp q c
      obtain ⟨mc, ms, k1, f1, f2, f3, f4, f5, f6, f7, f8, -⟩ := findP_spec hL hP hT hS hC hj
      have hlen := plist_len hS.1 j
      have hul : (S.ups j).length ≤ (S.plist j).length := List.length_filter_le _ _
      obtain ⟨u1, u2, u3⟩ := keepUp_C f3 hS f4 hj f5
      have rcK := f4.frk f3 hS (show j < 8 by omega) u3
      obtain ⟨b1, b2, b3⟩ := plB_facts f3 (show j < 8 by omega)
      have sz : jX6_keepUp (jFindP T I j j).1 (jFindP T I j j).2 j (18 + 4 * j) 3 = nI (S.plist j).length := by rw [u3 _ _ (by omega) (by omega)]; exact f5.1
      obtain ⟨w1, w2⟩ := (why_C hS rcK hj c u2 f3 f5.2.1 (S.ups j) 0 3 rfl (by omega)).use (f := FU) (by rw [FU_eq]; omega)
      have w1' : jX11_whyNoRoomK (jFindP T I j j).1 (jX6_keepUp (jFindP T I j j).1 (jFindP T I j j).2 j) j j := w1
      have w2' : jX11_whyNoRoom (jFindP T I j j).1 (jX6_keepUp (jFindP T I j j).1 (jFindP T I j j).2 j) j j = nI (cwF (fun p => gB (S.lnP S.pl S.does 24 j p)) (fun p => gB (S.wkP S.pl S.does 24 j p)) (S.ups j) 3) := w2
      have ph : phi (jX6_keepUp (jFindP T I j j).1 (jFindP T I j j).2 j) 8 = phi (jFindP T I j j).2 8 := phi_of fun i hi => u3 _ _ (by omega) (by omega)
      have ans : jWhyR (jFindP T I j j).1 (jFindP T I j j).2 j = nI (mwF (fun p => gB (S.up' p)) (fun p => gB (S.lnP S.pl S.does 24 j p)) (fun p => gB (S.wkP S.pl S.does 24 j p)) (S.plist j) 1) := by
        unfold jWhyR
        rw [sz, u2.1, w2', mw_cw _ _ _ _ _ (by omega)]
        have z1 : (nI (S.plist j).length = 0) = (S.plist j = []) := propext ((nI_eq (b := 0) (by omega) (by omega)).trans List.length_eq_zero_iff)
        have z2 : (nI (S.ups j).length = 0) = (S.ups j = []) := propext ((nI_eq (b := 0) (by omega) (by omega)).trans List.length_eq_zero_iff)
        simp only [z1, z2]
        show _ = nI (if S.ups j = [] then _ else cwF _ _ (S.ups j) (max 1 3))
        by_cases q1 : S.plist j = []
        · have q2 : S.ups j = [] := by unfold St.ups; rw [q1]; rfl
          rw [if_pos q1, if_pos q2, if_pos q1]; rfl
        · by_cases q2 : S.ups j = []
          · rw [if_neg q1, if_pos q2, if_pos q2, if_neg q1]; rfl
          · rw [if_neg q1, if_neg q2, if_neg q2]; rfl
      rw [if_pos e1, if_neg d1]
      dsimp only
      unfold jWhyRM
      rw [ans]
      refine ⟨mc, ms, fun _ => ⟨v, fun _ => ⟨k1, u1, ⟨fun _ => ⟨fun _ => w1', fun _ => trivial⟩, fun _ => trivial⟩⟩⟩, f1, f2, f3, by rw [ph]; exact f8, fun k q1 q2 => (funext fun x => u3 k x (by omega) (by omega)).trans (f7 k q1 q2), fun M hM => ?_⟩
      obtain ⟨m1, m2, m3, m4, m5, m6⟩ := letIn_mod hS hj c hM
      obtain ⟨M', g2, g3⟩ := why_M hS hj c _ 0 1 _ (by omega) m5 m6
      obtain ⟨r3, r4⟩ := g3.use (f := FU) (by rw [FU_eq]; omega)
      have r4' : jX12_whyI (nI j) FU 1 (jX12_startM M (nI j)) = (nI (mwF (fun p => gB (S.up' p)) (fun p => gB (S.lnP S.pl S.does 24 j p)) (fun p => gB (S.wkP S.pl S.does 24 j p)) (S.plist j) 1), M') := r4
      have r3' : jX12_whyO (nI j) FU 1 (jX12_startM M (nI j)) := r3
      simp only [eq_true m1, eq_true m2, eq_true m3, eq_true m4, eq_true r3', r4', ↓reduceIte, not_true_eq_false, not_false_eq_true, true_imp_iff, false_imp_iff, implies_true, and_true, true_and, eq_self]
      exact ⟨S, hS, rcK, g2⟩
    · have d1 := i1.mpr c
      rw [if_pos e1, if_pos d1]
      refine simR_bad (fun _ => ⟨v, fun q => absurd d1 q⟩) (fun S' M hS' hC' hM => ?_) S hL hP hT hS hC
      have e1' := (sl_C hS' hC' (nI j)).mp e1
      have e2 := (sl_M hS' hM (nI j)).mpr e1'
      obtain ⟨j', hj', ej⟩ := e1'
      have h8' := hS'.2.1.1
      have : j = j' := (nI_eq (by omega) (by omega)).mp ej
      subst this
      have d2 : ¬ M 106 j = 0 := fun q => (in_C hS' hC' (j := j) (by omega)).mp d1 ((in_M hM (j := j) (by omega)).mp q)
      simp only [eq_true e2, eq_true v, eq_false d2, ↓reduceIte, not_true_eq_false, not_false_eq_true, true_imp_iff, false_imp_iff, implies_true, and_true, true_and, eq_self]
  · have e1 := mt (sl_C hS hC a1).mp h
    rw [if_neg e1]
    refine simR_bad (fun q => absurd q e1) (fun S' M hS' hC' hM => ?_) S hL hP hT hS hC
    have e2 : ¬ wi a1 0 (M 79 2 - 1) := fun q => e1 ((sl_C hS' hC' a1).mpr ((sl_M hS' hM a1).mp q))
    simp only [eq_false e2, ↓reduceIte, not_true_eq_false, not_false_eq_true, true_imp_iff, false_imp_iff, implies_true, and_true, true_and, eq_self]
end PL
end
