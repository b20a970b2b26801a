noncomputable section

theorem J.post {d : Nat} {M : Mth} {P P' : Pst} {C S pc c sl : Nat} {ls : List (Option Value)} {st : List Value} {T : Topo} {I : IM} (h : ∀ r T I, P r T I → P' r T I) (k : J d M P C S pc ls st T I c sl) : J d M P' C S pc ls st T I c sl := by
  intro p l e s m args below meth cd G ab T0 ad0 ad ca H locs LS F D hl hv
  have K := k p l e s m args below meth cd G ab T0 ad0 ad ca H locs LS F D hl hv
  intro Tm hT X
  obtain ⟨t, a1, o, b1, b2, b3, b4⟩ := K Tm hT X
  obtain ⟨⟨r, T', I', ad', ca', h1, h2, h3⟩, h4⟩ := b3
  exact ⟨t, a1, o, b1, b2, ⟨⟨r, T', I', ad', ca', h1, h r T' I' h2, h3⟩, h4⟩, b4⟩

def jLetIn (T : Topo) (I : IM) (a1 : Int32) : Int32 × Topo × IM :=
  if hSl I a1 then (if inS I a1.toNatClampNeg then ((-1000003), T, fnd I) else ((jLetInR (jFindP T I a1.toNatClampNeg a1.toNatClampNeg).1 (jFindP T I a1.toNatClampNeg a1.toNatClampNeg).2 a1.toNatClampNeg).1, (jFindP T I a1.toNatClampNeg a1.toNatClampNeg).1, (jLetInR (jFindP T I a1.toNatClampNeg a1.toNatClampNeg).1 (jFindP T I a1.toNatClampNeg a1.toNatClampNeg).2 a1.toNatClampNeg).2)) else ((-1000001), T, fnd I)
def jLetInK (T : Topo) (I : IM) (a1 : Int32) (C S : Nat) : Prop :=
  hSl I a1 → vp_in a1 8 ∧ (¬ inS I a1.toNatClampNeg → jFindPK T I a1.toNatClampNeg a1.toNatClampNeg C S ∧ jLetInRK (jFindP T I a1.toNatClampNeg a1.toNatClampNeg).1 (jFindP T I a1.toNatClampNeg a1.toNatClampNeg).2 a1.toNatClampNeg)
set_option maxHeartbeats 4000000 in
set_option maxRecDepth 100000 in
theorem qX11_letIn (d : Nat) {T : Topo} {I : IM} (hT : Lay T) (hPl : Pl T) (a1 : Int32) (C S : Nat) (hp : jLetInK T I a1 C S) : Ct (d + 13) mX11_letIn [.ref 0, .int a1] T I C S (PI fun x T' I' => x = (jLetIn T I a1).1 ∧ T' = (jLetIn T I a1).2.1 ∧ I' = (jLetIn T I a1).2.2) := by
  refine Ct.ofJ (ls := [some (.ref 0), some (.int a1), none, none, none, none]) (by decide +kernel) rfl (by intro v hv; revert v hv; simp [Value.category]) rfl ?_
  refine J.aload_n dX11_letIn_0 rfl rfl ?_
  refine J.getR (r := 15) dX11_letIn_1 fX11_19 (hT.k 0 rfl) rfl (hT.r 0 1 rfl rfl) ?_
  refine J.iload_n dX11_letIn_4 rfl rfl ?_
  refine J.callVP (k := 15) (as := [.int a1]) (rest := []) dX11_letIn_5 kX9_hasSlice vX9_hasSlice lX11_136 (hT.k 15 rfl) rfl rfl rfl rfl rfl (by omega) (Nat.zero_le _) (Nat.zero_le _) (qX9_hasSlice (d + 12) hT a1) ?_
  refine J.bz_ne (tgt := 18) dX11_letIn_8 (by decide) (fun hc1 => ?_) (fun hc1 => ?_)
  · obtain ⟨h8, hp⟩ := hp hc1
    have hi := vp_lt h8
    refine J.aload_n dX11_letIn_18 rfl rfl ?_
    refine J.getR (r := 15) dX11_letIn_19 fX11_19 (hT.k 0 rfl) rfl (hT.r 0 1 rfl rfl) ?_
    refine J.iload_n dX11_letIn_22 rfl rfl ?_
    refine J.callVF (r := 17 + 4 * a1.toNatClampNeg) (k := 15) (as := [.int a1]) (rest := []) dX11_letIn_23 kX9_at vX9_at lX11_139 (hT.k 15 rfl) rfl rfl rfl rfl rfl (by omega) (Nat.zero_le _) (Nat.zero_le _) (qX9_at (d + 12) hT a1 h8) ?_
    refine J.astore_n (ls' := [some (.ref 0), some (.int a1), some (.ref (17 + 4 * a1.toNatClampNeg)), none, none, none]) dX11_letIn_26 rfl rfl rfl ?_
    refine J.aload_n dX11_letIn_27 rfl rfl ?_
    refine J.callVP (k := 17 + 4 * a1.toNatClampNeg) (as := []) (rest := []) dX11_letIn_28 kX8_isIn vX8_isIn lX11_148 (hT.sliceK hi) rfl rfl rfl rfl rfl (by omega) (Nat.zero_le _) (Nat.zero_le _) (qX8_isIn (d + 12) hT a1.toNatClampNeg hi) ?_
    refine J.bz_eq (tgt := 41) dX11_letIn_31 (by decide) (fun hc2 => ?_) (fun hc2 => ?_)
    · obtain ⟨hp1, hp2⟩ := hp hc2
      refine J.aload_n dX11_letIn_41 rfl rfl ?_
      refine J.getR (r := 15) dX11_letIn_42 fX11_19 (hT.k 0 rfl) rfl (hT.r 0 1 rfl rfl) ?_
      refine J.aload_n dX11_letIn_45 rfl rfl ?_
      refine J.getR (r := 1) dX11_letIn_46 fX11_15 (hT.k 0 rfl) rfl (hT.r 0 0 rfl rfl) ?_
      refine J.iload_n dX11_letIn_49 rfl rfl ?_
      refine J.callVgR (mc := C) (ms := S) (k := 15) (as := [.ref 1, .int a1]) (rest := []) dX11_letIn_50 kX9_placesOf vX9_placesOf lX11_170 (hT.k 15 rfl) rfl rfl rfl rfl rfl (by omega) (by omega) (by omega) (qX9_placesOf (d + 1) hT hPl a1 h8 C S hp1) (fun k T' I' hq => ?_)
      obtain ⟨e0, e1, e2⟩ := hq
      subst e0
      have hT' : Lay T' := by rw [e1]; exact jFindP_lay hT hi
      have hPl' : Pl T' := by rw [e1]; exact jFindP_pl hT hPl hi
      rw [← e1, ← e2] at hp2
      refine J.astore_n (ls' := [some (.ref 0), some (.int a1), some (.ref (17 + 4 * a1.toNatClampNeg)), some (.ref (18 + 4 * a1.toNatClampNeg)), none, none]) dX11_letIn_53 rfl rfl rfl ?_
      have hfin := tX11_letIn d hT' a1.toNatClampNeg hi hPl' (C := C) (S := S) (c := 0 + C) (sl := 0 + S) (by omega) (by omega) hp2
      refine J.weaken (ls' := [some (.ref 0), none, some (.ref (17 + 4 * a1.toNatClampNeg)), some (.ref (18 + 4 * a1.toNatClampNeg)), none, none]) (And.intro rfl (And.intro rfl (And.intro rfl trivial))) ?_
      refine J.post ?_ hfin
      rintro r T2 I2 ⟨x, h1, h2, h3, h4⟩
      refine ⟨x, h1, ?_⟩
      unfold jLetIn
      rw [if_pos hc1, if_neg hc2, ← e1, ← e2]
      exact ⟨h3, h2, h4⟩
    · refine J.aload_n dX11_letIn_34 rfl rfl ?_
      refine J.ldc (v := (-1000003)) dX11_letIn_35 kcX11_152 ?_
      refine J.callVE (k := 0) (as := [.int (-1000003)]) (rest := []) dX11_letIn_37 kX11_finding vX11_finding lX11_65 (hT.k 0 rfl) rfl rfl rfl rfl rfl (by omega) (Nat.zero_le _) (Nat.zero_le _) (qX11_finding (d + 12) hT (-1000003)) ?_
      exact J.iretQ dX11_letIn_40 rfl (Nat.zero_le _) (Nat.zero_le _) (by unfold jLetIn; rw [if_pos hc1, if_pos hc2]; exact ⟨rfl, rfl, rfl⟩)
  · refine J.aload_n dX11_letIn_11 rfl rfl ?_
    refine J.ldc (v := (-1000001)) dX11_letIn_12 kcX11_64 ?_
    refine J.callVE (k := 0) (as := [.int (-1000001)]) (rest := []) dX11_letIn_14 kX11_finding vX11_finding lX11_65 (hT.k 0 rfl) rfl rfl rfl rfl rfl (by omega) (Nat.zero_le _) (Nat.zero_le _) (qX11_finding (d + 12) hT (-1000001)) ?_
    exact J.iretQ dX11_letIn_17 rfl (Nat.zero_le _) (Nat.zero_le _) (by unfold jLetIn; rw [if_neg hc1]; exact ⟨rfl, rfl, rfl⟩)

def jWhy (T : Topo) (I : IM) (a1 : Int32) : Int32 × Topo × IM :=
  if hSl I a1 then (if inS I a1.toNatClampNeg then ((-1000003), T, fnd I) else (jWhyR (jFindP T I a1.toNatClampNeg a1.toNatClampNeg).1 (jFindP T I a1.toNatClampNeg a1.toNatClampNeg).2 a1.toNatClampNeg, (jFindP T I a1.toNatClampNeg a1.toNatClampNeg).1, jWhyRM (jFindP T I a1.toNatClampNeg a1.toNatClampNeg).1 (jFindP T I a1.toNatClampNeg a1.toNatClampNeg).2 a1.toNatClampNeg)) else ((-1000001), T, fnd I)
def jWhyK (T : Topo) (I : IM) (a1 : Int32) (C S : Nat) : Prop :=
  hSl I a1 → vp_in a1 8 ∧ (¬ inS I a1.toNatClampNeg → jFindPK T I a1.toNatClampNeg a1.toNatClampNeg C S ∧ jWhyRK (jFindP T I a1.toNatClampNeg a1.toNatClampNeg).1 (jFindP T I a1.toNatClampNeg a1.toNatClampNeg).2 a1.toNatClampNeg)
set_option maxHeartbeats 4000000 in
set_option maxRecDepth 100000 in
theorem qX11_why (d : Nat) {T : Topo} {I : IM} (hT : Lay T) (hPl : Pl T) (a1 : Int32) (C S : Nat) (hp : jWhyK T I a1 C S) : Ct (d + 13) mX11_why [.ref 0, .int a1] T I C S (PI fun x T' I' => x = (jWhy T I a1).1 ∧ T' = (jWhy T I a1).2.1 ∧ I' = (jWhy T I a1).2.2) := by
  refine Ct.ofJ (ls := [some (.ref 0), some (.int a1), none, none]) (by decide +kernel) rfl (by intro v hv; revert v hv; simp [Value.category]) rfl ?_
  refine J.aload_n dX11_why_0 rfl rfl ?_
  refine J.getR (r := 15) dX11_why_1 fX11_19 (hT.k 0 rfl) rfl (hT.r 0 1 rfl rfl) ?_
  refine J.iload_n dX11_why_4 rfl rfl ?_
  refine J.callVP (k := 15) (as := [.int a1]) (rest := []) dX11_why_5 kX9_hasSlice vX9_hasSlice lX11_136 (hT.k 15 rfl) rfl rfl rfl rfl rfl (by omega) (Nat.zero_le _) (Nat.zero_le _) (qX9_hasSlice (d + 12) hT a1) ?_
  refine J.bz_ne (tgt := 18) dX11_why_8 (by decide) (fun hc1 => ?_) (fun hc1 => ?_)
  · obtain ⟨h8, hp⟩ := hp hc1
    have hi := vp_lt h8
    refine J.aload_n dX11_why_18 rfl rfl ?_
    refine J.getR (r := 15) dX11_why_19 fX11_19 (hT.k 0 rfl) rfl (hT.r 0 1 rfl rfl) ?_
    refine J.iload_n dX11_why_22 rfl rfl ?_
    refine J.callVF (r := 17 + 4 * a1.toNatClampNeg) (k := 15) (as := [.int a1]) (rest := []) dX11_why_23 kX9_at vX9_at lX11_139 (hT.k 15 rfl) rfl rfl rfl rfl rfl (by omega) (Nat.zero_le _) (Nat.zero_le _) (qX9_at (d + 12) hT a1 h8) ?_
    refine J.astore_n (ls' := [some (.ref 0), some (.int a1), some (.ref (17 + 4 * a1.toNatClampNeg)), none]) dX11_why_26 rfl rfl rfl ?_
    refine J.aload_n dX11_why_27 rfl rfl ?_
    refine J.callVP (k := 17 + 4 * a1.toNatClampNeg) (as := []) (rest := []) dX11_why_28 kX8_isIn vX8_isIn lX11_148 (hT.sliceK hi) rfl rfl rfl rfl rfl (by omega) (Nat.zero_le _) (Nat.zero_le _) (qX8_isIn (d + 12) hT a1.toNatClampNeg hi) ?_
    refine J.bz_eq (tgt := 41) dX11_why_31 (by decide) (fun hc2 => ?_) (fun hc2 => ?_)
    · obtain ⟨hp1, hp2⟩ := hp hc2
      refine J.aload_n dX11_why_41 rfl rfl ?_
      refine J.getR (r := 15) dX11_why_42 fX11_19 (hT.k 0 rfl) rfl (hT.r 0 1 rfl rfl) ?_
      refine J.aload_n dX11_why_45 rfl rfl ?_
      refine J.getR (r := 1) dX11_why_46 fX11_15 (hT.k 0 rfl) rfl (hT.r 0 0 rfl rfl) ?_
      refine J.iload_n dX11_why_49 rfl rfl ?_
      refine J.callVgR (mc := C) (ms := S) (k := 15) (as := [.ref 1, .int a1]) (rest := []) dX11_why_50 kX9_placesOf vX9_placesOf lX11_170 (hT.k 15 rfl) rfl rfl rfl rfl rfl (by omega) (by omega) (by omega) (qX9_placesOf (d + 1) hT hPl a1 h8 C S hp1) (fun k T' I' hq => ?_)
      obtain ⟨e0, e1, e2⟩ := hq
      subst e0
      have hT' : Lay T' := by rw [e1]; exact jFindP_lay hT hi
      have hPl' : Pl T' := by rw [e1]; exact jFindP_pl hT hPl hi
      rw [← e1, ← e2] at hp2
      refine J.astore_n (ls' := [some (.ref 0), some (.int a1), some (.ref (17 + 4 * a1.toNatClampNeg)), some (.ref (18 + 4 * a1.toNatClampNeg))]) dX11_why_53 rfl rfl rfl ?_
      have hfin := tX11_why d hT' a1.toNatClampNeg hi hPl' (C := C) (S := S) (c := 0 + C) (sl := 0 + S) (by omega) (by omega) hp2
      refine J.weaken (ls' := [some (.ref 0), none, some (.ref (17 + 4 * a1.toNatClampNeg)), some (.ref (18 + 4 * a1.toNatClampNeg))]) (And.intro rfl (And.intro rfl (And.intro rfl trivial))) ?_
      refine J.post ?_ hfin
      rintro r T2 I2 ⟨x, h1, h2, h3, h4⟩
      refine ⟨x, h1, ?_⟩
      unfold jWhy
      rw [if_pos hc1, if_neg hc2, ← e1, ← e2]
      exact ⟨h3, h2, h4⟩
    · refine J.aload_n dX11_why_34 rfl rfl ?_
      refine J.ldc (v := (-1000003)) dX11_why_35 kcX11_152 ?_
      refine J.callVE (k := 0) (as := [.int (-1000003)]) (rest := []) dX11_why_37 kX11_finding vX11_finding lX11_65 (hT.k 0 rfl) rfl rfl rfl rfl rfl (by omega) (Nat.zero_le _) (Nat.zero_le _) (qX11_finding (d + 12) hT (-1000003)) ?_
      exact J.iretQ dX11_why_40 rfl (Nat.zero_le _) (Nat.zero_le _) (by unfold jWhy; rw [if_pos hc1, if_pos hc2]; exact ⟨rfl, rfl, rfl⟩)
  · refine J.aload_n dX11_why_11 rfl rfl ?_
    refine J.ldc (v := (-1000001)) dX11_why_12 kcX11_64 ?_
    refine J.callVE (k := 0) (as := [.int (-1000001)]) (rest := []) dX11_why_14 kX11_finding vX11_finding lX11_65 (hT.k 0 rfl) rfl rfl rfl rfl rfl (by omega) (Nat.zero_le _) (Nat.zero_le _) (qX11_finding (d + 12) hT (-1000001)) ?_
    exact J.iretQ dX11_why_17 rfl (Nat.zero_le _) (Nat.zero_le _) (by unfold jWhy; rw [if_neg hc1]; exact ⟨rfl, rfl, rfl⟩)

def jPlaces (T : Topo) (I : IM) (a1 : Int32) : Int32 × Topo × IM := if hSl I a1 then ((jFindP T I a1.toNatClampNeg a1.toNatClampNeg).2 (18 + 4 * a1.toNatClampNeg) 3, (jFindP T I a1.toNatClampNeg a1.toNatClampNeg).1, (jFindP T I a1.toNatClampNeg a1.toNatClampNeg).2) else ((-1000001), T, fnd I)
def jPlacesK (T : Topo) (I : IM) (a1 : Int32) (C S : Nat) : Prop := hSl I a1 → vp_in a1 8 ∧ jFindPK T I a1.toNatClampNeg a1.toNatClampNeg C S
set_option maxHeartbeats 4000000 in
set_option maxRecDepth 100000 in
theorem qX11_places (d : Nat) {T : Topo} {I : IM} (hT : Lay T) (hPl : Pl T) (a1 : Int32) (C S : Nat) (hp : jPlacesK T I a1 C S) : Ct (d + 13) mX11_places [.ref 0, .int a1] T I C S (PI fun x T' I' => x = (jPlaces T I a1).1 ∧ T' = (jPlaces T I a1).2.1 ∧ I' = (jPlaces T I a1).2.2) := by
  refine Ct.ofJ (ls := [some (.ref 0), some (.int a1)]) (by decide +kernel) rfl (by intro v hv; revert v hv; simp [Value.category]) rfl ?_
  refine J.aload_n dX11_places_0 rfl rfl ?_
  refine J.getR (r := 15) dX11_places_1 fX11_19 (hT.k 0 rfl) rfl (hT.r 0 1 rfl rfl) ?_
  refine J.iload_n dX11_places_4 rfl rfl ?_
  refine J.callVP (k := 15) (as := [.int a1]) (rest := []) dX11_places_5 kX9_hasSlice vX9_hasSlice lX11_136 (hT.k 15 rfl) rfl rfl rfl rfl rfl (by omega) (Nat.zero_le _) (Nat.zero_le _) (qX9_hasSlice (d + 12) hT a1) ?_
  refine J.bz_eq (tgt := 29) dX11_places_8 (by decide) (fun hc1 => ?_) (fun hc1 => ?_)
  · refine J.aload_n dX11_places_29 rfl rfl ?_
    refine J.ldc (v := (-1000001)) dX11_places_30 kcX11_64 ?_
    refine J.callVE (k := 0) (as := [.int (-1000001)]) (rest := []) dX11_places_32 kX11_finding vX11_finding lX11_65 (hT.k 0 rfl) rfl rfl rfl rfl rfl (by omega) (Nat.zero_le _) (Nat.zero_le _) (qX11_finding (d + 12) hT (-1000001)) ?_
    exact J.iretQ dX11_places_35 rfl (Nat.zero_le _) (Nat.zero_le _) (by unfold jPlaces; rw [if_neg hc1]; exact ⟨rfl, rfl, rfl⟩)
  · obtain ⟨h8, hp⟩ := hp hc1
    have hi := vp_lt h8
    refine J.aload_n dX11_places_11 rfl rfl ?_
    refine J.getR (r := 15) dX11_places_12 fX11_19 (hT.k 0 rfl) rfl (hT.r 0 1 rfl rfl) ?_
    refine J.aload_n dX11_places_15 rfl rfl ?_
    refine J.getR (r := 1) dX11_places_16 fX11_15 (hT.k 0 rfl) rfl (hT.r 0 0 rfl rfl) ?_
    refine J.iload_n dX11_places_19 rfl rfl ?_
    refine J.callVgR (mc := C) (ms := S) (k := 15) (as := [.ref 1, .int a1]) (rest := []) dX11_places_20 kX9_placesOf vX9_placesOf lX11_170 (hT.k 15 rfl) rfl rfl rfl rfl rfl (by omega) (by omega) (by omega) (qX9_placesOf (d + 1) hT hPl a1 h8 C S hp) (fun k T' I' hq => ?_)
    obtain ⟨e0, e1, e2⟩ := hq
    subst e0
    have hT' : Lay T' := by rw [e1]; exact jFindP_lay hT hi
    refine J.getI dX11_places_23 fX11_174 (hT'.placesK hi) rfl ?_
    refine J.goto (tgt := 35) dX11_places_26 (by decide) ?_
    exact J.iretQ dX11_places_35 rfl (by omega) (by omega) (by unfold jPlaces; rw [if_pos hc1, ← e1, ← e2]; exact ⟨rfl, rfl, rfl⟩)

def jLay (T : Topo) (I : IM) (a1 : Int32) : Int32 × Topo × IM := if (jX9_haveAll I a1) = 0 then ((-1000001), T, fnd I) else (jLayR (jBeg T I).1 (jBeg T I).2 a1, (jBeg T I).1, jLayRM (jBeg T I).1 (jBeg T I).2 a1)
def jLayK (T : Topo) (I : IM) (a1 : Int32) (C S : Nat) : Prop := ¬ (jX9_haveAll I a1) = 0 → jBegK T I C S ∧ jLayRK (jBeg T I).1 (jBeg T I).2 a1
set_option maxHeartbeats 4000000 in
set_option maxRecDepth 100000 in
theorem qX11_lay (d : Nat) {T : Topo} {I : IM} (hT : Lay T) (hPl : Pl T) (a1 : Int32) (C S : Nat) (hp : jLayK T I a1 C S) : Ct (d + 13) mX11_lay [.ref 0, .int a1] T I C S (PI fun x T' I' => x = (jLay T I a1).1 ∧ T' = (jLay T I a1).2.1 ∧ I' = (jLay T I a1).2.2) := by
  refine Ct.ofJ (ls := [some (.ref 0), some (.int a1), none]) (by decide +kernel) rfl (by intro v hv; revert v hv; simp [Value.category]) rfl ?_
  refine J.aload_n dX11_lay_0 rfl rfl ?_
  refine J.getR (r := 15) dX11_lay_1 fX11_19 (hT.k 0 rfl) rfl (hT.r 0 1 rfl rfl) ?_
  refine J.iload_n dX11_lay_4 rfl rfl ?_
  refine J.callVP (k := 15) (as := [.int a1]) (rest := []) dX11_lay_5 kX9_haveAll vX9_haveAll lX11_261 (hT.k 15 rfl) rfl rfl rfl rfl rfl (by omega) (Nat.zero_le _) (Nat.zero_le _) (qX9_haveAll (d + 12) hT a1) ?_
  refine J.if_ne (tgt := 18) dX11_lay_8 (by decide) (fun hc1 => ?_) (fun hc1 => ?_)
  · obtain ⟨hp1, hp2⟩ := hp hc1
    refine J.aload_n dX11_lay_18 rfl rfl ?_
    refine J.getR (r := 56) dX11_lay_19 fX11_42 (hT.k 0 rfl) rfl (hT.r 0 4 rfl rfl) ?_
    refine J.callVgV (mc := C) (ms := S) (k := 56) (as := []) (rest := []) dX11_lay_22 kX3_begin vX3_begin lX11_264 (hT.k 56 rfl) rfl rfl rfl rfl rfl (by omega) (by omega) (by omega) (qX3_begin d hT hPl C S hp1) (fun T' I' hq => ?_)
    obtain ⟨e1, e2⟩ := hq
    have hTP := jBegI_lay FU 0 T (up2 (up2 I 56 11 0) 56 12 0) C S 0 0 hT hPl hp1
    have hT' : Lay T' := by rw [e1]; exact hTP.1
    have hPl' : Pl T' := by rw [e1]; exact hTP.2
    rw [← e1, ← e2] at hp2
    refine J.post ?_ (tX11_lay d hT' a1 hPl' (C := C) (S := S) (c := 0 + C) (sl := 0 + S) (by omega) (by omega) hp2)
    rintro r T2 I2 ⟨x, h1, h2, h3, h4⟩
    refine ⟨x, h1, ?_⟩
    unfold jLay
    rw [if_neg hc1, ← e1, ← e2]
    exact ⟨h3, h2, h4⟩
  · refine J.aload_n dX11_lay_11 rfl rfl ?_
    refine J.ldc (v := (-1000001)) dX11_lay_12 kcX11_64 ?_
    refine J.callVE (k := 0) (as := [.int (-1000001)]) (rest := []) dX11_lay_14 kX11_finding vX11_finding lX11_65 (hT.k 0 rfl) rfl rfl rfl rfl rfl (by omega) (Nat.zero_le _) (Nat.zero_le _) (qX11_finding (d + 12) hT (-1000001)) ?_
    exact J.iretQ dX11_lay_17 rfl (Nat.zero_le _) (Nat.zero_le _) (by unfold jLay; rw [if_pos hc1]; exact ⟨rfl, rfl, rfl⟩)

def jCan (T : Topo) (I : IM) (a1 : Int32) : Int32 × Topo × IM := if (jX9_haveAll I a1) = 0 then ((-1000001), T, fnd I) else (jCanR (jBeg T I).1 (jBeg T I).2 a1, (jBeg T I).1, jCanRM (jBeg T I).1 (jBeg T I).2 a1)
def jCanK (T : Topo) (I : IM) (a1 : Int32) (C S : Nat) : Prop := ¬ (jX9_haveAll I a1) = 0 → jBegK T I C S ∧ jCanRK (jBeg T I).1 (jBeg T I).2 a1
set_option maxHeartbeats 4000000 in
set_option maxRecDepth 100000 in
theorem qX11_can (d : Nat) {T : Topo} {I : IM} (hT : Lay T) (hPl : Pl T) (a1 : Int32) (C S : Nat) (hp : jCanK T I a1 C S) : Ct (d + 13) mX11_can [.ref 0, .int a1] T I C S (PI fun x T' I' => x = (jCan T I a1).1 ∧ T' = (jCan T I a1).2.1 ∧ I' = (jCan T I a1).2.2) := by
  refine Ct.ofJ (ls := [some (.ref 0), some (.int a1), none]) (by decide +kernel) rfl (by intro v hv; revert v hv; simp [Value.category]) rfl ?_
  refine J.aload_n dX11_can_0 rfl rfl ?_
  refine J.getR (r := 15) dX11_can_1 fX11_19 (hT.k 0 rfl) rfl (hT.r 0 1 rfl rfl) ?_
  refine J.iload_n dX11_can_4 rfl rfl ?_
  refine J.callVP (k := 15) (as := [.int a1]) (rest := []) dX11_can_5 kX9_haveAll vX9_haveAll lX11_261 (hT.k 15 rfl) rfl rfl rfl rfl rfl (by omega) (Nat.zero_le _) (Nat.zero_le _) (qX9_haveAll (d + 12) hT a1) ?_
  refine J.if_ne (tgt := 18) dX11_can_8 (by decide) (fun hc1 => ?_) (fun hc1 => ?_)
  · obtain ⟨hp1, hp2⟩ := hp hc1
    refine J.aload_n dX11_can_18 rfl rfl ?_
    refine J.getR (r := 56) dX11_can_19 fX11_42 (hT.k 0 rfl) rfl (hT.r 0 4 rfl rfl) ?_
    refine J.callVgV (mc := C) (ms := S) (k := 56) (as := []) (rest := []) dX11_can_22 kX3_begin vX3_begin lX11_264 (hT.k 56 rfl) rfl rfl rfl rfl rfl (by omega) (by omega) (by omega) (qX3_begin d hT hPl C S hp1) (fun T' I' hq => ?_)
    obtain ⟨e1, e2⟩ := hq
    have hTP := jBegI_lay FU 0 T (up2 (up2 I 56 11 0) 56 12 0) C S 0 0 hT hPl hp1
    have hT' : Lay T' := by rw [e1]; exact hTP.1
    have hPl' : Pl T' := by rw [e1]; exact hTP.2
    rw [← e1, ← e2] at hp2
    refine J.post ?_ (tX11_can d hT' a1 hPl' (C := C) (S := S) (c := 0 + C) (sl := 0 + S) (by omega) (by omega) hp2)
    rintro r T2 I2 ⟨x, h1, h2, h3, h4⟩
    refine ⟨x, h1, ?_⟩
    unfold jCan
    rw [if_neg hc1, ← e1, ← e2]
    exact ⟨h3, h2, h4⟩
  · refine J.aload_n dX11_can_11 rfl rfl ?_
    refine J.ldc (v := (-1000001)) dX11_can_12 kcX11_64 ?_
    refine J.callVE (k := 0) (as := [.int (-1000001)]) (rest := []) dX11_can_14 kX11_finding vX11_finding lX11_65 (hT.k 0 rfl) rfl rfl rfl rfl rfl (by omega) (Nat.zero_le _) (Nat.zero_le _) (qX11_finding (d + 12) hT (-1000001)) ?_
    exact J.iretQ dX11_can_17 rfl (Nat.zero_le _) (Nat.zero_le _) (by unfold jCan; rw [if_pos hc1]; exact ⟨rfl, rfl, rfl⟩)

def jBest (T : Topo) (I : IM) : Int32 × Topo × IM := (jBestR (jBeg T I).1 (jBeg T I).2, (jBeg T I).1, jBestRM (jBeg T I).1 (jBeg T I).2)
def jBestK (T : Topo) (I : IM) (C S : Nat) : Prop := jBegK T I C S ∧ jBestRK (jBeg T I).1 (jBeg T I).2
set_option maxHeartbeats 4000000 in
set_option maxRecDepth 100000 in
theorem qX11_best (d : Nat) {T : Topo} {I : IM} (hT : Lay T) (hPl : Pl T) (C S : Nat) (hp : jBestK T I C S) : Ct (d + 13) mX11_best [.ref 0] T I C S (PI fun x T' I' => x = (jBest T I).1 ∧ T' = (jBest T I).2.1 ∧ I' = (jBest T I).2.2) := by
  refine Ct.ofJ (ls := [some (.ref 0), none]) (by decide +kernel) rfl (by intro v hv; revert v hv; simp [Value.category]) rfl ?_
  obtain ⟨hp1, hp2⟩ := hp
  refine J.aload_n dX11_best_0 rfl rfl ?_
  refine J.getR (r := 56) dX11_best_1 fX11_42 (hT.k 0 rfl) rfl (hT.r 0 4 rfl rfl) ?_
  refine J.callVgV (mc := C) (ms := S) (k := 56) (as := []) (rest := []) dX11_best_4 kX3_begin vX3_begin lX11_264 (hT.k 56 rfl) rfl rfl rfl rfl rfl (by omega) (by omega) (by omega) (qX3_begin d hT hPl C S hp1) (fun T' I' hq => ?_)
  obtain ⟨e1, e2⟩ := hq
  have hTP := jBegI_lay FU 0 T (up2 (up2 I 56 11 0) 56 12 0) C S 0 0 hT hPl hp1
  have hT' : Lay T' := by rw [e1]; exact hTP.1
  have hPl' : Pl T' := by rw [e1]; exact hTP.2
  rw [← e1, ← e2] at hp2
  refine J.post ?_ (tX11_best d hT' hPl' (C := C) (S := S) (c := 0 + C) (sl := 0 + S) (by omega) (by omega) hp2)
  rintro r T2 I2 ⟨x, h1, h2, h3, h4⟩
  refine ⟨x, h1, ?_⟩
  unfold jBest
  rw [← e1, ← e2]
  exact ⟨h3, h2, h4⟩
end
