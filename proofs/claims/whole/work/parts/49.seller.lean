noncomputable section
def fX11_node_0 (T : Topo) (a1 : Int32) (Q : Int32 → Topo → IM → Prop)  (I : IM) : Prop :=
  ((((wi a1 0 100) → ((((I 1 3) < 6) → (((jX5_addNodeK I)) ∧ Q (jX5_addNode I) T (jX5_addNodeM I a1))) ∧ ((¬ (I 1 3) < 6) → (Q (-1000002) T (fnd I))))) ∧ ((¬ (wi a1 0 100)) → (Q (-1000001) T (fnd I)))))
set_option maxHeartbeats 4000000 in
set_option maxRecDepth 100000 in
theorem sX11_node_0 (d : Nat) {T : Topo} (hT : Lay T) (a1 : Int32)    {Q : Int32 → Topo → IM → Prop}   (I : IM) (h : fX11_node_0 T a1 Q  I) : J (d + 1) mX11_node (PI Q) 0 0 0 [some (.ref 0), some (.int a1)] [] T I 0 0 := by
  unfold fX11_node_0 at h
  refine J.iload_n dX11_node_0 rfl rfl ?_
  refine J.iconst (v := 0) dX11_node_1 (by decide) ?_
  refine J.bipush (v := 100) dX11_node_2 (by decide) ?_
  refine J.callSP (as := [.int a1, .int 0, .int 100]) (rest := []) dX11_node_4 kX11_isWithin vX11_isWithin lX11_60 rfl rfl rfl (by omega) (Nat.le_refl _) (Nat.le_refl _) (qX11_isWithin (d + 0) hT a1 0 100 ) ?_
  refine J.bz_ne (tgt := 17) dX11_node_7 (by decide) (fun hc1 => ?_) (fun hc1 => ?_)
  · have h := h.1 hc1
    refine J.aload_n dX11_node_17 rfl rfl ?_
    refine J.getR (r := 1) dX11_node_18 fX11_15 (hT.k 0 rfl) rfl (hT.r 0 0 rfl rfl) ?_
    refine J.getI dX11_node_21 fX11_69 (hT.k 1 rfl) rfl ?_
    refine J.bipush (v := 6) dX11_node_24 (by decide) ?_
    refine J.icmp_lt (tgt := 38) dX11_node_26 (by decide) (fun hc2 => ?_) (fun hc2 => ?_)
    · have h := h.1 hc2
      refine J.aload_n dX11_node_38 rfl rfl ?_
      refine J.getR (r := 1) dX11_node_39 fX11_15 (hT.k 0 rfl) rfl (hT.r 0 0 rfl rfl) ?_
      refine J.iload_n dX11_node_42 rfl rfl ?_
      obtain ⟨hp3, h⟩ := h
      refine J.callVE (k := 1) (as := [.int a1]) (rest := []) dX11_node_43 kX5_addNode vX5_addNode lX11_74 (hT.k 1 rfl) rfl rfl rfl rfl rfl (by omega) (Nat.le_refl _) (Nat.le_refl _) (qX5_addNode (d + 0) hT a1 hp3) ?_
      exact J.iretQ dX11_node_46 rfl (Nat.le_refl _) (Nat.le_refl _) h
    · have h := h.2 hc2
      refine J.aload_n dX11_node_29 rfl rfl ?_
      refine J.ldc (v := (-1000002)) dX11_node_30 kcX11_73 ?_
      refine J.callVE (k := 0) (as := [.int (-1000002)]) (rest := []) dX11_node_32 kX11_finding vX11_finding lX11_65 (hT.k 0 rfl) rfl rfl rfl rfl rfl (by omega) (Nat.le_refl _) (Nat.le_refl _) (qX11_finding (d + 0) hT (-1000002) ) ?_
      refine J.goto (tgt := 46) dX11_node_35 (by decide) ?_
      exact J.iretQ dX11_node_46 rfl (Nat.le_refl _) (Nat.le_refl _) h
  · have h := h.2 hc1
    refine J.aload_n dX11_node_10 rfl rfl ?_
    refine J.ldc (v := (-1000001)) dX11_node_11 kcX11_64 ?_
    refine J.callVE (k := 0) (as := [.int (-1000001)]) (rest := []) dX11_node_13 kX11_finding vX11_finding lX11_65 (hT.k 0 rfl) rfl rfl rfl rfl rfl (by omega) (Nat.le_refl _) (Nat.le_refl _) (qX11_finding (d + 0) hT (-1000001) ) ?_
    exact J.iretQ dX11_node_16 rfl (Nat.le_refl _) (Nat.le_refl _) h
set_option maxHeartbeats 4000000 in
set_option maxRecDepth 100000 in
theorem wX11_node (d : Nat) {T : Topo} (hT : Lay T) (a1 : Int32)   {Q : Int32 → Topo → IM → Prop} {I : IM} (h : fX11_node_0 T a1 Q I) : Ct (d + 1) mX11_node [.ref 0, .int a1] T I 0 0 (PI Q) :=
  Ct.ofJ (by decide +kernel) rfl (by intro v hv; revert v hv; simp [Value.category]) rfl (sX11_node_0 d hT a1   I h)

def jX11_node (I : IM) (a1 : Int32) : Int32 := (if wi a1 0 100 then (if (I 1 3) < 6 then (jX5_addNode I) else (-1000002)) else (-1000001))
def jX11_nodeM (I : IM) (a1 : Int32) : IM := (if wi a1 0 100 then (if (I 1 3) < 6 then (jX5_addNodeM I a1) else (fnd I)) else (fnd I))
def jX11_nodeK (I : IM) (a1 : Int32) : Prop := (((wi a1 0 100) → ((((I 1 3) < 6) → ((jX5_addNodeK I))) ∧ ((¬ (I 1 3) < 6) → True))) ∧ ((¬ (wi a1 0 100)) → True))
set_option maxRecDepth 10000 in
theorem qX11_node (d : Nat) {T : Topo} {I : IM} (hT : Lay T) (a1 : Int32)  (hp : (jX11_nodeK I a1)) : CtI (d + 1) mX11_node [.ref 0, .int a1] T I (fun x_ J_ => x_ = (jX11_node I a1) ∧ J_ = (jX11_nodeM I a1)) :=
  wX11_node d hT a1   (by
  unfold fX11_node_0
  exact ⟨fun hc1 => ⟨fun hc2 => ⟨((hp).1 hc1).1 hc2, ⟨rfl, by unfold jX11_node; rw [if_pos hc1, if_pos hc2], by unfold jX11_nodeM; rw [if_pos hc1, if_pos hc2]⟩⟩, fun hc2 => ⟨rfl, by unfold jX11_node; rw [if_pos hc1, if_neg hc2], by unfold jX11_nodeM; rw [if_pos hc1, if_neg hc2]⟩⟩, fun hc1 => ⟨rfl, by unfold jX11_node; rw [if_neg hc1], by unfold jX11_nodeM; rw [if_neg hc1]⟩⟩)

def fX11_line_0 (T : Topo) (a1 : Int32) (a2 : Int32) (a3 : Int32) (a4 : Int32) (a5 : Int32) (Q : Int32 → Topo → IM → Prop)  (I : IM) : Prop :=
  ((((¬ (tw I a1 a2)) → (Q (-1000001) T (fnd I))) ∧ ((tw I a1 a2) → ((((¬ (wi a3 1 50)) → (Q (-1000001) T (fnd I))) ∧ ((wi a3 1 50) → ((((¬ (wi a4 1 9)) → (Q (-1000001) T (fnd I))) ∧ ((wi a4 1 9) → ((((¬ (wi a5 0 9)) → (Q (-1000001) T (fnd I))) ∧ ((wi a5 0 9) → ((((I 1 4) < 9) → (((jX5_addLineK I)) ∧ Q (jX5_addLine I) T (jX5_addLineM I a1 a2 a3 a4 a5))) ∧ ((¬ (I 1 4) < 9) → (Q (-1000002) T (fnd I))))))))))))))))
set_option maxHeartbeats 4000000 in
set_option maxRecDepth 100000 in
theorem sX11_line_0 (d : Nat) {T : Topo} (hT : Lay T) (a1 : Int32) (a2 : Int32) (a3 : Int32) (a4 : Int32) (a5 : Int32)    {Q : Int32 → Topo → IM → Prop}   (I : IM) (h : fX11_line_0 T a1 a2 a3 a4 a5 Q  I) : J (d + 2) mX11_line (PI Q) 0 0 0 [some (.ref 0), some (.int a1), some (.int a2), some (.int a3), some (.int a4), some (.int a5), none] [] T I 0 0 := by
  unfold fX11_line_0 at h
  refine J.aload_n dX11_line_0 rfl rfl ?_
  refine J.getR (r := 1) dX11_line_1 fX11_15 (hT.k 0 rfl) rfl (hT.r 0 0 rfl rfl) ?_
  refine J.iload_n dX11_line_4 rfl rfl ?_
  refine J.iload_n dX11_line_5 rfl rfl ?_
  refine J.callVP (k := 1) (as := [.int a1, .int a2]) (rest := []) dX11_line_6 kX5_areTwoNodes vX5_areTwoNodes lX11_77 (hT.k 1 rfl) rfl rfl rfl rfl rfl (by omega) (Nat.le_refl _) (Nat.le_refl _) (qX5_areTwoNodes (d + 0) hT a1 a2 ) ?_
  refine J.bz_eq (tgt := 48) dX11_line_9 (by decide) (fun hc1 => ?_) (fun hc1 => ?_)
  · have h := h.1 hc1
    refine J.iconst (v := 0) dX11_line_48 (by decide) ?_
    refine J.istore (ls' := [some (.ref 0), some (.int a1), some (.int a2), some (.int a3), some (.int a4), some (.int a5), some (.int 0)]) dX11_line_49 rfl rfl ?_
    refine J.iload dX11_line_51 rfl ?_
    refine J.if_ne (tgt := 63) dX11_line_53 (by decide) (fun hc => absurd (by decide) hc) (fun hc => ?_)
    refine J.aload_n dX11_line_56 rfl rfl ?_
    refine J.ldc (v := (-1000001)) dX11_line_57 kcX11_64 ?_
    refine J.callVE (k := 0) (as := [.int (-1000001)]) (rest := []) dX11_line_59 kX11_finding vX11_finding lX11_65 (hT.k 0 rfl) rfl rfl rfl rfl rfl (by omega) (Nat.le_refl _) (Nat.le_refl _) (qX11_finding (d + 1) hT (-1000001) ) ?_
    exact J.iretQ dX11_line_62 rfl (Nat.le_refl _) (Nat.le_refl _) h
  · have h := h.2 hc1
    refine J.iload_n dX11_line_12 rfl rfl ?_
    refine J.iconst (v := 1) dX11_line_13 (by decide) ?_
    refine J.bipush (v := 50) dX11_line_14 (by decide) ?_
    refine J.callSP (as := [.int a3, .int 1, .int 50]) (rest := []) dX11_line_16 kX11_isWithin vX11_isWithin lX11_60 rfl rfl rfl (by omega) (Nat.le_refl _) (Nat.le_refl _) (qX11_isWithin (d + 1) hT a3 1 50 ) ?_
    refine J.bz_eq (tgt := 48) dX11_line_19 (by decide) (fun hc2 => ?_) (fun hc2 => ?_)
    · have h := h.1 hc2
      refine J.iconst (v := 0) dX11_line_48 (by decide) ?_
      refine J.istore (ls' := [some (.ref 0), some (.int a1), some (.int a2), some (.int a3), some (.int a4), some (.int a5), some (.int 0)]) dX11_line_49 rfl rfl ?_
      refine J.iload dX11_line_51 rfl ?_
      refine J.if_ne (tgt := 63) dX11_line_53 (by decide) (fun hc => absurd (by decide) hc) (fun hc => ?_)
      refine J.aload_n dX11_line_56 rfl rfl ?_
      refine J.ldc (v := (-1000001)) dX11_line_57 kcX11_64 ?_
      refine J.callVE (k := 0) (as := [.int (-1000001)]) (rest := []) dX11_line_59 kX11_finding vX11_finding lX11_65 (hT.k 0 rfl) rfl rfl rfl rfl rfl (by omega) (Nat.le_refl _) (Nat.le_refl _) (qX11_finding (d + 1) hT (-1000001) ) ?_
      exact J.iretQ dX11_line_62 rfl (Nat.le_refl _) (Nat.le_refl _) h
    · have h := h.2 hc2
      refine J.iload dX11_line_22 rfl ?_
      refine J.iconst (v := 1) dX11_line_24 (by decide) ?_
      refine J.bipush (v := 9) dX11_line_25 (by decide) ?_
      refine J.callSP (as := [.int a4, .int 1, .int 9]) (rest := []) dX11_line_27 kX11_isWithin vX11_isWithin lX11_60 rfl rfl rfl (by omega) (Nat.le_refl _) (Nat.le_refl _) (qX11_isWithin (d + 1) hT a4 1 9 ) ?_
      refine J.bz_eq (tgt := 48) dX11_line_30 (by decide) (fun hc3 => ?_) (fun hc3 => ?_)
      · have h := h.1 hc3
        refine J.iconst (v := 0) dX11_line_48 (by decide) ?_
        refine J.istore (ls' := [some (.ref 0), some (.int a1), some (.int a2), some (.int a3), some (.int a4), some (.int a5), some (.int 0)]) dX11_line_49 rfl rfl ?_
        refine J.iload dX11_line_51 rfl ?_
        refine J.if_ne (tgt := 63) dX11_line_53 (by decide) (fun hc => absurd (by decide) hc) (fun hc => ?_)
        refine J.aload_n dX11_line_56 rfl rfl ?_
        refine J.ldc (v := (-1000001)) dX11_line_57 kcX11_64 ?_
        refine J.callVE (k := 0) (as := [.int (-1000001)]) (rest := []) dX11_line_59 kX11_finding vX11_finding lX11_65 (hT.k 0 rfl) rfl rfl rfl rfl rfl (by omega) (Nat.le_refl _) (Nat.le_refl _) (qX11_finding (d + 1) hT (-1000001) ) ?_
        exact J.iretQ dX11_line_62 rfl (Nat.le_refl _) (Nat.le_refl _) h
      · have h := h.2 hc3
        refine J.iload dX11_line_33 rfl ?_
        refine J.iconst (v := 0) dX11_line_35 (by decide) ?_
        refine J.bipush (v := 9) dX11_line_36 (by decide) ?_
        refine J.callSP (as := [.int a5, .int 0, .int 9]) (rest := []) dX11_line_38 kX11_isWithin vX11_isWithin lX11_60 rfl rfl rfl (by omega) (Nat.le_refl _) (Nat.le_refl _) (qX11_isWithin (d + 1) hT a5 0 9 ) ?_
        refine J.bz_eq (tgt := 48) dX11_line_41 (by decide) (fun hc4 => ?_) (fun hc4 => ?_)
        · have h := h.1 hc4
          refine J.iconst (v := 0) dX11_line_48 (by decide) ?_
          refine J.istore (ls' := [some (.ref 0), some (.int a1), some (.int a2), some (.int a3), some (.int a4), some (.int a5), some (.int 0)]) dX11_line_49 rfl rfl ?_
          refine J.iload dX11_line_51 rfl ?_
          refine J.if_ne (tgt := 63) dX11_line_53 (by decide) (fun hc => absurd (by decide) hc) (fun hc => ?_)
          refine J.aload_n dX11_line_56 rfl rfl ?_
          refine J.ldc (v := (-1000001)) dX11_line_57 kcX11_64 ?_
          refine J.callVE (k := 0) (as := [.int (-1000001)]) (rest := []) dX11_line_59 kX11_finding vX11_finding lX11_65 (hT.k 0 rfl) rfl rfl rfl rfl rfl (by omega) (Nat.le_refl _) (Nat.le_refl _) (qX11_finding (d + 1) hT (-1000001) ) ?_
          exact J.iretQ dX11_line_62 rfl (Nat.le_refl _) (Nat.le_refl _) h
        · have h := h.2 hc4
          refine J.iconst (v := 1) dX11_line_44 (by decide) ?_
          refine J.goto (tgt := 49) dX11_line_45 (by decide) ?_
          refine J.istore (ls' := [some (.ref 0), some (.int a1), some (.int a2), some (.int a3), some (.int a4), some (.int a5), some (.int 1)]) dX11_line_49 rfl rfl ?_
          refine J.iload dX11_line_51 rfl ?_
          refine J.if_ne (tgt := 63) dX11_line_53 (by decide) (fun hc => ?_) (fun hc => absurd hc (by decide))
          refine J.aload_n dX11_line_63 rfl rfl ?_
          refine J.getR (r := 1) dX11_line_64 fX11_15 (hT.k 0 rfl) rfl (hT.r 0 0 rfl rfl) ?_
          refine J.atpc (pc' := 67) rfl ?_
          refine J.getI dX11_line_67 fX11_81 (hT.k 1 rfl) rfl ?_
          refine J.bipush (v := 9) dX11_line_70 (by decide) ?_
          refine J.icmp_lt (tgt := 84) dX11_line_72 (by decide) (fun hc5 => ?_) (fun hc5 => ?_)
          · have h := h.1 hc5
            refine J.aload_n dX11_line_84 rfl rfl ?_
            refine J.getR (r := 1) dX11_line_85 fX11_15 (hT.k 0 rfl) rfl (hT.r 0 0 rfl rfl) ?_
            refine J.iload_n dX11_line_88 rfl rfl ?_
            refine J.iload_n dX11_line_89 rfl rfl ?_
            refine J.iload_n dX11_line_90 rfl rfl ?_
            refine J.iload dX11_line_91 rfl ?_
            refine J.iload dX11_line_93 rfl ?_
            refine J.atpc (pc' := 95) rfl ?_
            obtain ⟨hp6, h⟩ := h
            refine J.callVE (k := 1) (as := [.int a1, .int a2, .int a3, .int a4, .int a5]) (rest := []) dX11_line_95 kX5_addLine vX5_addLine lX11_84 (hT.k 1 rfl) rfl rfl rfl rfl rfl (by omega) (Nat.le_refl _) (Nat.le_refl _) (qX5_addLine (d + 1) hT a1 a2 a3 a4 a5 hp6) ?_
            exact J.iretQ dX11_line_98 rfl (Nat.le_refl _) (Nat.le_refl _) h
          · have h := h.2 hc5
            refine J.aload_n dX11_line_75 rfl rfl ?_
            refine J.ldc (v := (-1000002)) dX11_line_76 kcX11_73 ?_
            refine J.callVE (k := 0) (as := [.int (-1000002)]) (rest := []) dX11_line_78 kX11_finding vX11_finding lX11_65 (hT.k 0 rfl) rfl rfl rfl rfl rfl (by omega) (Nat.le_refl _) (Nat.le_refl _) (qX11_finding (d + 1) hT (-1000002) ) ?_
            refine J.goto (tgt := 98) dX11_line_81 (by decide) ?_
            exact J.iretQ dX11_line_98 rfl (Nat.le_refl _) (Nat.le_refl _) h
set_option maxHeartbeats 4000000 in
set_option maxRecDepth 100000 in
theorem wX11_line (d : Nat) {T : Topo} (hT : Lay T) (a1 : Int32) (a2 : Int32) (a3 : Int32) (a4 : Int32) (a5 : Int32)   {Q : Int32 → Topo → IM → Prop} {I : IM} (h : fX11_line_0 T a1 a2 a3 a4 a5 Q I) : Ct (d + 2) mX11_line [.ref 0, .int a1, .int a2, .int a3, .int a4, .int a5] T I 0 0 (PI Q) :=
  Ct.ofJ (by decide +kernel) rfl (by intro v hv; revert v hv; simp [Value.category]) rfl (sX11_line_0 d hT a1 a2 a3 a4 a5   I h)

def jX11_line (I : IM) (a1 : Int32) (a2 : Int32) (a3 : Int32) (a4 : Int32) (a5 : Int32) : Int32 := (if tw I a1 a2 then (if wi a3 1 50 then (if wi a4 1 9 then (if wi a5 0 9 then (if (I 1 4) < 9 then (jX5_addLine I) else (-1000002)) else (-1000001)) else (-1000001)) else (-1000001)) else (-1000001))
def jX11_lineM (I : IM) (a1 : Int32) (a2 : Int32) (a3 : Int32) (a4 : Int32) (a5 : Int32) : IM := (if tw I a1 a2 then (if wi a3 1 50 then (if wi a4 1 9 then (if wi a5 0 9 then (if (I 1 4) < 9 then (jX5_addLineM I a1 a2 a3 a4 a5) else (fnd I)) else (fnd I)) else (fnd I)) else (fnd I)) else (fnd I))
def jX11_lineK (I : IM) (a1 : Int32) (a2 : Int32) (a3 : Int32) (a4 : Int32) (a5 : Int32) : Prop := (((¬ (tw I a1 a2)) → True) ∧ ((tw I a1 a2) → (((¬ (wi a3 1 50)) → True) ∧ ((wi a3 1 50) → (((¬ (wi a4 1 9)) → True) ∧ ((wi a4 1 9) → (((¬ (wi a5 0 9)) → True) ∧ ((wi a5 0 9) → ((((I 1 4) < 9) → ((jX5_addLineK I))) ∧ ((¬ (I 1 4) < 9) → True))))))))))
set_option maxRecDepth 10000 in
theorem qX11_line (d : Nat) {T : Topo} {I : IM} (hT : Lay T) (a1 : Int32) (a2 : Int32) (a3 : Int32) (a4 : Int32) (a5 : Int32)  (hp : (jX11_lineK I a1 a2 a3 a4 a5)) : CtI (d + 2) mX11_line [.ref 0, .int a1, .int a2, .int a3, .int a4, .int a5] T I (fun x_ J_ => x_ = (jX11_line I a1 a2 a3 a4 a5) ∧ J_ = (jX11_lineM I a1 a2 a3 a4 a5)) :=
  wX11_line d hT a1 a2 a3 a4 a5   (by
  unfold fX11_line_0
  exact ⟨fun hc1 => ⟨rfl, by unfold jX11_line; rw [if_neg hc1], by unfold jX11_lineM; rw [if_neg hc1]⟩, fun hc1 => ⟨fun hc2 => ⟨rfl, by unfold jX11_line; rw [if_pos hc1, if_neg hc2], by unfold jX11_lineM; rw [if_pos hc1, if_neg hc2]⟩, fun hc2 => ⟨fun hc3 => ⟨rfl, by unfold jX11_line; rw [if_pos hc1, if_pos hc2, if_neg hc3], by unfold jX11_lineM; rw [if_pos hc1, if_pos hc2, if_neg hc3]⟩, fun hc3 => ⟨fun hc4 => ⟨rfl, by unfold jX11_line; rw [if_pos hc1, if_pos hc2, if_pos hc3, if_neg hc4], by unfold jX11_lineM; rw [if_pos hc1, if_pos hc2, if_pos hc3, if_neg hc4]⟩, fun hc4 => ⟨fun hc5 => ⟨(((((hp).2 hc1).2 hc2).2 hc3).2 hc4).1 hc5, ⟨rfl, by unfold jX11_line; rw [if_pos hc1, if_pos hc2, if_pos hc3, if_pos hc4, if_pos hc5], by unfold jX11_lineM; rw [if_pos hc1, if_pos hc2, if_pos hc3, if_pos hc4, if_pos hc5]⟩⟩, fun hc5 => ⟨rfl, by unfold jX11_line; rw [if_pos hc1, if_pos hc2, if_pos hc3, if_pos hc4, if_neg hc5], by unfold jX11_lineM; rw [if_pos hc1, if_pos hc2, if_pos hc3, if_pos hc4, if_neg hc5]⟩⟩⟩⟩⟩⟩)

def fX11_up_0 (T : Topo) (a1 : Int32) (a2 : Int32) (Q : Int32 → Topo → IM → Prop)  (I : IM) : Prop :=
  ((((hL I a1) → (((((jX5_setUp I a1 a2) = 0) → Q 0 T (jX5_setUpM I a1 a2)) ∧ ((¬ (jX5_setUp I a1 a2) = 0) → Q 1 T (jX5_setUpM I a1 a2))))) ∧ ((¬ (hL I a1)) → (Q (-1000001) T (fnd I)))))
set_option maxHeartbeats 4000000 in
set_option maxRecDepth 100000 in
theorem sX11_up_0 (d : Nat) {T : Topo} (hT : Lay T) (a1 : Int32) (a2 : Int32)    {Q : Int32 → Topo → IM → Prop}   (I : IM) (h : fX11_up_0 T a1 a2 Q  I) : J (d + 2) mX11_up (PI Q) 0 0 0 [some (.ref 0), some (.int a1), some (.int a2)] [] T I 0 0 := by
  unfold fX11_up_0 at h
  refine J.aload_n dX11_up_0 rfl rfl ?_
  refine J.getR (r := 1) dX11_up_1 fX11_15 (hT.k 0 rfl) rfl (hT.r 0 0 rfl rfl) ?_
  refine J.iload_n dX11_up_4 rfl rfl ?_
  refine J.callVP (k := 1) (as := [.int a1]) (rest := []) dX11_up_5 kX5_hasLine vX5_hasLine lX11_88 (hT.k 1 rfl) rfl rfl rfl rfl rfl (by omega) (Nat.le_refl _) (Nat.le_refl _) (qX5_hasLine (d + 1) hT a1 ) ?_
  refine J.bz_ne (tgt := 18) dX11_up_8 (by decide) (fun hc1 => ?_) (fun hc1 => ?_)
  · have h := h.1 hc1
    refine J.aload_n dX11_up_18 rfl rfl ?_
    refine J.getR (r := 1) dX11_up_19 fX11_15 (hT.k 0 rfl) rfl (hT.r 0 0 rfl rfl) ?_
    refine J.iload_n dX11_up_22 rfl rfl ?_
    refine J.iload_n dX11_up_23 rfl rfl ?_
    refine J.callVE (k := 1) (as := [.int a1, .int a2]) (rest := []) dX11_up_24 kX5_setUp vX5_setUp lX11_92 (hT.k 1 rfl) rfl rfl rfl rfl rfl (by omega) (Nat.le_refl _) (Nat.le_refl _) (qX5_setUp (d + 0) hT a1 a2 ) ?_
    refine J.if_eq (tgt := 34) dX11_up_27 (by decide) (fun hc2 => ?_) (fun hc2 => ?_)
    · have h := h.1 hc2
      refine J.iconst (v := 0) dX11_up_34 (by decide) ?_
      exact J.iretQ dX11_up_35 rfl (Nat.le_refl _) (Nat.le_refl _) h
    · have h := h.2 hc2
      refine J.iconst (v := 1) dX11_up_30 (by decide) ?_
      refine J.goto (tgt := 35) dX11_up_31 (by decide) ?_
      exact J.iretQ dX11_up_35 rfl (Nat.le_refl _) (Nat.le_refl _) h
  · have h := h.2 hc1
    refine J.aload_n dX11_up_11 rfl rfl ?_
    refine J.ldc (v := (-1000001)) dX11_up_12 kcX11_64 ?_
    refine J.callVE (k := 0) (as := [.int (-1000001)]) (rest := []) dX11_up_14 kX11_finding vX11_finding lX11_65 (hT.k 0 rfl) rfl rfl rfl rfl rfl (by omega) (Nat.le_refl _) (Nat.le_refl _) (qX11_finding (d + 1) hT (-1000001) ) ?_
    exact J.iretQ dX11_up_17 rfl (Nat.le_refl _) (Nat.le_refl _) h
set_option maxHeartbeats 4000000 in
set_option maxRecDepth 100000 in
theorem wX11_up (d : Nat) {T : Topo} (hT : Lay T) (a1 : Int32) (a2 : Int32)   {Q : Int32 → Topo → IM → Prop} {I : IM} (h : fX11_up_0 T a1 a2 Q I) : Ct (d + 2) mX11_up [.ref 0, .int a1, .int a2] T I 0 0 (PI Q) :=
  Ct.ofJ (by decide +kernel) rfl (by intro v hv; revert v hv; simp [Value.category]) rfl (sX11_up_0 d hT a1 a2   I h)

def jX11_up (I : IM) (a1 : Int32) (a2 : Int32) : Int32 := (if hL I a1 then (if (jX5_setUp I a1 a2) = 0 then 0 else 1) else (-1000001))
def jX11_upM (I : IM) (a1 : Int32) (a2 : Int32) : IM := (if hL I a1 then (jX5_setUpM I a1 a2) else (fnd I))
set_option maxRecDepth 10000 in
theorem qX11_up (d : Nat) {T : Topo} {I : IM} (hT : Lay T) (a1 : Int32) (a2 : Int32)   : CtI (d + 2) mX11_up [.ref 0, .int a1, .int a2] T I (fun x_ J_ => x_ = (jX11_up I a1 a2) ∧ J_ = (jX11_upM I a1 a2)) :=
  wX11_up d hT a1 a2   (by
  unfold fX11_up_0
  exact ⟨fun hc1 => ⟨fun hc2 => ⟨rfl, by unfold jX11_up; rw [if_pos hc1, if_pos hc2], by unfold jX11_upM; rw [if_pos hc1]⟩, fun hc2 => ⟨rfl, by unfold jX11_up; rw [if_pos hc1, if_neg hc2], by unfold jX11_upM; rw [if_pos hc1]⟩⟩, fun hc1 => ⟨rfl, by unfold jX11_up; rw [if_neg hc1], by unfold jX11_upM; rw [if_neg hc1]⟩⟩)

def fX11_ways_0 (T : Topo) (a1 : Int32) (a2 : Int32) (Q : Int32 → Topo → IM → Prop)  (I : IM) : Prop :=
  ((((¬ (tw I a1 a2)) → (Q (-1000001) T (fnd I))) ∧ ((tw I a1 a2) → (((jFindK I a1 a2)) ∧ Q ((jFindM I a1 a2) 4 4) T (jFindM I a1 a2)))))
set_option maxHeartbeats 4000000 in
set_option maxRecDepth 100000 in
theorem sX11_ways_0 (d : Nat) {T : Topo} (hT : Lay T) (a1 : Int32) (a2 : Int32)    {Q : Int32 → Topo → IM → Prop}   (I : IM) (h : fX11_ways_0 T a1 a2 Q  I) : J (d + 10) mX11_ways (PI Q) 0 0 0 [some (.ref 0), some (.int a1), some (.int a2)] [] T I 0 0 := by
  unfold fX11_ways_0 at h
  refine J.aload_n dX11_ways_0 rfl rfl ?_
  refine J.getR (r := 1) dX11_ways_1 fX11_15 (hT.k 0 rfl) rfl (hT.r 0 0 rfl rfl) ?_
  refine J.iload_n dX11_ways_4 rfl rfl ?_
  refine J.iload_n dX11_ways_5 rfl rfl ?_
  refine J.callVP (k := 1) (as := [.int a1, .int a2]) (rest := []) dX11_ways_6 kX5_areTwoNodes vX5_areTwoNodes lX11_77 (hT.k 1 rfl) rfl rfl rfl rfl rfl (by omega) (Nat.le_refl _) (Nat.le_refl _) (qX5_areTwoNodes (d + 8) hT a1 a2 ) ?_
  refine J.bz_eq (tgt := 27) dX11_ways_9 (by decide) (fun hc1 => ?_) (fun hc1 => ?_)
  · have h := h.1 hc1
    refine J.aload_n dX11_ways_27 rfl rfl ?_
    refine J.ldc (v := (-1000001)) dX11_ways_28 kcX11_64 ?_
    refine J.callVE (k := 0) (as := [.int (-1000001)]) (rest := []) dX11_ways_30 kX11_finding vX11_finding lX11_65 (hT.k 0 rfl) rfl rfl rfl rfl rfl (by omega) (Nat.le_refl _) (Nat.le_refl _) (qX11_finding (d + 9) hT (-1000001) ) ?_
    exact J.iretQ dX11_ways_33 rfl (Nat.le_refl _) (Nat.le_refl _) h
  · have h := h.2 hc1
    refine J.aload_n dX11_ways_12 rfl rfl ?_
    refine J.getR (r := 1) dX11_ways_13 fX11_15 (hT.k 0 rfl) rfl (hT.r 0 0 rfl rfl) ?_
    refine J.iload_n dX11_ways_16 rfl rfl ?_
    refine J.iload_n dX11_ways_17 rfl rfl ?_
    obtain ⟨hp2, h⟩ := h
    refine J.callVG (r := 4) (k := 1) (as := [.int a1, .int a2]) (rest := []) dX11_ways_18 kX5_waysBetween vX5_waysBetween lX11_96 (hT.k 1 rfl) rfl rfl rfl rfl rfl (by omega) (Nat.le_refl _) (Nat.le_refl _) (qX5_waysBetween (d + 0) hT a1 a2 hp2) ?_
    refine J.getI dX11_ways_21 fX11_100 (hT.k 4 rfl) rfl ?_
    refine J.goto (tgt := 33) dX11_ways_24 (by decide) ?_
    exact J.iretQ dX11_ways_33 rfl (Nat.le_refl _) (Nat.le_refl _) h
set_option maxHeartbeats 4000000 in
set_option maxRecDepth 100000 in
theorem wX11_ways (d : Nat) {T : Topo} (hT : Lay T) (a1 : Int32) (a2 : Int32)   {Q : Int32 → Topo → IM → Prop} {I : IM} (h : fX11_ways_0 T a1 a2 Q I) : Ct (d + 10) mX11_ways [.ref 0, .int a1, .int a2] T I 0 0 (PI Q) :=
  Ct.ofJ (by decide +kernel) rfl (by intro v hv; revert v hv; simp [Value.category]) rfl (sX11_ways_0 d hT a1 a2   I h)

def jX11_ways (I : IM) (a1 : Int32) (a2 : Int32) : Int32 := (if tw I a1 a2 then ((jFindM I a1 a2) 4 4) else (-1000001))
def jX11_waysM (I : IM) (a1 : Int32) (a2 : Int32) : IM := (if tw I a1 a2 then (jFindM I a1 a2) else (fnd I))
def jX11_waysK (I : IM) (a1 : Int32) (a2 : Int32) : Prop := (((¬ (tw I a1 a2)) → True) ∧ ((tw I a1 a2) → ((jFindK I a1 a2))))
set_option maxRecDepth 10000 in
theorem qX11_ways (d : Nat) {T : Topo} {I : IM} (hT : Lay T) (a1 : Int32) (a2 : Int32)  (hp : (jX11_waysK I a1 a2)) : CtI (d + 10) mX11_ways [.ref 0, .int a1, .int a2] T I (fun x_ J_ => x_ = (jX11_ways I a1 a2) ∧ J_ = (jX11_waysM I a1 a2)) :=
  wX11_ways d hT a1 a2   (by
  unfold fX11_ways_0
  exact ⟨fun hc1 => ⟨rfl, by unfold jX11_ways; rw [if_neg hc1], by unfold jX11_waysM; rw [if_neg hc1]⟩, fun hc1 => ⟨(hp).2 hc1, ⟨rfl, by unfold jX11_ways; rw [if_pos hc1], by unfold jX11_waysM; rw [if_pos hc1]⟩⟩⟩)

def fX11_way_0 (T : Topo) (a1 : Int32) (a2 : Int32) (a3 : Int32) (a4 : Int32) (Q : Int32 → Topo → IM → Prop)  (I : IM) : Prop :=
  ((((¬ (tw I a1 a2)) → (Q (-1000001) T (fnd I))) ∧ ((tw I a1 a2) → (((a3 < 0) → (Q (-1000001) T (fnd I))) ∧ ((¬ a3 < 0) → ((((-1) ≤ a4) → (((jFindK I a1 a2)) ∧ (((a3 < ((jFindM I a1 a2) 4 4)) → (((jKeyAtK a3)) ∧ (((¬ a4 = (-1)) → (Q (jLineAtW (jKeyAt (jFindM I a1 a2) a3) a4) T (jFindM I a1 a2))) ∧ ((a4 = (-1)) → (Q (jLateOf (jKeyAt (jFindM I a1 a2) a3)) T (jFindM I a1 a2)))))) ∧ ((¬ a3 < ((jFindM I a1 a2) 4 4)) → (Q (-1000005) T (fnd (jFindM I a1 a2))))))) ∧ ((¬ (-1) ≤ a4) → (Q (-1000001) T (fnd I)))))))))
set_option maxHeartbeats 4000000 in
set_option maxRecDepth 100000 in
theorem sX11_way_0 (d : Nat) {T : Topo} (hT : Lay T) (a1 : Int32) (a2 : Int32) (a3 : Int32) (a4 : Int32)    {Q : Int32 → Topo → IM → Prop}   (I : IM) (h : fX11_way_0 T a1 a2 a3 a4 Q  I) : J (d + 10) mX11_way (PI Q) 0 0 0 [some (.ref 0), some (.int a1), some (.int a2), some (.int a3), some (.int a4), none, none] [] T I 0 0 := by
  unfold fX11_way_0 at h
  refine J.aload_n dX11_way_0 rfl rfl ?_
  refine J.getR (r := 1) dX11_way_1 fX11_15 (hT.k 0 rfl) rfl (hT.r 0 0 rfl rfl) ?_
  refine J.iload_n dX11_way_4 rfl rfl ?_
  refine J.iload_n dX11_way_5 rfl rfl ?_
  refine J.callVP (k := 1) (as := [.int a1, .int a2]) (rest := []) dX11_way_6 kX5_areTwoNodes vX5_areTwoNodes lX11_77 (hT.k 1 rfl) rfl rfl rfl rfl rfl (by omega) (Nat.le_refl _) (Nat.le_refl _) (qX5_areTwoNodes (d + 8) hT a1 a2 ) ?_
  refine J.bz_eq (tgt := 22) dX11_way_9 (by decide) (fun hc1 => ?_) (fun hc1 => ?_)
  · have h := h.1 hc1
    refine J.aload_n dX11_way_22 rfl rfl ?_
    refine J.ldc (v := (-1000001)) dX11_way_23 kcX11_64 ?_
    refine J.callVE (k := 0) (as := [.int (-1000001)]) (rest := []) dX11_way_25 kX11_finding vX11_finding lX11_65 (hT.k 0 rfl) rfl rfl rfl rfl rfl (by omega) (Nat.le_refl _) (Nat.le_refl _) (qX11_finding (d + 9) hT (-1000001) ) ?_
    exact J.iretQ dX11_way_28 rfl (Nat.le_refl _) (Nat.le_refl _) h
  · have h := h.2 hc1
    refine J.iload_n dX11_way_12 rfl rfl ?_
    refine J.if_lt (tgt := 22) dX11_way_13 (by decide) (fun hc2 => ?_) (fun hc2 => ?_)
    · have h := h.1 hc2
      refine J.aload_n dX11_way_22 rfl rfl ?_
      refine J.ldc (v := (-1000001)) dX11_way_23 kcX11_64 ?_
      refine J.callVE (k := 0) (as := [.int (-1000001)]) (rest := []) dX11_way_25 kX11_finding vX11_finding lX11_65 (hT.k 0 rfl) rfl rfl rfl rfl rfl (by omega) (Nat.le_refl _) (Nat.le_refl _) (qX11_finding (d + 9) hT (-1000001) ) ?_
      exact J.iretQ dX11_way_28 rfl (Nat.le_refl _) (Nat.le_refl _) h
    · have h := h.2 hc2
      refine J.iload dX11_way_16 rfl ?_
      refine J.iconst (v := (-1)) dX11_way_18 (by decide) ?_
      refine J.icmp_ge (tgt := 29) dX11_way_19 (by decide) (fun hc3 => ?_) (fun hc3 => ?_)
      · have h := h.1 hc3
        refine J.aload_n dX11_way_29 rfl rfl ?_
        refine J.getR (r := 1) dX11_way_30 fX11_15 (hT.k 0 rfl) rfl (hT.r 0 0 rfl rfl) ?_
        refine J.iload_n dX11_way_33 rfl rfl ?_
        refine J.iload_n dX11_way_34 rfl rfl ?_
        obtain ⟨hp4, h⟩ := h
        refine J.callVG (r := 4) (k := 1) (as := [.int a1, .int a2]) (rest := []) dX11_way_35 kX5_waysBetween vX5_waysBetween lX11_96 (hT.k 1 rfl) rfl rfl rfl rfl rfl (by omega) (Nat.le_refl _) (Nat.le_refl _) (qX5_waysBetween (d + 0) hT a1 a2 hp4) ?_
        refine J.astore (ls' := [some (.ref 0), some (.int a1), some (.int a2), some (.int a3), some (.int a4), some (.ref 4), none]) dX11_way_38 rfl rfl ?_
        refine J.iload_n dX11_way_40 rfl rfl ?_
        refine J.aload dX11_way_41 rfl ?_
        refine J.getI dX11_way_43 fX11_100 (hT.k 4 rfl) rfl ?_
        refine J.icmp_lt (tgt := 56) dX11_way_46 (by decide) (fun hc5 => ?_) (fun hc5 => ?_)
        · have h := h.1 hc5
          refine J.aload dX11_way_56 rfl ?_
          refine J.iload_n dX11_way_58 rfl rfl ?_
          obtain ⟨hp6, h⟩ := h
          refine J.callVP (k := 4) (as := [.int a3]) (rest := []) dX11_way_59 kX10_keyAt vX10_keyAt lX11_106 (hT.k 4 rfl) rfl rfl rfl rfl rfl (by omega) (Nat.le_refl _) (Nat.le_refl _) (qX10_keyAt (d + 9) hT a3 hp6) ?_
          refine J.istore (ls' := [some (.ref 0), some (.int a1), some (.int a2), some (.int a3), some (.int a4), some (.ref 4), some (.int (jKeyAt (jFindM I a1 a2) a3))]) dX11_way_62 rfl rfl ?_
          refine J.iload dX11_way_64 rfl ?_
          refine J.iconst (v := (-1)) dX11_way_66 (by decide) ?_
          refine J.icmp_ne (tgt := 78) dX11_way_67 (by decide) (fun hc7 => ?_) (fun hc7 => ?_)
          · have h := h.1 hc7
            refine J.iload dX11_way_78 rfl ?_
            refine J.iload dX11_way_80 rfl ?_
            refine J.callSP (as := [.int (jKeyAt (jFindM I a1 a2) a3), .int a4]) (rest := []) dX11_way_82 kX10_lineAt vX10_lineAt lX11_112 rfl rfl rfl (by omega) (Nat.le_refl _) (Nat.le_refl _) (qX10_lineAt (d + 8) hT (jKeyAt (jFindM I a1 a2) a3) a4 ) ?_
            exact J.iretQ dX11_way_85 rfl (Nat.le_refl _) (Nat.le_refl _) h
          · have h := h.2 hc7
            refine J.iload dX11_way_70 rfl ?_
            refine J.callSP (as := [.int (jKeyAt (jFindM I a1 a2) a3)]) (rest := []) dX11_way_72 kX10_lateOf vX10_lateOf lX11_109 rfl rfl rfl (by omega) (Nat.le_refl _) (Nat.le_refl _) (qX10_lateOf (d + 9) hT (jKeyAt (jFindM I a1 a2) a3) ) ?_
            refine J.goto (tgt := 85) dX11_way_75 (by decide) ?_
            exact J.iretQ dX11_way_85 rfl (Nat.le_refl _) (Nat.le_refl _) h
        · have h := h.2 hc5
          refine J.aload_n dX11_way_49 rfl rfl ?_
          refine J.ldc (v := (-1000005)) dX11_way_50 kcX11_105 ?_
          refine J.callVE (k := 0) (as := [.int (-1000005)]) (rest := []) dX11_way_52 kX11_finding vX11_finding lX11_65 (hT.k 0 rfl) rfl rfl rfl rfl rfl (by omega) (Nat.le_refl _) (Nat.le_refl _) (qX11_finding (d + 9) hT (-1000005) ) ?_
          exact J.iretQ dX11_way_55 rfl (Nat.le_refl _) (Nat.le_refl _) h
      · have h := h.2 hc3
        refine J.aload_n dX11_way_22 rfl rfl ?_
        refine J.ldc (v := (-1000001)) dX11_way_23 kcX11_64 ?_
        refine J.callVE (k := 0) (as := [.int (-1000001)]) (rest := []) dX11_way_25 kX11_finding vX11_finding lX11_65 (hT.k 0 rfl) rfl rfl rfl rfl rfl (by omega) (Nat.le_refl _) (Nat.le_refl _) (qX11_finding (d + 9) hT (-1000001) ) ?_
        exact J.iretQ dX11_way_28 rfl (Nat.le_refl _) (Nat.le_refl _) h
set_option maxHeartbeats 4000000 in
set_option maxRecDepth 100000 in
theorem wX11_way (d : Nat) {T : Topo} (hT : Lay T) (a1 : Int32) (a2 : Int32) (a3 : Int32) (a4 : Int32)   {Q : Int32 → Topo → IM → Prop} {I : IM} (h : fX11_way_0 T a1 a2 a3 a4 Q I) : Ct (d + 10) mX11_way [.ref 0, .int a1, .int a2, .int a3, .int a4] T I 0 0 (PI Q) :=
  Ct.ofJ (by decide +kernel) rfl (by intro v hv; revert v hv; simp [Value.category]) rfl (sX11_way_0 d hT a1 a2 a3 a4   I h)

def jX11_way (I : IM) (a1 : Int32) (a2 : Int32) (a3 : Int32) (a4 : Int32) : Int32 := (if tw I a1 a2 then (if a3 < 0 then (-1000001) else (if (-1) ≤ a4 then (if a3 < ((jFindM I a1 a2) 4 4) then (if a4 = (-1) then (jLateOf (jKeyAt (jFindM I a1 a2) a3)) else (jLineAtW (jKeyAt (jFindM I a1 a2) a3) a4)) else (-1000005)) else (-1000001))) else (-1000001))
def jX11_wayM (I : IM) (a1 : Int32) (a2 : Int32) (a3 : Int32) (a4 : Int32) : IM := (if tw I a1 a2 then (if a3 < 0 then (fnd I) else (if (-1) ≤ a4 then (if a3 < ((jFindM I a1 a2) 4 4) then (jFindM I a1 a2) else (fnd (jFindM I a1 a2))) else (fnd I))) else (fnd I))
def jX11_wayK (I : IM) (a1 : Int32) (a2 : Int32) (a3 : Int32) (a4 : Int32) : Prop := (((¬ (tw I a1 a2)) → True) ∧ ((tw I a1 a2) → (((a3 < 0) → True) ∧ ((¬ a3 < 0) → ((((-1) ≤ a4) → (((jFindK I a1 a2)) ∧ (((a3 < ((jFindM I a1 a2) 4 4)) → ((jKeyAtK a3))) ∧ ((¬ a3 < ((jFindM I a1 a2) 4 4)) → True)))) ∧ ((¬ (-1) ≤ a4) → True))))))
set_option maxRecDepth 10000 in
theorem qX11_way (d : Nat) {T : Topo} {I : IM} (hT : Lay T) (a1 : Int32) (a2 : Int32) (a3 : Int32) (a4 : Int32)  (hp : (jX11_wayK I a1 a2 a3 a4)) : CtI (d + 10) mX11_way [.ref 0, .int a1, .int a2, .int a3, .int a4] T I (fun x_ J_ => x_ = (jX11_way I a1 a2 a3 a4) ∧ J_ = (jX11_wayM I a1 a2 a3 a4)) :=
  wX11_way d hT a1 a2 a3 a4   (by
  unfold fX11_way_0
  exact ⟨fun hc1 => ⟨rfl, by unfold jX11_way; rw [if_neg hc1], by unfold jX11_wayM; rw [if_neg hc1]⟩, fun hc1 => ⟨fun hc2 => ⟨rfl, by unfold jX11_way; rw [if_pos hc1, if_pos hc2], by unfold jX11_wayM; rw [if_pos hc1, if_pos hc2]⟩, fun hc2 => ⟨fun hc3 => ⟨((((hp).2 hc1).2 hc2).1 hc3).1, ⟨fun hc4 => ⟨(((((hp).2 hc1).2 hc2).1 hc3).2).1 hc4, ⟨fun hc5 => ⟨rfl, by unfold jX11_way; rw [if_pos hc1, if_neg hc2, if_pos hc3, if_pos hc4, if_neg hc5], by unfold jX11_wayM; rw [if_pos hc1, if_neg hc2, if_pos hc3, if_pos hc4]⟩, fun hc5 => ⟨rfl, by unfold jX11_way; rw [if_pos hc1, if_neg hc2, if_pos hc3, if_pos hc4, if_pos hc5], by unfold jX11_wayM; rw [if_pos hc1, if_neg hc2, if_pos hc3, if_pos hc4]⟩⟩⟩, fun hc4 => ⟨rfl, by unfold jX11_way; rw [if_pos hc1, if_neg hc2, if_pos hc3, if_neg hc4], by unfold jX11_wayM; rw [if_pos hc1, if_neg hc2, if_pos hc3, if_neg hc4]⟩⟩⟩, fun hc3 => ⟨rfl, by unfold jX11_way; rw [if_pos hc1, if_neg hc2, if_neg hc3], by unfold jX11_wayM; rw [if_pos hc1, if_neg hc2, if_neg hc3]⟩⟩⟩⟩)

def fX11_flow_0 (T : Topo) (a1 : Int32) (a2 : Int32) (a3 : Int32) (Q : Int32 → Topo → IM → Prop)  (I : IM) : Prop :=
  ((((¬ (tw I a1 a2)) → (Q (-1000001) T (fnd I))) ∧ ((tw I a1 a2) → ((((wi a3 0 23) → (((jX1_findK I 49 a1 a2 a3)) ∧ Q ((jX1_find I 49 a1 a2 a3) 54 1) T (jX1_find I 49 a1 a2 a3))) ∧ ((¬ (wi a3 0 23)) → (Q (-1000001) T (fnd I))))))))
set_option maxHeartbeats 4000000 in
set_option maxRecDepth 100000 in
theorem sX11_flow_0 (d : Nat) {T : Topo} (hT : Lay T) (a1 : Int32) (a2 : Int32) (a3 : Int32)    {Q : Int32 → Topo → IM → Prop}   (I : IM) (h : fX11_flow_0 T a1 a2 a3 Q  I) : J (d + 3) mX11_flow (PI Q) 0 0 0 [some (.ref 0), some (.int a1), some (.int a2), some (.int a3)] [] T I 0 0 := by
  unfold fX11_flow_0 at h
  refine J.aload_n dX11_flow_0 rfl rfl ?_
  refine J.getR (r := 1) dX11_flow_1 fX11_15 (hT.k 0 rfl) rfl (hT.r 0 0 rfl rfl) ?_
  refine J.iload_n dX11_flow_4 rfl rfl ?_
  refine J.iload_n dX11_flow_5 rfl rfl ?_
  refine J.callVP (k := 1) (as := [.int a1, .int a2]) (rest := []) dX11_flow_6 kX5_areTwoNodes vX5_areTwoNodes lX11_77 (hT.k 1 rfl) rfl rfl rfl rfl rfl (by omega) (Nat.le_refl _) (Nat.le_refl _) (qX5_areTwoNodes (d + 1) hT a1 a2 ) ?_
  refine J.bz_eq (tgt := 19) dX11_flow_9 (by decide) (fun hc1 => ?_) (fun hc1 => ?_)
  · have h := h.1 hc1
    refine J.aload_n dX11_flow_19 rfl rfl ?_
    refine J.ldc (v := (-1000001)) dX11_flow_20 kcX11_64 ?_
    refine J.callVE (k := 0) (as := [.int (-1000001)]) (rest := []) dX11_flow_22 kX11_finding vX11_finding lX11_65 (hT.k 0 rfl) rfl rfl rfl rfl rfl (by omega) (Nat.le_refl _) (Nat.le_refl _) (qX11_finding (d + 2) hT (-1000001) ) ?_
    exact J.iretQ dX11_flow_25 rfl (Nat.le_refl _) (Nat.le_refl _) h
  · have h := h.2 hc1
    refine J.iload_n dX11_flow_12 rfl rfl ?_
    refine J.callSP (as := [.int a3]) (rest := []) dX11_flow_13 kX11_isTick vX11_isTick lX11_116 rfl rfl rfl (by omega) (Nat.le_refl _) (Nat.le_refl _) (qX11_isTick (d + 1) hT a3 ) ?_
    refine J.bz_ne (tgt := 26) dX11_flow_16 (by decide) (fun hc2 => ?_) (fun hc2 => ?_)
    · have h := h.1 hc2
      refine J.aload_n dX11_flow_26 rfl rfl ?_
      refine J.getR (r := 54) dX11_flow_27 fX11_33 (hT.k 0 rfl) rfl (hT.r 0 3 rfl rfl) ?_
      refine J.aload_n dX11_flow_30 rfl rfl ?_
      refine J.getR (r := 1) dX11_flow_31 fX11_15 (hT.k 0 rfl) rfl (hT.r 0 0 rfl rfl) ?_
      refine J.aload_n dX11_flow_34 rfl rfl ?_
      refine J.getR (r := 49) dX11_flow_35 fX11_26 (hT.k 0 rfl) rfl (hT.r 0 2 rfl rfl) ?_
      refine J.iload_n dX11_flow_38 rfl rfl ?_
      refine J.atpc (pc' := 39) rfl ?_
      refine J.iload_n dX11_flow_39 rfl rfl ?_
      refine J.iload_n dX11_flow_40 rfl rfl ?_
      obtain ⟨hp3, h⟩ := h
      refine J.callVD (k := 54) (as := [.ref 1, .ref 49, .int a1, .int a2, .int a3]) (rest := []) dX11_flow_41 kX1_find vX1_find lX11_119 (hT.k 54 rfl) rfl rfl rfl rfl rfl (by omega) (Nat.le_refl _) (Nat.le_refl _) (qX1_find (d + 0) hT 49 (Or.inl rfl) a1 a2 a3 hp3) ?_
      refine J.aload_n dX11_flow_44 rfl rfl ?_
      refine J.getR (r := 54) dX11_flow_45 fX11_33 (hT.k 0 rfl) rfl (hT.r 0 3 rfl rfl) ?_
      refine J.getI dX11_flow_48 fX11_123 (hT.k 54 rfl) rfl ?_
      exact J.iretQ dX11_flow_51 rfl (Nat.le_refl _) (Nat.le_refl _) h
    · have h := h.2 hc2
      refine J.aload_n dX11_flow_19 rfl rfl ?_
      refine J.ldc (v := (-1000001)) dX11_flow_20 kcX11_64 ?_
      refine J.callVE (k := 0) (as := [.int (-1000001)]) (rest := []) dX11_flow_22 kX11_finding vX11_finding lX11_65 (hT.k 0 rfl) rfl rfl rfl rfl rfl (by omega) (Nat.le_refl _) (Nat.le_refl _) (qX11_finding (d + 2) hT (-1000001) ) ?_
      exact J.iretQ dX11_flow_25 rfl (Nat.le_refl _) (Nat.le_refl _) h
set_option maxHeartbeats 4000000 in
set_option maxRecDepth 100000 in
theorem wX11_flow (d : Nat) {T : Topo} (hT : Lay T) (a1 : Int32) (a2 : Int32) (a3 : Int32)   {Q : Int32 → Topo → IM → Prop} {I : IM} (h : fX11_flow_0 T a1 a2 a3 Q I) : Ct (d + 3) mX11_flow [.ref 0, .int a1, .int a2, .int a3] T I 0 0 (PI Q) :=
  Ct.ofJ (by decide +kernel) rfl (by intro v hv; revert v hv; simp [Value.category]) rfl (sX11_flow_0 d hT a1 a2 a3   I h)

def jX11_flow (I : IM) (a1 : Int32) (a2 : Int32) (a3 : Int32) : Int32 := (if tw I a1 a2 then (if wi a3 0 23 then ((jX1_find I 49 a1 a2 a3) 54 1) else (-1000001)) else (-1000001))
def jX11_flowM (I : IM) (a1 : Int32) (a2 : Int32) (a3 : Int32) : IM := (if tw I a1 a2 then (if wi a3 0 23 then (jX1_find I 49 a1 a2 a3) else (fnd I)) else (fnd I))
def jX11_flowK (I : IM) (a1 : Int32) (a2 : Int32) (a3 : Int32) : Prop := (((¬ (tw I a1 a2)) → True) ∧ ((tw I a1 a2) → (((wi a3 0 23) → ((jX1_findK I 49 a1 a2 a3))) ∧ ((¬ (wi a3 0 23)) → True))))
set_option maxRecDepth 10000 in
theorem qX11_flow (d : Nat) {T : Topo} {I : IM} (hT : Lay T) (a1 : Int32) (a2 : Int32) (a3 : Int32)  (hp : (jX11_flowK I a1 a2 a3)) : CtI (d + 3) mX11_flow [.ref 0, .int a1, .int a2, .int a3] T I (fun x_ J_ => x_ = (jX11_flow I a1 a2 a3) ∧ J_ = (jX11_flowM I a1 a2 a3)) :=
  wX11_flow d hT a1 a2 a3   (by
  unfold fX11_flow_0
  exact ⟨fun hc1 => ⟨rfl, by unfold jX11_flow; rw [if_neg hc1], by unfold jX11_flowM; rw [if_neg hc1]⟩, fun hc1 => ⟨fun hc2 => ⟨((hp).2 hc1).1 hc2, ⟨rfl, by unfold jX11_flow; rw [if_pos hc1, if_pos hc2], by unfold jX11_flowM; rw [if_pos hc1, if_pos hc2]⟩⟩, fun hc2 => ⟨rfl, by unfold jX11_flow; rw [if_pos hc1, if_neg hc2], by unfold jX11_flowM; rw [if_pos hc1, if_neg hc2]⟩⟩⟩)

def fX11_cut_0 (T : Topo) (a1 : Int32) (a2 : Int32) (a3 : Int32) (Q : Int32 → Topo → IM → Prop)  (I : IM) : Prop :=
  ((((¬ (tw I a1 a2)) → (Q (-1000001) T (fnd I))) ∧ ((tw I a1 a2) → ((((wi a3 0 23) → (((jX1_findK I 49 a1 a2 a3)) ∧ Q ((jX1_find I 49 a1 a2 a3) 54 2) T (jX1_find I 49 a1 a2 a3))) ∧ ((¬ (wi a3 0 23)) → (Q (-1000001) T (fnd I))))))))
set_option maxHeartbeats 4000000 in
set_option maxRecDepth 100000 in
theorem sX11_cut_0 (d : Nat) {T : Topo} (hT : Lay T) (a1 : Int32) (a2 : Int32) (a3 : Int32)    {Q : Int32 → Topo → IM → Prop}   (I : IM) (h : fX11_cut_0 T a1 a2 a3 Q  I) : J (d + 3) mX11_cut (PI Q) 0 0 0 [some (.ref 0), some (.int a1), some (.int a2), some (.int a3)] [] T I 0 0 := by
  unfold fX11_cut_0 at h
  refine J.aload_n dX11_cut_0 rfl rfl ?_
  refine J.getR (r := 1) dX11_cut_1 fX11_15 (hT.k 0 rfl) rfl (hT.r 0 0 rfl rfl) ?_
  refine J.iload_n dX11_cut_4 rfl rfl ?_
  refine J.iload_n dX11_cut_5 rfl rfl ?_
  refine J.callVP (k := 1) (as := [.int a1, .int a2]) (rest := []) dX11_cut_6 kX5_areTwoNodes vX5_areTwoNodes lX11_77 (hT.k 1 rfl) rfl rfl rfl rfl rfl (by omega) (Nat.le_refl _) (Nat.le_refl _) (qX5_areTwoNodes (d + 1) hT a1 a2 ) ?_
  refine J.bz_eq (tgt := 19) dX11_cut_9 (by decide) (fun hc1 => ?_) (fun hc1 => ?_)
  · have h := h.1 hc1
    refine J.aload_n dX11_cut_19 rfl rfl ?_
    refine J.ldc (v := (-1000001)) dX11_cut_20 kcX11_64 ?_
    refine J.callVE (k := 0) (as := [.int (-1000001)]) (rest := []) dX11_cut_22 kX11_finding vX11_finding lX11_65 (hT.k 0 rfl) rfl rfl rfl rfl rfl (by omega) (Nat.le_refl _) (Nat.le_refl _) (qX11_finding (d + 2) hT (-1000001) ) ?_
    exact J.iretQ dX11_cut_25 rfl (Nat.le_refl _) (Nat.le_refl _) h
  · have h := h.2 hc1
    refine J.iload_n dX11_cut_12 rfl rfl ?_
    refine J.callSP (as := [.int a3]) (rest := []) dX11_cut_13 kX11_isTick vX11_isTick lX11_116 rfl rfl rfl (by omega) (Nat.le_refl _) (Nat.le_refl _) (qX11_isTick (d + 1) hT a3 ) ?_
    refine J.bz_ne (tgt := 26) dX11_cut_16 (by decide) (fun hc2 => ?_) (fun hc2 => ?_)
    · have h := h.1 hc2
      refine J.aload_n dX11_cut_26 rfl rfl ?_
      refine J.getR (r := 54) dX11_cut_27 fX11_33 (hT.k 0 rfl) rfl (hT.r 0 3 rfl rfl) ?_
      refine J.aload_n dX11_cut_30 rfl rfl ?_
      refine J.getR (r := 1) dX11_cut_31 fX11_15 (hT.k 0 rfl) rfl (hT.r 0 0 rfl rfl) ?_
      refine J.aload_n dX11_cut_34 rfl rfl ?_
      refine J.getR (r := 49) dX11_cut_35 fX11_26 (hT.k 0 rfl) rfl (hT.r 0 2 rfl rfl) ?_
      refine J.iload_n dX11_cut_38 rfl rfl ?_
      refine J.atpc (pc' := 39) rfl ?_
      refine J.iload_n dX11_cut_39 rfl rfl ?_
      refine J.iload_n dX11_cut_40 rfl rfl ?_
      obtain ⟨hp3, h⟩ := h
      refine J.callVD (k := 54) (as := [.ref 1, .ref 49, .int a1, .int a2, .int a3]) (rest := []) dX11_cut_41 kX1_find vX1_find lX11_119 (hT.k 54 rfl) rfl rfl rfl rfl rfl (by omega) (Nat.le_refl _) (Nat.le_refl _) (qX1_find (d + 0) hT 49 (Or.inl rfl) a1 a2 a3 hp3) ?_
      refine J.aload_n dX11_cut_44 rfl rfl ?_
      refine J.getR (r := 54) dX11_cut_45 fX11_33 (hT.k 0 rfl) rfl (hT.r 0 3 rfl rfl) ?_
      refine J.getI dX11_cut_48 fX11_126 (hT.k 54 rfl) rfl ?_
      exact J.iretQ dX11_cut_51 rfl (Nat.le_refl _) (Nat.le_refl _) h
    · have h := h.2 hc2
      refine J.aload_n dX11_cut_19 rfl rfl ?_
      refine J.ldc (v := (-1000001)) dX11_cut_20 kcX11_64 ?_
      refine J.callVE (k := 0) (as := [.int (-1000001)]) (rest := []) dX11_cut_22 kX11_finding vX11_finding lX11_65 (hT.k 0 rfl) rfl rfl rfl rfl rfl (by omega) (Nat.le_refl _) (Nat.le_refl _) (qX11_finding (d + 2) hT (-1000001) ) ?_
      exact J.iretQ dX11_cut_25 rfl (Nat.le_refl _) (Nat.le_refl _) h
set_option maxHeartbeats 4000000 in
set_option maxRecDepth 100000 in
theorem wX11_cut (d : Nat) {T : Topo} (hT : Lay T) (a1 : Int32) (a2 : Int32) (a3 : Int32)   {Q : Int32 → Topo → IM → Prop} {I : IM} (h : fX11_cut_0 T a1 a2 a3 Q I) : Ct (d + 3) mX11_cut [.ref 0, .int a1, .int a2, .int a3] T I 0 0 (PI Q) :=
  Ct.ofJ (by decide +kernel) rfl (by intro v hv; revert v hv; simp [Value.category]) rfl (sX11_cut_0 d hT a1 a2 a3   I h)

def jX11_cut (I : IM) (a1 : Int32) (a2 : Int32) (a3 : Int32) : Int32 := (if tw I a1 a2 then (if wi a3 0 23 then ((jX1_find I 49 a1 a2 a3) 54 2) else (-1000001)) else (-1000001))
def jX11_cutM (I : IM) (a1 : Int32) (a2 : Int32) (a3 : Int32) : IM := (if tw I a1 a2 then (if wi a3 0 23 then (jX1_find I 49 a1 a2 a3) else (fnd I)) else (fnd I))
def jX11_cutK (I : IM) (a1 : Int32) (a2 : Int32) (a3 : Int32) : Prop := (((¬ (tw I a1 a2)) → True) ∧ ((tw I a1 a2) → (((wi a3 0 23) → ((jX1_findK I 49 a1 a2 a3))) ∧ ((¬ (wi a3 0 23)) → True))))
set_option maxRecDepth 10000 in
theorem qX11_cut (d : Nat) {T : Topo} {I : IM} (hT : Lay T) (a1 : Int32) (a2 : Int32) (a3 : Int32)  (hp : (jX11_cutK I a1 a2 a3)) : CtI (d + 3) mX11_cut [.ref 0, .int a1, .int a2, .int a3] T I (fun x_ J_ => x_ = (jX11_cut I a1 a2 a3) ∧ J_ = (jX11_cutM I a1 a2 a3)) :=
  wX11_cut d hT a1 a2 a3   (by
  unfold fX11_cut_0
  exact ⟨fun hc1 => ⟨rfl, by unfold jX11_cut; rw [if_neg hc1], by unfold jX11_cutM; rw [if_neg hc1]⟩, fun hc1 => ⟨fun hc2 => ⟨((hp).2 hc1).1 hc2, ⟨rfl, by unfold jX11_cut; rw [if_pos hc1, if_pos hc2], by unfold jX11_cutM; rw [if_pos hc1, if_pos hc2]⟩⟩, fun hc2 => ⟨rfl, by unfold jX11_cut; rw [if_pos hc1, if_neg hc2], by unfold jX11_cutM; rw [if_pos hc1, if_neg hc2]⟩⟩⟩)

def fX11_slice_0 (T : Topo) (a1 : Int32) (a2 : Int32) (a3 : Int32) (a4 : Int32) (a5 : Int32) (Q : Int32 → Topo → IM → Prop)  (I : IM) : Prop :=
  ((((¬ (wi a1 0 4)) → (Q (-1000001) T (fnd I))) ∧ ((wi a1 0 4) → ((((¬ (tw I a2 a3)) → (Q (-1000001) T (fnd I))) ∧ ((tw I a2 a3) → ((((¬ (wi a4 1 20)) → (Q (-1000001) T (fnd I))) ∧ ((wi a4 1 20) → ((((¬ (wi a5 1 99)) → (Q (-1000001) T (fnd I))) ∧ ((wi a5 1 99) → ((((I 15 1) < 8) → (((jX9_addK I a1 a2 a3 a4 a5)) ∧ Q (jX9_add I a1 a2 a3 a4 a5) T (jX9_addM I a1 a2 a3 a4 a5))) ∧ ((¬ (I 15 1) < 8) → (Q (-1000002) T (fnd I))))))))))))))))
set_option maxHeartbeats 4000000 in
set_option maxRecDepth 100000 in
theorem sX11_slice_0 (d : Nat) {T : Topo} (hT : Lay T) (a1 : Int32) (a2 : Int32) (a3 : Int32) (a4 : Int32) (a5 : Int32)    {Q : Int32 → Topo → IM → Prop}   (I : IM) (h : fX11_slice_0 T a1 a2 a3 a4 a5 Q  I) : J (d + 3) mX11_slice (PI Q) 0 0 0 [some (.ref 0), some (.int a1), some (.int a2), some (.int a3), some (.int a4), some (.int a5), none] [] T I 0 0 := by
  unfold fX11_slice_0 at h
  refine J.iload_n dX11_slice_0 rfl rfl ?_
  refine J.callSP (as := [.int a1]) (rest := []) dX11_slice_1 kX11_isKind vX11_isKind lX11_129 rfl rfl rfl (by omega) (Nat.le_refl _) (Nat.le_refl _) (qX11_isKind (d + 1) hT a1 ) ?_
  refine J.bz_eq (tgt := 45) dX11_slice_4 (by decide) (fun hc1 => ?_) (fun hc1 => ?_)
  · have h := h.1 hc1
    refine J.iconst (v := 0) dX11_slice_45 (by decide) ?_
    refine J.istore (ls' := [some (.ref 0), some (.int a1), some (.int a2), some (.int a3), some (.int a4), some (.int a5), some (.int 0)]) dX11_slice_46 rfl rfl ?_
    refine J.iload dX11_slice_48 rfl ?_
    refine J.if_ne (tgt := 60) dX11_slice_50 (by decide) (fun hc => absurd (by decide) hc) (fun hc => ?_)
    refine J.aload_n dX11_slice_53 rfl rfl ?_
    refine J.ldc (v := (-1000001)) dX11_slice_54 kcX11_64 ?_
    refine J.callVE (k := 0) (as := [.int (-1000001)]) (rest := []) dX11_slice_56 kX11_finding vX11_finding lX11_65 (hT.k 0 rfl) rfl rfl rfl rfl rfl (by omega) (Nat.le_refl _) (Nat.le_refl _) (qX11_finding (d + 2) hT (-1000001) ) ?_
    exact J.iretQ dX11_slice_59 rfl (Nat.le_refl _) (Nat.le_refl _) h
  · have h := h.2 hc1
    refine J.aload_n dX11_slice_7 rfl rfl ?_
    refine J.getR (r := 1) dX11_slice_8 fX11_15 (hT.k 0 rfl) rfl (hT.r 0 0 rfl rfl) ?_
    refine J.iload_n dX11_slice_11 rfl rfl ?_
    refine J.iload_n dX11_slice_12 rfl rfl ?_
    refine J.callVP (k := 1) (as := [.int a2, .int a3]) (rest := []) dX11_slice_13 kX5_areTwoNodes vX5_areTwoNodes lX11_77 (hT.k 1 rfl) rfl rfl rfl rfl rfl (by omega) (Nat.le_refl _) (Nat.le_refl _) (qX5_areTwoNodes (d + 1) hT a2 a3 ) ?_
    refine J.bz_eq (tgt := 45) dX11_slice_16 (by decide) (fun hc2 => ?_) (fun hc2 => ?_)
    · have h := h.1 hc2
      refine J.iconst (v := 0) dX11_slice_45 (by decide) ?_
      refine J.istore (ls' := [some (.ref 0), some (.int a1), some (.int a2), some (.int a3), some (.int a4), some (.int a5), some (.int 0)]) dX11_slice_46 rfl rfl ?_
      refine J.iload dX11_slice_48 rfl ?_
      refine J.if_ne (tgt := 60) dX11_slice_50 (by decide) (fun hc => absurd (by decide) hc) (fun hc => ?_)
      refine J.aload_n dX11_slice_53 rfl rfl ?_
      refine J.ldc (v := (-1000001)) dX11_slice_54 kcX11_64 ?_
      refine J.callVE (k := 0) (as := [.int (-1000001)]) (rest := []) dX11_slice_56 kX11_finding vX11_finding lX11_65 (hT.k 0 rfl) rfl rfl rfl rfl rfl (by omega) (Nat.le_refl _) (Nat.le_refl _) (qX11_finding (d + 2) hT (-1000001) ) ?_
      exact J.iretQ dX11_slice_59 rfl (Nat.le_refl _) (Nat.le_refl _) h
    · have h := h.2 hc2
      refine J.iload dX11_slice_19 rfl ?_
      refine J.iconst (v := 1) dX11_slice_21 (by decide) ?_
      refine J.bipush (v := 20) dX11_slice_22 (by decide) ?_
      refine J.callSP (as := [.int a4, .int 1, .int 20]) (rest := []) dX11_slice_24 kX11_isWithin vX11_isWithin lX11_60 rfl rfl rfl (by omega) (Nat.le_refl _) (Nat.le_refl _) (qX11_isWithin (d + 2) hT a4 1 20 ) ?_
      refine J.bz_eq (tgt := 45) dX11_slice_27 (by decide) (fun hc3 => ?_) (fun hc3 => ?_)
      · have h := h.1 hc3
        refine J.iconst (v := 0) dX11_slice_45 (by decide) ?_
        refine J.istore (ls' := [some (.ref 0), some (.int a1), some (.int a2), some (.int a3), some (.int a4), some (.int a5), some (.int 0)]) dX11_slice_46 rfl rfl ?_
        refine J.iload dX11_slice_48 rfl ?_
        refine J.if_ne (tgt := 60) dX11_slice_50 (by decide) (fun hc => absurd (by decide) hc) (fun hc => ?_)
        refine J.aload_n dX11_slice_53 rfl rfl ?_
        refine J.ldc (v := (-1000001)) dX11_slice_54 kcX11_64 ?_
        refine J.callVE (k := 0) (as := [.int (-1000001)]) (rest := []) dX11_slice_56 kX11_finding vX11_finding lX11_65 (hT.k 0 rfl) rfl rfl rfl rfl rfl (by omega) (Nat.le_refl _) (Nat.le_refl _) (qX11_finding (d + 2) hT (-1000001) ) ?_
        exact J.iretQ dX11_slice_59 rfl (Nat.le_refl _) (Nat.le_refl _) h
      · have h := h.2 hc3
        refine J.iload dX11_slice_30 rfl ?_
        refine J.iconst (v := 1) dX11_slice_32 (by decide) ?_
        refine J.bipush (v := 99) dX11_slice_33 (by decide) ?_
        refine J.callSP (as := [.int a5, .int 1, .int 99]) (rest := []) dX11_slice_35 kX11_isWithin vX11_isWithin lX11_60 rfl rfl rfl (by omega) (Nat.le_refl _) (Nat.le_refl _) (qX11_isWithin (d + 2) hT a5 1 99 ) ?_
        refine J.bz_eq (tgt := 45) dX11_slice_38 (by decide) (fun hc4 => ?_) (fun hc4 => ?_)
        · have h := h.1 hc4
          refine J.iconst (v := 0) dX11_slice_45 (by decide) ?_
          refine J.istore (ls' := [some (.ref 0), some (.int a1), some (.int a2), some (.int a3), some (.int a4), some (.int a5), some (.int 0)]) dX11_slice_46 rfl rfl ?_
          refine J.iload dX11_slice_48 rfl ?_
          refine J.if_ne (tgt := 60) dX11_slice_50 (by decide) (fun hc => absurd (by decide) hc) (fun hc => ?_)
          refine J.aload_n dX11_slice_53 rfl rfl ?_
          refine J.ldc (v := (-1000001)) dX11_slice_54 kcX11_64 ?_
          refine J.callVE (k := 0) (as := [.int (-1000001)]) (rest := []) dX11_slice_56 kX11_finding vX11_finding lX11_65 (hT.k 0 rfl) rfl rfl rfl rfl rfl (by omega) (Nat.le_refl _) (Nat.le_refl _) (qX11_finding (d + 2) hT (-1000001) ) ?_
          exact J.iretQ dX11_slice_59 rfl (Nat.le_refl _) (Nat.le_refl _) h
        · have h := h.2 hc4
          refine J.iconst (v := 1) dX11_slice_41 (by decide) ?_
          refine J.goto (tgt := 46) dX11_slice_42 (by decide) ?_
          refine J.istore (ls' := [some (.ref 0), some (.int a1), some (.int a2), some (.int a3), some (.int a4), some (.int a5), some (.int 1)]) dX11_slice_46 rfl rfl ?_
          refine J.iload dX11_slice_48 rfl ?_
          refine J.if_ne (tgt := 60) dX11_slice_50 (by decide) (fun hc => ?_) (fun hc => absurd hc (by decide))
          refine J.aload_n dX11_slice_60 rfl rfl ?_
          refine J.getR (r := 15) dX11_slice_61 fX11_19 (hT.k 0 rfl) rfl (hT.r 0 1 rfl rfl) ?_
          refine J.atpc (pc' := 64) rfl ?_
          refine J.getI dX11_slice_64 fX11_132 (hT.k 15 rfl) rfl ?_
          refine J.bipush (v := 8) dX11_slice_67 (by decide) ?_
          refine J.icmp_lt (tgt := 81) dX11_slice_69 (by decide) (fun hc5 => ?_) (fun hc5 => ?_)
          · have h := h.1 hc5
            refine J.aload_n dX11_slice_81 rfl rfl ?_
            refine J.getR (r := 15) dX11_slice_82 fX11_19 (hT.k 0 rfl) rfl (hT.r 0 1 rfl rfl) ?_
            refine J.iload_n dX11_slice_85 rfl rfl ?_
            refine J.iload_n dX11_slice_86 rfl rfl ?_
            refine J.iload_n dX11_slice_87 rfl rfl ?_
            refine J.iload dX11_slice_88 rfl ?_
            refine J.iload dX11_slice_90 rfl ?_
            refine J.atpc (pc' := 92) rfl ?_
            obtain ⟨hp6, h⟩ := h
            refine J.callVE (k := 15) (as := [.int a1, .int a2, .int a3, .int a4, .int a5]) (rest := []) dX11_slice_92 kX9_add vX9_add lX11_133 (hT.k 15 rfl) rfl rfl rfl rfl rfl (by omega) (Nat.le_refl _) (Nat.le_refl _) (qX9_add (d + 0) hT a1 a2 a3 a4 a5 hp6) ?_
            exact J.iretQ dX11_slice_95 rfl (Nat.le_refl _) (Nat.le_refl _) h
          · have h := h.2 hc5
            refine J.aload_n dX11_slice_72 rfl rfl ?_
            refine J.ldc (v := (-1000002)) dX11_slice_73 kcX11_73 ?_
            refine J.callVE (k := 0) (as := [.int (-1000002)]) (rest := []) dX11_slice_75 kX11_finding vX11_finding lX11_65 (hT.k 0 rfl) rfl rfl rfl rfl rfl (by omega) (Nat.le_refl _) (Nat.le_refl _) (qX11_finding (d + 2) hT (-1000002) ) ?_
            refine J.goto (tgt := 95) dX11_slice_78 (by decide) ?_
            exact J.iretQ dX11_slice_95 rfl (Nat.le_refl _) (Nat.le_refl _) h
set_option maxHeartbeats 4000000 in
set_option maxRecDepth 100000 in
theorem wX11_slice (d : Nat) {T : Topo} (hT : Lay T) (a1 : Int32) (a2 : Int32) (a3 : Int32) (a4 : Int32) (a5 : Int32)   {Q : Int32 → Topo → IM → Prop} {I : IM} (h : fX11_slice_0 T a1 a2 a3 a4 a5 Q I) : Ct (d + 3) mX11_slice [.ref 0, .int a1, .int a2, .int a3, .int a4, .int a5] T I 0 0 (PI Q) :=
  Ct.ofJ (by decide +kernel) rfl (by intro v hv; revert v hv; simp [Value.category]) rfl (sX11_slice_0 d hT a1 a2 a3 a4 a5   I h)

def jX11_slice (I : IM) (a1 : Int32) (a2 : Int32) (a3 : Int32) (a4 : Int32) (a5 : Int32) : Int32 := (if wi a1 0 4 then (if tw I a2 a3 then (if wi a4 1 20 then (if wi a5 1 99 then (if (I 15 1) < 8 then (jX9_add I a1 a2 a3 a4 a5) else (-1000002)) else (-1000001)) else (-1000001)) else (-1000001)) else (-1000001))
def jX11_sliceM (I : IM) (a1 : Int32) (a2 : Int32) (a3 : Int32) (a4 : Int32) (a5 : Int32) : IM := (if wi a1 0 4 then (if tw I a2 a3 then (if wi a4 1 20 then (if wi a5 1 99 then (if (I 15 1) < 8 then (jX9_addM I a1 a2 a3 a4 a5) else (fnd I)) else (fnd I)) else (fnd I)) else (fnd I)) else (fnd I))
def jX11_sliceK (I : IM) (a1 : Int32) (a2 : Int32) (a3 : Int32) (a4 : Int32) (a5 : Int32) : Prop := (((¬ (wi a1 0 4)) → True) ∧ ((wi a1 0 4) → (((¬ (tw I a2 a3)) → True) ∧ ((tw I a2 a3) → (((¬ (wi a4 1 20)) → True) ∧ ((wi a4 1 20) → (((¬ (wi a5 1 99)) → True) ∧ ((wi a5 1 99) → ((((I 15 1) < 8) → ((jX9_addK I a1 a2 a3 a4 a5))) ∧ ((¬ (I 15 1) < 8) → True))))))))))
set_option maxRecDepth 10000 in
theorem qX11_slice (d : Nat) {T : Topo} {I : IM} (hT : Lay T) (a1 : Int32) (a2 : Int32) (a3 : Int32) (a4 : Int32) (a5 : Int32)  (hp : (jX11_sliceK I a1 a2 a3 a4 a5)) : CtI (d + 3) mX11_slice [.ref 0, .int a1, .int a2, .int a3, .int a4, .int a5] T I (fun x_ J_ => x_ = (jX11_slice I a1 a2 a3 a4 a5) ∧ J_ = (jX11_sliceM I a1 a2 a3 a4 a5)) :=
  wX11_slice d hT a1 a2 a3 a4 a5   (by
  unfold fX11_slice_0
  exact ⟨fun hc1 => ⟨rfl, by unfold jX11_slice; rw [if_neg hc1], by unfold jX11_sliceM; rw [if_neg hc1]⟩, fun hc1 => ⟨fun hc2 => ⟨rfl, by unfold jX11_slice; rw [if_pos hc1, if_neg hc2], by unfold jX11_sliceM; rw [if_pos hc1, if_neg hc2]⟩, fun hc2 => ⟨fun hc3 => ⟨rfl, by unfold jX11_slice; rw [if_pos hc1, if_pos hc2, if_neg hc3], by unfold jX11_sliceM; rw [if_pos hc1, if_pos hc2, if_neg hc3]⟩, fun hc3 => ⟨fun hc4 => ⟨rfl, by unfold jX11_slice; rw [if_pos hc1, if_pos hc2, if_pos hc3, if_neg hc4], by unfold jX11_sliceM; rw [if_pos hc1, if_pos hc2, if_pos hc3, if_neg hc4]⟩, fun hc4 => ⟨fun hc5 => ⟨(((((hp).2 hc1).2 hc2).2 hc3).2 hc4).1 hc5, ⟨rfl, by unfold jX11_slice; rw [if_pos hc1, if_pos hc2, if_pos hc3, if_pos hc4, if_pos hc5], by unfold jX11_sliceM; rw [if_pos hc1, if_pos hc2, if_pos hc3, if_pos hc4, if_pos hc5]⟩⟩, fun hc5 => ⟨rfl, by unfold jX11_slice; rw [if_pos hc1, if_pos hc2, if_pos hc3, if_pos hc4, if_neg hc5], by unfold jX11_sliceM; rw [if_pos hc1, if_pos hc2, if_pos hc3, if_pos hc4, if_neg hc5]⟩⟩⟩⟩⟩⟩)

def fX11_terms_0 (T : Topo) (a1 : Int32) (a2 : Int32) (a3 : Int32) (a4 : Int32) (Q : Int32 → Topo → IM → Prop)  (I : IM) : Prop :=
  ((((¬ (hSl I a1)) → (Q (-1000001) T (fnd I))) ∧ ((hSl I a1) → ((vp_in a1 8) ∧ ((((¬ (wi a2 0 (I (17 + 4 * (a1).toNatClampNeg) 3))) → (Q (-1000001) T (fnd I))) ∧ ((wi a2 0 (I (17 + 4 * (a1).toNatClampNeg) 3)) → ((((¬ (wi a3 0 20)) → (Q (-1000001) T (fnd I))) ∧ ((wi a3 0 20) → ((((¬ (wi a4 0 1000)) → (Q (-1000001) T (fnd I))) ∧ ((wi a4 0 1000) → ((vp_in a1 8) ∧ ((((¬ (inS I (a1).toNatClampNeg)) → (Q 1 T (jX8_setTermsM I (a1).toNatClampNeg a2 a3 a4))) ∧ ((inS I (a1).toNatClampNeg) → (Q (-1000003) T (fnd I)))))))))))))))))))
set_option maxHeartbeats 4000000 in
set_option maxRecDepth 100000 in
theorem sX11_terms_0 (d : Nat) {T : Topo} (hT : Lay T) (a1 : Int32) (a2 : Int32) (a3 : Int32) (a4 : Int32)    {Q : Int32 → Topo → IM → Prop}   (I : IM) (h : fX11_terms_0 T a1 a2 a3 a4 Q  I) : J (d + 1) mX11_terms (PI Q) 0 0 0 [some (.ref 0), some (.int a1), some (.int a2), some (.int a3), some (.int a4), none, none] [] T I 0 0 := by
  unfold fX11_terms_0 at h
  refine J.aload_n dX11_terms_0 rfl rfl ?_
  refine J.getR (r := 15) dX11_terms_1 fX11_19 (hT.k 0 rfl) rfl (hT.r 0 1 rfl rfl) ?_
  refine J.iload_n dX11_terms_4 rfl rfl ?_
  refine J.callVP (k := 15) (as := [.int a1]) (rest := []) dX11_terms_5 kX9_hasSlice vX9_hasSlice lX11_136 (hT.k 15 rfl) rfl rfl rfl rfl rfl (by omega) (Nat.le_refl _) (Nat.le_refl _) (qX9_hasSlice (d + 0) hT a1 ) ?_
  refine J.bz_eq (tgt := 56) dX11_terms_8 (by decide) (fun hc1 => ?_) (fun hc1 => ?_)
  · have h := h.1 hc1
    refine J.iconst (v := 0) dX11_terms_56 (by decide) ?_
    refine J.istore (ls' := [some (.ref 0), some (.int a1), some (.int a2), some (.int a3), some (.int a4), some (.int 0), none]) dX11_terms_57 rfl rfl ?_
    refine J.iload dX11_terms_59 rfl ?_
    refine J.if_ne (tgt := 71) dX11_terms_61 (by decide) (fun hc => absurd (by decide) hc) (fun hc => ?_)
    refine J.aload_n dX11_terms_64 rfl rfl ?_
    refine J.ldc (v := (-1000001)) dX11_terms_65 kcX11_64 ?_
    refine J.callVE (k := 0) (as := [.int (-1000001)]) (rest := []) dX11_terms_67 kX11_finding vX11_finding lX11_65 (hT.k 0 rfl) rfl rfl rfl rfl rfl (by omega) (Nat.le_refl _) (Nat.le_refl _) (qX11_finding (d + 0) hT (-1000001) ) ?_
    exact J.iretQ dX11_terms_70 rfl (Nat.le_refl _) (Nat.le_refl _) h
  · have h := h.2 hc1
    refine J.iload_n dX11_terms_11 rfl rfl ?_
    refine J.iconst (v := 0) dX11_terms_12 (by decide) ?_
    refine J.aload_n dX11_terms_13 rfl rfl ?_
    refine J.getR (r := 15) dX11_terms_14 fX11_19 (hT.k 0 rfl) rfl (hT.r 0 1 rfl rfl) ?_
    refine J.iload_n dX11_terms_17 rfl rfl ?_
    obtain ⟨hp2, h⟩ := h
    refine J.callVF (r := (17 + 4 * (a1).toNatClampNeg)) (k := 15) (as := [.int a1]) (rest := [.int 0, .int a2]) dX11_terms_18 kX9_at vX9_at lX11_139 (hT.k 15 rfl) rfl rfl rfl rfl rfl (by omega) (Nat.le_refl _) (Nat.le_refl _) (qX9_at (d + 0) hT a1 hp2) ?_
    refine J.getI dX11_terms_21 fX11_143 (hT.sliceK (vp_lt hp2)) rfl ?_
    refine J.callSP (as := [.int a2, .int 0, .int (I (17 + 4 * (a1).toNatClampNeg) 3)]) (rest := []) dX11_terms_24 kX11_isWithin vX11_isWithin lX11_60 rfl rfl rfl (by omega) (Nat.le_refl _) (Nat.le_refl _) (qX11_isWithin (d + 0) hT a2 0 (I (17 + 4 * (a1).toNatClampNeg) 3) ) ?_
    refine J.bz_eq (tgt := 56) dX11_terms_27 (by decide) (fun hc3 => ?_) (fun hc3 => ?_)
    · have h := h.1 hc3
      refine J.iconst (v := 0) dX11_terms_56 (by decide) ?_
      refine J.istore (ls' := [some (.ref 0), some (.int a1), some (.int a2), some (.int a3), some (.int a4), some (.int 0), none]) dX11_terms_57 rfl rfl ?_
      refine J.iload dX11_terms_59 rfl ?_
      refine J.if_ne (tgt := 71) dX11_terms_61 (by decide) (fun hc => absurd (by decide) hc) (fun hc => ?_)
      refine J.aload_n dX11_terms_64 rfl rfl ?_
      refine J.ldc (v := (-1000001)) dX11_terms_65 kcX11_64 ?_
      refine J.callVE (k := 0) (as := [.int (-1000001)]) (rest := []) dX11_terms_67 kX11_finding vX11_finding lX11_65 (hT.k 0 rfl) rfl rfl rfl rfl rfl (by omega) (Nat.le_refl _) (Nat.le_refl _) (qX11_finding (d + 0) hT (-1000001) ) ?_
      exact J.iretQ dX11_terms_70 rfl (Nat.le_refl _) (Nat.le_refl _) h
    · have h := h.2 hc3
      refine J.iload_n dX11_terms_30 rfl rfl ?_
      refine J.iconst (v := 0) dX11_terms_31 (by decide) ?_
      refine J.bipush (v := 20) dX11_terms_32 (by decide) ?_
      refine J.callSP (as := [.int a3, .int 0, .int 20]) (rest := []) dX11_terms_34 kX11_isWithin vX11_isWithin lX11_60 rfl rfl rfl (by omega) (Nat.le_refl _) (Nat.le_refl _) (qX11_isWithin (d + 0) hT a3 0 20 ) ?_
      refine J.bz_eq (tgt := 56) dX11_terms_37 (by decide) (fun hc4 => ?_) (fun hc4 => ?_)
      · have h := h.1 hc4
        refine J.iconst (v := 0) dX11_terms_56 (by decide) ?_
        refine J.istore (ls' := [some (.ref 0), some (.int a1), some (.int a2), some (.int a3), some (.int a4), some (.int 0), none]) dX11_terms_57 rfl rfl ?_
        refine J.iload dX11_terms_59 rfl ?_
        refine J.if_ne (tgt := 71) dX11_terms_61 (by decide) (fun hc => absurd (by decide) hc) (fun hc => ?_)
        refine J.aload_n dX11_terms_64 rfl rfl ?_
        refine J.ldc (v := (-1000001)) dX11_terms_65 kcX11_64 ?_
        refine J.callVE (k := 0) (as := [.int (-1000001)]) (rest := []) dX11_terms_67 kX11_finding vX11_finding lX11_65 (hT.k 0 rfl) rfl rfl rfl rfl rfl (by omega) (Nat.le_refl _) (Nat.le_refl _) (qX11_finding (d + 0) hT (-1000001) ) ?_
        exact J.iretQ dX11_terms_70 rfl (Nat.le_refl _) (Nat.le_refl _) h
      · have h := h.2 hc4
        refine J.iload dX11_terms_40 rfl ?_
        refine J.iconst (v := 0) dX11_terms_42 (by decide) ?_
        refine J.sipush (v := 1000) dX11_terms_43 (by decide) ?_
        refine J.callSP (as := [.int a4, .int 0, .int 1000]) (rest := []) dX11_terms_46 kX11_isWithin vX11_isWithin lX11_60 rfl rfl rfl (by omega) (Nat.le_refl _) (Nat.le_refl _) (qX11_isWithin (d + 0) hT a4 0 1000 ) ?_
        refine J.bz_eq (tgt := 56) dX11_terms_49 (by decide) (fun hc5 => ?_) (fun hc5 => ?_)
        · have h := h.1 hc5
          refine J.iconst (v := 0) dX11_terms_56 (by decide) ?_
          refine J.istore (ls' := [some (.ref 0), some (.int a1), some (.int a2), some (.int a3), some (.int a4), some (.int 0), none]) dX11_terms_57 rfl rfl ?_
          refine J.iload dX11_terms_59 rfl ?_
          refine J.if_ne (tgt := 71) dX11_terms_61 (by decide) (fun hc => absurd (by decide) hc) (fun hc => ?_)
          refine J.aload_n dX11_terms_64 rfl rfl ?_
          refine J.ldc (v := (-1000001)) dX11_terms_65 kcX11_64 ?_
          refine J.callVE (k := 0) (as := [.int (-1000001)]) (rest := []) dX11_terms_67 kX11_finding vX11_finding lX11_65 (hT.k 0 rfl) rfl rfl rfl rfl rfl (by omega) (Nat.le_refl _) (Nat.le_refl _) (qX11_finding (d + 0) hT (-1000001) ) ?_
          exact J.iretQ dX11_terms_70 rfl (Nat.le_refl _) (Nat.le_refl _) h
        · have h := h.2 hc5
          refine J.iconst (v := 1) dX11_terms_52 (by decide) ?_
          refine J.goto (tgt := 57) dX11_terms_53 (by decide) ?_
          refine J.istore (ls' := [some (.ref 0), some (.int a1), some (.int a2), some (.int a3), some (.int a4), some (.int 1), none]) dX11_terms_57 rfl rfl ?_
          refine J.iload dX11_terms_59 rfl ?_
          refine J.if_ne (tgt := 71) dX11_terms_61 (by decide) (fun hc => ?_) (fun hc => absurd hc (by decide))
          refine J.aload_n dX11_terms_71 rfl rfl ?_
          refine J.getR (r := 15) dX11_terms_72 fX11_19 (hT.k 0 rfl) rfl (hT.r 0 1 rfl rfl) ?_
          refine J.atpc (pc' := 75) rfl ?_
          refine J.iload_n dX11_terms_75 rfl rfl ?_
          obtain ⟨hp6, h⟩ := h
          refine J.callVF (r := (17 + 4 * (a1).toNatClampNeg)) (k := 15) (as := [.int a1]) (rest := []) dX11_terms_76 kX9_at vX9_at lX11_139 (hT.k 15 rfl) rfl rfl rfl rfl rfl (by omega) (Nat.le_refl _) (Nat.le_refl _) (qX9_at (d + 0) hT a1 hp6) ?_
          refine J.astore (ls' := [some (.ref 0), some (.int a1), some (.int a2), some (.int a3), some (.int a4), some (.int 1), some (.ref (17 + 4 * (a1).toNatClampNeg))]) dX11_terms_79 rfl rfl ?_
          refine J.aload dX11_terms_81 rfl ?_
          refine J.callVP (k := (17 + 4 * (a1).toNatClampNeg)) (as := []) (rest := []) dX11_terms_83 kX8_isIn vX8_isIn lX11_148 (hT.sliceK (vp_lt hp6)) rfl rfl rfl rfl rfl (by omega) (Nat.le_refl _) (Nat.le_refl _) (qX8_isIn (d + 0) hT (a1).toNatClampNeg (vp_lt hp6) ) ?_
          refine J.bz_eq (tgt := 96) dX11_terms_86 (by decide) (fun hc7 => ?_) (fun hc7 => ?_)
          · have h := h.1 hc7
            refine J.aload dX11_terms_96 rfl ?_
            refine J.iload_n dX11_terms_98 rfl rfl ?_
            refine J.iload_n dX11_terms_99 rfl rfl ?_
            refine J.iload dX11_terms_100 rfl ?_
            refine J.callVD (k := (17 + 4 * (a1).toNatClampNeg)) (as := [.int a2, .int a3, .int a4]) (rest := []) dX11_terms_102 kX8_setTerms vX8_setTerms lX11_153 (hT.sliceK (vp_lt hp6)) rfl rfl rfl rfl rfl (by omega) (Nat.le_refl _) (Nat.le_refl _) (qX8_setTerms (d + 0) hT (a1).toNatClampNeg (vp_lt hp6) a2 a3 a4 ) ?_
            refine J.iconst (v := 1) dX11_terms_105 (by decide) ?_
            exact J.iretQ dX11_terms_106 rfl (Nat.le_refl _) (Nat.le_refl _) h
          · have h := h.2 hc7
            refine J.aload_n dX11_terms_89 rfl rfl ?_
            refine J.ldc (v := (-1000003)) dX11_terms_90 kcX11_152 ?_
            refine J.callVE (k := 0) (as := [.int (-1000003)]) (rest := []) dX11_terms_92 kX11_finding vX11_finding lX11_65 (hT.k 0 rfl) rfl rfl rfl rfl rfl (by omega) (Nat.le_refl _) (Nat.le_refl _) (qX11_finding (d + 0) hT (-1000003) ) ?_
            exact J.iretQ dX11_terms_95 rfl (Nat.le_refl _) (Nat.le_refl _) h
set_option maxHeartbeats 4000000 in
set_option maxRecDepth 100000 in
theorem wX11_terms (d : Nat) {T : Topo} (hT : Lay T) (a1 : Int32) (a2 : Int32) (a3 : Int32) (a4 : Int32)   {Q : Int32 → Topo → IM → Prop} {I : IM} (h : fX11_terms_0 T a1 a2 a3 a4 Q I) : Ct (d + 1) mX11_terms [.ref 0, .int a1, .int a2, .int a3, .int a4] T I 0 0 (PI Q) :=
  Ct.ofJ (by decide +kernel) rfl (by intro v hv; revert v hv; simp [Value.category]) rfl (sX11_terms_0 d hT a1 a2 a3 a4   I h)

def jX11_terms (I : IM) (a1 : Int32) (a2 : Int32) (a3 : Int32) (a4 : Int32) : Int32 := (if hSl I a1 then (if wi a2 0 (I (17 + 4 * (a1).toNatClampNeg) 3) then (if wi a3 0 20 then (if wi a4 0 1000 then (if inS I (a1).toNatClampNeg then (-1000003) else 1) else (-1000001)) else (-1000001)) else (-1000001)) else (-1000001))
def jX11_termsM (I : IM) (a1 : Int32) (a2 : Int32) (a3 : Int32) (a4 : Int32) : IM := (if hSl I a1 then (if wi a2 0 (I (17 + 4 * (a1).toNatClampNeg) 3) then (if wi a3 0 20 then (if wi a4 0 1000 then (if inS I (a1).toNatClampNeg then (fnd I) else (jX8_setTermsM I (a1).toNatClampNeg a2 a3 a4)) else (fnd I)) else (fnd I)) else (fnd I)) else (fnd I))
def jX11_termsK (I : IM) (a1 : Int32) (a2 : Int32) (a3 : Int32) (a4 : Int32) : Prop := (((¬ (hSl I a1)) → True) ∧ ((hSl I a1) → ((vp_in a1 8) ∧ (((¬ (wi a2 0 (I (17 + 4 * (a1).toNatClampNeg) 3))) → True) ∧ ((wi a2 0 (I (17 + 4 * (a1).toNatClampNeg) 3)) → (((¬ (wi a3 0 20)) → True) ∧ ((wi a3 0 20) → (((¬ (wi a4 0 1000)) → True) ∧ ((wi a4 0 1000) → (vp_in a1 8))))))))))
set_option maxRecDepth 10000 in
theorem qX11_terms (d : Nat) {T : Topo} {I : IM} (hT : Lay T) (a1 : Int32) (a2 : Int32) (a3 : Int32) (a4 : Int32)  (hp : (jX11_termsK I a1 a2 a3 a4)) : CtI (d + 1) mX11_terms [.ref 0, .int a1, .int a2, .int a3, .int a4] T I (fun x_ J_ => x_ = (jX11_terms I a1 a2 a3 a4) ∧ J_ = (jX11_termsM I a1 a2 a3 a4)) :=
  wX11_terms d hT a1 a2 a3 a4   (by
  unfold fX11_terms_0
  exact ⟨fun hc1 => ⟨rfl, by unfold jX11_terms; rw [if_neg hc1], by unfold jX11_termsM; rw [if_neg hc1]⟩, fun hc1 => ⟨((hp).2 hc1).1, ⟨fun hc2 => ⟨rfl, by unfold jX11_terms; rw [if_pos hc1, if_neg hc2], by unfold jX11_termsM; rw [if_pos hc1, if_neg hc2]⟩, fun hc2 => ⟨fun hc3 => ⟨rfl, by unfold jX11_terms; rw [if_pos hc1, if_pos hc2, if_neg hc3], by unfold jX11_termsM; rw [if_pos hc1, if_pos hc2, if_neg hc3]⟩, fun hc3 => ⟨fun hc4 => ⟨rfl, by unfold jX11_terms; rw [if_pos hc1, if_pos hc2, if_pos hc3, if_neg hc4], by unfold jX11_termsM; rw [if_pos hc1, if_pos hc2, if_pos hc3, if_neg hc4]⟩, fun hc4 => ⟨(((((hp).2 hc1).2).2 hc2).2 hc3).2 hc4, ⟨fun hc5 => ⟨rfl, by unfold jX11_terms; rw [if_pos hc1, if_pos hc2, if_pos hc3, if_pos hc4, if_neg hc5], by unfold jX11_termsM; rw [if_pos hc1, if_pos hc2, if_pos hc3, if_pos hc4, if_neg hc5]⟩, fun hc5 => ⟨rfl, by unfold jX11_terms; rw [if_pos hc1, if_pos hc2, if_pos hc3, if_pos hc4, if_pos hc5], by unfold jX11_termsM; rw [if_pos hc1, if_pos hc2, if_pos hc3, if_pos hc4, if_pos hc5]⟩⟩⟩⟩⟩⟩⟩⟩)

def fX11_span_0 (T : Topo) (a1 : Int32) (a2 : Int32) (a3 : Int32) (a4 : Int32) (Q : Int32 → Topo → IM → Prop)  (I : IM) : Prop :=
  ((((¬ (hSl I a1)) → (Q (-1000001) T (fnd I))) ∧ ((hSl I a1) → ((((¬ (wi a2 0 23)) → (Q (-1000001) T (fnd I))) ∧ ((wi a2 0 23) → ((((¬ (wi a3 0 23)) → (Q (-1000001) T (fnd I))) ∧ ((wi a3 0 23) → (((a3 < a2) → (Q (-1000001) T (fnd I))) ∧ ((¬ a3 < a2) → ((((¬ (wi a4 0 63)) → (Q (-1000001) T (fnd I))) ∧ ((wi a4 0 63) → ((vp_in a1 8) ∧ ((((¬ (inS I (a1).toNatClampNeg)) → (((jX8_setSpanK I (a1).toNatClampNeg a2 a3 a4)) ∧ Q 1 T (jX8_setSpan I (a1).toNatClampNeg a2 a3 a4))) ∧ ((inS I (a1).toNatClampNeg) → (Q (-1000003) T (fnd I))))))))))))))))))))
set_option maxHeartbeats 4000000 in
set_option maxRecDepth 100000 in
theorem sX11_span_0 (d : Nat) {T : Topo} (hT : Lay T) (a1 : Int32) (a2 : Int32) (a3 : Int32) (a4 : Int32)    {Q : Int32 → Topo → IM → Prop}   (I : IM) (h : fX11_span_0 T a1 a2 a3 a4 Q  I) : J (d + 2) mX11_span (PI Q) 0 0 0 [some (.ref 0), some (.int a1), some (.int a2), some (.int a3), some (.int a4), none, none] [] T I 0 0 := by
  unfold fX11_span_0 at h
  refine J.aload_n dX11_span_0 rfl rfl ?_
  refine J.getR (r := 15) dX11_span_1 fX11_19 (hT.k 0 rfl) rfl (hT.r 0 1 rfl rfl) ?_
  refine J.iload_n dX11_span_4 rfl rfl ?_
  refine J.callVP (k := 15) (as := [.int a1]) (rest := []) dX11_span_5 kX9_hasSlice vX9_hasSlice lX11_136 (hT.k 15 rfl) rfl rfl rfl rfl rfl (by omega) (Nat.le_refl _) (Nat.le_refl _) (qX9_hasSlice (d + 1) hT a1 ) ?_
  refine J.bz_eq (tgt := 45) dX11_span_8 (by decide) (fun hc1 => ?_) (fun hc1 => ?_)
  · have h := h.1 hc1
    refine J.iconst (v := 0) dX11_span_45 (by decide) ?_
    refine J.istore (ls' := [some (.ref 0), some (.int a1), some (.int a2), some (.int a3), some (.int a4), some (.int 0), none]) dX11_span_46 rfl rfl ?_
    refine J.iload dX11_span_48 rfl ?_
    refine J.if_ne (tgt := 60) dX11_span_50 (by decide) (fun hc => absurd (by decide) hc) (fun hc => ?_)
    refine J.aload_n dX11_span_53 rfl rfl ?_
    refine J.ldc (v := (-1000001)) dX11_span_54 kcX11_64 ?_
    refine J.callVE (k := 0) (as := [.int (-1000001)]) (rest := []) dX11_span_56 kX11_finding vX11_finding lX11_65 (hT.k 0 rfl) rfl rfl rfl rfl rfl (by omega) (Nat.le_refl _) (Nat.le_refl _) (qX11_finding (d + 1) hT (-1000001) ) ?_
    exact J.iretQ dX11_span_59 rfl (Nat.le_refl _) (Nat.le_refl _) h
  · have h := h.2 hc1
    refine J.iload_n dX11_span_11 rfl rfl ?_
    refine J.callSP (as := [.int a2]) (rest := []) dX11_span_12 kX11_isTick vX11_isTick lX11_116 rfl rfl rfl (by omega) (Nat.le_refl _) (Nat.le_refl _) (qX11_isTick (d + 0) hT a2 ) ?_
    refine J.bz_eq (tgt := 45) dX11_span_15 (by decide) (fun hc2 => ?_) (fun hc2 => ?_)
    · have h := h.1 hc2
      refine J.iconst (v := 0) dX11_span_45 (by decide) ?_
      refine J.istore (ls' := [some (.ref 0), some (.int a1), some (.int a2), some (.int a3), some (.int a4), some (.int 0), none]) dX11_span_46 rfl rfl ?_
      refine J.iload dX11_span_48 rfl ?_
      refine J.if_ne (tgt := 60) dX11_span_50 (by decide) (fun hc => absurd (by decide) hc) (fun hc => ?_)
      refine J.aload_n dX11_span_53 rfl rfl ?_
      refine J.ldc (v := (-1000001)) dX11_span_54 kcX11_64 ?_
      refine J.callVE (k := 0) (as := [.int (-1000001)]) (rest := []) dX11_span_56 kX11_finding vX11_finding lX11_65 (hT.k 0 rfl) rfl rfl rfl rfl rfl (by omega) (Nat.le_refl _) (Nat.le_refl _) (qX11_finding (d + 1) hT (-1000001) ) ?_
      exact J.iretQ dX11_span_59 rfl (Nat.le_refl _) (Nat.le_refl _) h
    · have h := h.2 hc2
      refine J.iload_n dX11_span_18 rfl rfl ?_
      refine J.callSP (as := [.int a3]) (rest := []) dX11_span_19 kX11_isTick vX11_isTick lX11_116 rfl rfl rfl (by omega) (Nat.le_refl _) (Nat.le_refl _) (qX11_isTick (d + 0) hT a3 ) ?_
      refine J.bz_eq (tgt := 45) dX11_span_22 (by decide) (fun hc3 => ?_) (fun hc3 => ?_)
      · have h := h.1 hc3
        refine J.iconst (v := 0) dX11_span_45 (by decide) ?_
        refine J.istore (ls' := [some (.ref 0), some (.int a1), some (.int a2), some (.int a3), some (.int a4), some (.int 0), none]) dX11_span_46 rfl rfl ?_
        refine J.iload dX11_span_48 rfl ?_
        refine J.if_ne (tgt := 60) dX11_span_50 (by decide) (fun hc => absurd (by decide) hc) (fun hc => ?_)
        refine J.aload_n dX11_span_53 rfl rfl ?_
        refine J.ldc (v := (-1000001)) dX11_span_54 kcX11_64 ?_
        refine J.callVE (k := 0) (as := [.int (-1000001)]) (rest := []) dX11_span_56 kX11_finding vX11_finding lX11_65 (hT.k 0 rfl) rfl rfl rfl rfl rfl (by omega) (Nat.le_refl _) (Nat.le_refl _) (qX11_finding (d + 1) hT (-1000001) ) ?_
        exact J.iretQ dX11_span_59 rfl (Nat.le_refl _) (Nat.le_refl _) h
      · have h := h.2 hc3
        refine J.iload_n dX11_span_25 rfl rfl ?_
        refine J.iload_n dX11_span_26 rfl rfl ?_
        refine J.icmp_gt (tgt := 45) dX11_span_27 (by decide) (fun hc4 => ?_) (fun hc4 => ?_)
        · have h := h.1 hc4
          refine J.iconst (v := 0) dX11_span_45 (by decide) ?_
          refine J.istore (ls' := [some (.ref 0), some (.int a1), some (.int a2), some (.int a3), some (.int a4), some (.int 0), none]) dX11_span_46 rfl rfl ?_
          refine J.iload dX11_span_48 rfl ?_
          refine J.if_ne (tgt := 60) dX11_span_50 (by decide) (fun hc => absurd (by decide) hc) (fun hc => ?_)
          refine J.aload_n dX11_span_53 rfl rfl ?_
          refine J.ldc (v := (-1000001)) dX11_span_54 kcX11_64 ?_
          refine J.callVE (k := 0) (as := [.int (-1000001)]) (rest := []) dX11_span_56 kX11_finding vX11_finding lX11_65 (hT.k 0 rfl) rfl rfl rfl rfl rfl (by omega) (Nat.le_refl _) (Nat.le_refl _) (qX11_finding (d + 1) hT (-1000001) ) ?_
          exact J.iretQ dX11_span_59 rfl (Nat.le_refl _) (Nat.le_refl _) h
        · have h := h.2 hc4
          refine J.iload dX11_span_30 rfl ?_
          refine J.iconst (v := 0) dX11_span_32 (by decide) ?_
          refine J.bipush (v := 63) dX11_span_33 (by decide) ?_
          refine J.callSP (as := [.int a4, .int 0, .int 63]) (rest := []) dX11_span_35 kX11_isWithin vX11_isWithin lX11_60 rfl rfl rfl (by omega) (Nat.le_refl _) (Nat.le_refl _) (qX11_isWithin (d + 1) hT a4 0 63 ) ?_
          refine J.bz_eq (tgt := 45) dX11_span_38 (by decide) (fun hc5 => ?_) (fun hc5 => ?_)
          · have h := h.1 hc5
            refine J.iconst (v := 0) dX11_span_45 (by decide) ?_
            refine J.istore (ls' := [some (.ref 0), some (.int a1), some (.int a2), some (.int a3), some (.int a4), some (.int 0), none]) dX11_span_46 rfl rfl ?_
            refine J.iload dX11_span_48 rfl ?_
            refine J.if_ne (tgt := 60) dX11_span_50 (by decide) (fun hc => absurd (by decide) hc) (fun hc => ?_)
            refine J.aload_n dX11_span_53 rfl rfl ?_
            refine J.ldc (v := (-1000001)) dX11_span_54 kcX11_64 ?_
            refine J.callVE (k := 0) (as := [.int (-1000001)]) (rest := []) dX11_span_56 kX11_finding vX11_finding lX11_65 (hT.k 0 rfl) rfl rfl rfl rfl rfl (by omega) (Nat.le_refl _) (Nat.le_refl _) (qX11_finding (d + 1) hT (-1000001) ) ?_
            exact J.iretQ dX11_span_59 rfl (Nat.le_refl _) (Nat.le_refl _) h
          · have h := h.2 hc5
            refine J.iconst (v := 1) dX11_span_41 (by decide) ?_
            refine J.goto (tgt := 46) dX11_span_42 (by decide) ?_
            refine J.istore (ls' := [some (.ref 0), some (.int a1), some (.int a2), some (.int a3), some (.int a4), some (.int 1), none]) dX11_span_46 rfl rfl ?_
            refine J.iload dX11_span_48 rfl ?_
            refine J.if_ne (tgt := 60) dX11_span_50 (by decide) (fun hc => ?_) (fun hc => absurd hc (by decide))
            refine J.aload_n dX11_span_60 rfl rfl ?_
            refine J.getR (r := 15) dX11_span_61 fX11_19 (hT.k 0 rfl) rfl (hT.r 0 1 rfl rfl) ?_
            refine J.atpc (pc' := 64) rfl ?_
            refine J.iload_n dX11_span_64 rfl rfl ?_
            obtain ⟨hp6, h⟩ := h
            refine J.callVF (r := (17 + 4 * (a1).toNatClampNeg)) (k := 15) (as := [.int a1]) (rest := []) dX11_span_65 kX9_at vX9_at lX11_139 (hT.k 15 rfl) rfl rfl rfl rfl rfl (by omega) (Nat.le_refl _) (Nat.le_refl _) (qX9_at (d + 1) hT a1 hp6) ?_
            refine J.astore (ls' := [some (.ref 0), some (.int a1), some (.int a2), some (.int a3), some (.int a4), some (.int 1), some (.ref (17 + 4 * (a1).toNatClampNeg))]) dX11_span_68 rfl rfl ?_
            refine J.aload dX11_span_70 rfl ?_
            refine J.callVP (k := (17 + 4 * (a1).toNatClampNeg)) (as := []) (rest := []) dX11_span_72 kX8_isIn vX8_isIn lX11_148 (hT.sliceK (vp_lt hp6)) rfl rfl rfl rfl rfl (by omega) (Nat.le_refl _) (Nat.le_refl _) (qX8_isIn (d + 1) hT (a1).toNatClampNeg (vp_lt hp6) ) ?_
            refine J.bz_eq (tgt := 85) dX11_span_75 (by decide) (fun hc7 => ?_) (fun hc7 => ?_)
            · have h := h.1 hc7
              refine J.aload dX11_span_85 rfl ?_
              refine J.iload_n dX11_span_87 rfl rfl ?_
              refine J.iload_n dX11_span_88 rfl rfl ?_
              refine J.iload dX11_span_89 rfl ?_
              obtain ⟨hp8, h⟩ := h
              refine J.callVD (k := (17 + 4 * (a1).toNatClampNeg)) (as := [.int a2, .int a3, .int a4]) (rest := []) dX11_span_91 kX8_setSpan vX8_setSpan lX11_157 (hT.sliceK (vp_lt hp6)) rfl rfl rfl rfl rfl (by omega) (Nat.le_refl _) (Nat.le_refl _) (qX8_setSpan (d + 0) hT (a1).toNatClampNeg (vp_lt hp6) a2 a3 a4 hp8) ?_
              refine J.iconst (v := 1) dX11_span_94 (by decide) ?_
              exact J.iretQ dX11_span_95 rfl (Nat.le_refl _) (Nat.le_refl _) h
            · have h := h.2 hc7
              refine J.aload_n dX11_span_78 rfl rfl ?_
              refine J.ldc (v := (-1000003)) dX11_span_79 kcX11_152 ?_
              refine J.callVE (k := 0) (as := [.int (-1000003)]) (rest := []) dX11_span_81 kX11_finding vX11_finding lX11_65 (hT.k 0 rfl) rfl rfl rfl rfl rfl (by omega) (Nat.le_refl _) (Nat.le_refl _) (qX11_finding (d + 1) hT (-1000003) ) ?_
              exact J.iretQ dX11_span_84 rfl (Nat.le_refl _) (Nat.le_refl _) h
set_option maxHeartbeats 4000000 in
set_option maxRecDepth 100000 in
theorem wX11_span (d : Nat) {T : Topo} (hT : Lay T) (a1 : Int32) (a2 : Int32) (a3 : Int32) (a4 : Int32)   {Q : Int32 → Topo → IM → Prop} {I : IM} (h : fX11_span_0 T a1 a2 a3 a4 Q I) : Ct (d + 2) mX11_span [.ref 0, .int a1, .int a2, .int a3, .int a4] T I 0 0 (PI Q) :=
  Ct.ofJ (by decide +kernel) rfl (by intro v hv; revert v hv; simp [Value.category]) rfl (sX11_span_0 d hT a1 a2 a3 a4   I h)

def jX11_span (I : IM) (a1 : Int32) (a2 : Int32) (a3 : Int32) (a4 : Int32) : Int32 := (if hSl I a1 then (if wi a2 0 23 then (if wi a3 0 23 then (if a3 < a2 then (-1000001) else (if wi a4 0 63 then (if inS I (a1).toNatClampNeg then (-1000003) else 1) else (-1000001))) else (-1000001)) else (-1000001)) else (-1000001))
def jX11_spanM (I : IM) (a1 : Int32) (a2 : Int32) (a3 : Int32) (a4 : Int32) : IM := (if hSl I a1 then (if wi a2 0 23 then (if wi a3 0 23 then (if a3 < a2 then (fnd I) else (if wi a4 0 63 then (if inS I (a1).toNatClampNeg then (fnd I) else (jX8_setSpan I (a1).toNatClampNeg a2 a3 a4)) else (fnd I))) else (fnd I)) else (fnd I)) else (fnd I))
def jX11_spanK (I : IM) (a1 : Int32) (a2 : Int32) (a3 : Int32) (a4 : Int32) : Prop := (((¬ (hSl I a1)) → True) ∧ ((hSl I a1) → (((¬ (wi a2 0 23)) → True) ∧ ((wi a2 0 23) → (((¬ (wi a3 0 23)) → True) ∧ ((wi a3 0 23) → (((a3 < a2) → True) ∧ ((¬ a3 < a2) → (((¬ (wi a4 0 63)) → True) ∧ ((wi a4 0 63) → ((vp_in a1 8) ∧ (((¬ (inS I (a1).toNatClampNeg)) → ((jX8_setSpanK I (a1).toNatClampNeg a2 a3 a4))) ∧ ((inS I (a1).toNatClampNeg) → True)))))))))))))
set_option maxRecDepth 10000 in
theorem qX11_span (d : Nat) {T : Topo} {I : IM} (hT : Lay T) (a1 : Int32) (a2 : Int32) (a3 : Int32) (a4 : Int32)  (hp : (jX11_spanK I a1 a2 a3 a4)) : CtI (d + 2) mX11_span [.ref 0, .int a1, .int a2, .int a3, .int a4] T I (fun x_ J_ => x_ = (jX11_span I a1 a2 a3 a4) ∧ J_ = (jX11_spanM I a1 a2 a3 a4)) :=
  wX11_span d hT a1 a2 a3 a4   (by
  unfold fX11_span_0
  exact ⟨fun hc1 => ⟨rfl, by unfold jX11_span; rw [if_neg hc1], by unfold jX11_spanM; rw [if_neg hc1]⟩, fun hc1 => ⟨fun hc2 => ⟨rfl, by unfold jX11_span; rw [if_pos hc1, if_neg hc2], by unfold jX11_spanM; rw [if_pos hc1, if_neg hc2]⟩, fun hc2 => ⟨fun hc3 => ⟨rfl, by unfold jX11_span; rw [if_pos hc1, if_pos hc2, if_neg hc3], by unfold jX11_spanM; rw [if_pos hc1, if_pos hc2, if_neg hc3]⟩, fun hc3 => ⟨fun hc4 => ⟨rfl, by unfold jX11_span; rw [if_pos hc1, if_pos hc2, if_pos hc3, if_pos hc4], by unfold jX11_spanM; rw [if_pos hc1, if_pos hc2, if_pos hc3, if_pos hc4]⟩, fun hc4 => ⟨fun hc5 => ⟨rfl, by unfold jX11_span; rw [if_pos hc1, if_pos hc2, if_pos hc3, if_neg hc4, if_neg hc5], by unfold jX11_spanM; rw [if_pos hc1, if_pos hc2, if_pos hc3, if_neg hc4, if_neg hc5]⟩, fun hc5 => ⟨((((((hp).2 hc1).2 hc2).2 hc3).2 hc4).2 hc5).1, ⟨fun hc6 => ⟨(((((((hp).2 hc1).2 hc2).2 hc3).2 hc4).2 hc5).2).1 hc6, ⟨rfl, by unfold jX11_span; rw [if_pos hc1, if_pos hc2, if_pos hc3, if_neg hc4, if_pos hc5, if_neg hc6], by unfold jX11_spanM; rw [if_pos hc1, if_pos hc2, if_pos hc3, if_neg hc4, if_pos hc5, if_neg hc6]⟩⟩, fun hc6 => ⟨rfl, by unfold jX11_span; rw [if_pos hc1, if_pos hc2, if_pos hc3, if_neg hc4, if_pos hc5, if_pos hc6], by unfold jX11_spanM; rw [if_pos hc1, if_pos hc2, if_pos hc3, if_neg hc4, if_pos hc5, if_pos hc6]⟩⟩⟩⟩⟩⟩⟩⟩)

def fX11_as_0 (T : Topo) (a1 : Int32) (a2 : Int32) (Q : Int32 → Topo → IM → Prop)  (I : IM) : Prop :=
  ((((¬ (hSl I a1)) → (Q (-1000001) T (fnd I))) ∧ ((hSl I a1) → ((((wi a2 0 4) → ((vp_in a1 8) ∧ (((jX8_isOfK I (a1).toNatClampNeg a2)) ∧ ((((jX8_isOf I (a1).toNatClampNeg a2) = 0) → (Q (-1000004) T (fnd I))) ∧ ((¬ (jX8_isOf I (a1).toNatClampNeg a2) = 0) → Q a1 T I))))) ∧ ((¬ (wi a2 0 4)) → (Q (-1000001) T (fnd I))))))))
set_option maxHeartbeats 4000000 in
set_option maxRecDepth 100000 in
theorem sX11_as_0 (d : Nat) {T : Topo} (hT : Lay T) (a1 : Int32) (a2 : Int32)    {Q : Int32 → Topo → IM → Prop}   (I : IM) (h : fX11_as_0 T a1 a2 Q  I) : J (d + 2) mX11_as (PI Q) 0 0 0 [some (.ref 0), some (.int a1), some (.int a2)] [] T I 0 0 := by
  unfold fX11_as_0 at h
  refine J.aload_n dX11_as_0 rfl rfl ?_
  refine J.getR (r := 15) dX11_as_1 fX11_19 (hT.k 0 rfl) rfl (hT.r 0 1 rfl rfl) ?_
  refine J.iload_n dX11_as_4 rfl rfl ?_
  refine J.callVP (k := 15) (as := [.int a1]) (rest := []) dX11_as_5 kX9_hasSlice vX9_hasSlice lX11_136 (hT.k 15 rfl) rfl rfl rfl rfl rfl (by omega) (Nat.le_refl _) (Nat.le_refl _) (qX9_hasSlice (d + 1) hT a1 ) ?_
  refine J.bz_eq (tgt := 18) dX11_as_8 (by decide) (fun hc1 => ?_) (fun hc1 => ?_)
  · have h := h.1 hc1
    refine J.aload_n dX11_as_18 rfl rfl ?_
    refine J.ldc (v := (-1000001)) dX11_as_19 kcX11_64 ?_
    refine J.callVE (k := 0) (as := [.int (-1000001)]) (rest := []) dX11_as_21 kX11_finding vX11_finding lX11_65 (hT.k 0 rfl) rfl rfl rfl rfl rfl (by omega) (Nat.le_refl _) (Nat.le_refl _) (qX11_finding (d + 1) hT (-1000001) ) ?_
    exact J.iretQ dX11_as_24 rfl (Nat.le_refl _) (Nat.le_refl _) h
  · have h := h.2 hc1
    refine J.iload_n dX11_as_11 rfl rfl ?_
    refine J.callSP (as := [.int a2]) (rest := []) dX11_as_12 kX11_isKind vX11_isKind lX11_129 rfl rfl rfl (by omega) (Nat.le_refl _) (Nat.le_refl _) (qX11_isKind (d + 0) hT a2 ) ?_
    refine J.bz_ne (tgt := 25) dX11_as_15 (by decide) (fun hc2 => ?_) (fun hc2 => ?_)
    · have h := h.1 hc2
      refine J.aload_n dX11_as_25 rfl rfl ?_
      refine J.getR (r := 15) dX11_as_26 fX11_19 (hT.k 0 rfl) rfl (hT.r 0 1 rfl rfl) ?_
      refine J.iload_n dX11_as_29 rfl rfl ?_
      obtain ⟨hp3, h⟩ := h
      refine J.callVF (r := (17 + 4 * (a1).toNatClampNeg)) (k := 15) (as := [.int a1]) (rest := []) dX11_as_30 kX9_at vX9_at lX11_139 (hT.k 15 rfl) rfl rfl rfl rfl rfl (by omega) (Nat.le_refl _) (Nat.le_refl _) (qX9_at (d + 1) hT a1 hp3) ?_
      refine J.iload_n dX11_as_33 rfl rfl ?_
      obtain ⟨hp4, h⟩ := h
      refine J.callVP (k := (17 + 4 * (a1).toNatClampNeg)) (as := [.int a2]) (rest := []) dX11_as_34 kX8_isOf vX8_isOf lX11_160 (hT.sliceK (vp_lt hp3)) rfl rfl rfl rfl rfl (by omega) (Nat.le_refl _) (Nat.le_refl _) (qX8_isOf (d + 1) hT (a1).toNatClampNeg (vp_lt hp3) a2 hp4) ?_
      refine J.if_eq (tgt := 44) dX11_as_37 (by decide) (fun hc5 => ?_) (fun hc5 => ?_)
      · have h := h.1 hc5
        refine J.aload_n dX11_as_44 rfl rfl ?_
        refine J.ldc (v := (-1000004)) dX11_as_45 kcX11_163 ?_
        refine J.callVE (k := 0) (as := [.int (-1000004)]) (rest := []) dX11_as_47 kX11_finding vX11_finding lX11_65 (hT.k 0 rfl) rfl rfl rfl rfl rfl (by omega) (Nat.le_refl _) (Nat.le_refl _) (qX11_finding (d + 1) hT (-1000004) ) ?_
        exact J.iretQ dX11_as_50 rfl (Nat.le_refl _) (Nat.le_refl _) h
      · have h := h.2 hc5
        refine J.iload_n dX11_as_40 rfl rfl ?_
        refine J.goto (tgt := 50) dX11_as_41 (by decide) ?_
        exact J.iretQ dX11_as_50 rfl (Nat.le_refl _) (Nat.le_refl _) h
    · have h := h.2 hc2
      refine J.aload_n dX11_as_18 rfl rfl ?_
      refine J.ldc (v := (-1000001)) dX11_as_19 kcX11_64 ?_
      refine J.callVE (k := 0) (as := [.int (-1000001)]) (rest := []) dX11_as_21 kX11_finding vX11_finding lX11_65 (hT.k 0 rfl) rfl rfl rfl rfl rfl (by omega) (Nat.le_refl _) (Nat.le_refl _) (qX11_finding (d + 1) hT (-1000001) ) ?_
      exact J.iretQ dX11_as_24 rfl (Nat.le_refl _) (Nat.le_refl _) h
set_option maxHeartbeats 4000000 in
set_option maxRecDepth 100000 in
theorem wX11_as (d : Nat) {T : Topo} (hT : Lay T) (a1 : Int32) (a2 : Int32)   {Q : Int32 → Topo → IM → Prop} {I : IM} (h : fX11_as_0 T a1 a2 Q I) : Ct (d + 2) mX11_as [.ref 0, .int a1, .int a2] T I 0 0 (PI Q) :=
  Ct.ofJ (by decide +kernel) rfl (by intro v hv; revert v hv; simp [Value.category]) rfl (sX11_as_0 d hT a1 a2   I h)

def jX11_as (I : IM) (a1 : Int32) (a2 : Int32) : Int32 := (if hSl I a1 then (if wi a2 0 4 then (if (jX8_isOf I (a1).toNatClampNeg a2) = 0 then (-1000004) else a1) else (-1000001)) else (-1000001))
def jX11_asM (I : IM) (a1 : Int32) (a2 : Int32) : IM := (if hSl I a1 then (if wi a2 0 4 then (if (jX8_isOf I (a1).toNatClampNeg a2) = 0 then (fnd I) else I) else (fnd I)) else (fnd I))
def jX11_asK (I : IM) (a1 : Int32) (a2 : Int32) : Prop := (((¬ (hSl I a1)) → True) ∧ ((hSl I a1) → (((wi a2 0 4) → ((vp_in a1 8) ∧ ((jX8_isOfK I (a1).toNatClampNeg a2)))) ∧ ((¬ (wi a2 0 4)) → True))))
set_option maxRecDepth 10000 in
theorem qX11_as (d : Nat) {T : Topo} {I : IM} (hT : Lay T) (a1 : Int32) (a2 : Int32)  (hp : (jX11_asK I a1 a2)) : CtI (d + 2) mX11_as [.ref 0, .int a1, .int a2] T I (fun x_ J_ => x_ = (jX11_as I a1 a2) ∧ J_ = (jX11_asM I a1 a2)) :=
  wX11_as d hT a1 a2   (by
  unfold fX11_as_0
  exact ⟨fun hc1 => ⟨rfl, by unfold jX11_as; rw [if_neg hc1], by unfold jX11_asM; rw [if_neg hc1]⟩, fun hc1 => ⟨fun hc2 => ⟨(((hp).2 hc1).1 hc2).1, ⟨(((hp).2 hc1).1 hc2).2, ⟨fun hc3 => ⟨rfl, by unfold jX11_as; rw [if_pos hc1, if_pos hc2, if_pos hc3], by unfold jX11_asM; rw [if_pos hc1, if_pos hc2, if_pos hc3]⟩, fun hc3 => ⟨rfl, by unfold jX11_as; rw [if_pos hc1, if_pos hc2, if_neg hc3], by unfold jX11_asM; rw [if_pos hc1, if_pos hc2, if_neg hc3]⟩⟩⟩⟩, fun hc2 => ⟨rfl, by unfold jX11_as; rw [if_pos hc1, if_neg hc2], by unfold jX11_asM; rw [if_pos hc1, if_neg hc2]⟩⟩⟩)

def fX11_of_0 (T : Topo) (a1 : Int32) (a2 : Int32) (Q : Int32 → Topo → IM → Prop)  (I : IM) : Prop :=
  ((((¬ (hSl I a1)) → (Q (-1000001) T (fnd I))) ∧ ((hSl I a1) → ((((wi a2 0 17) → ((vp_in a1 8) ∧ (((10 < a2) → (Q (jX8_becameOf I (a1).toNatClampNeg a2) T I)) ∧ ((¬ 10 < a2) → (Q (jX8_askedFor I (a1).toNatClampNeg a2) T I))))) ∧ ((¬ (wi a2 0 17)) → (Q (-1000001) T (fnd I))))))))
set_option maxHeartbeats 4000000 in
set_option maxRecDepth 100000 in
theorem sX11_of_0 (d : Nat) {T : Topo} (hT : Lay T) (a1 : Int32) (a2 : Int32)    {Q : Int32 → Topo → IM → Prop}   (I : IM) (h : fX11_of_0 T a1 a2 Q  I) : J (d + 2) mX11_of (PI Q) 0 0 0 [some (.ref 0), some (.int a1), some (.int a2), none] [] T I 0 0 := by
  unfold fX11_of_0 at h
  refine J.aload_n dX11_of_0 rfl rfl ?_
  refine J.getR (r := 15) dX11_of_1 fX11_19 (hT.k 0 rfl) rfl (hT.r 0 1 rfl rfl) ?_
  refine J.iload_n dX11_of_4 rfl rfl ?_
  refine J.callVP (k := 15) (as := [.int a1]) (rest := []) dX11_of_5 kX9_hasSlice vX9_hasSlice lX11_136 (hT.k 15 rfl) rfl rfl rfl rfl rfl (by omega) (Nat.le_refl _) (Nat.le_refl _) (qX9_hasSlice (d + 1) hT a1 ) ?_
  refine J.bz_eq (tgt := 21) dX11_of_8 (by decide) (fun hc1 => ?_) (fun hc1 => ?_)
  · have h := h.1 hc1
    refine J.aload_n dX11_of_21 rfl rfl ?_
    refine J.ldc (v := (-1000001)) dX11_of_22 kcX11_64 ?_
    refine J.callVE (k := 0) (as := [.int (-1000001)]) (rest := []) dX11_of_24 kX11_finding vX11_finding lX11_65 (hT.k 0 rfl) rfl rfl rfl rfl rfl (by omega) (Nat.le_refl _) (Nat.le_refl _) (qX11_finding (d + 1) hT (-1000001) ) ?_
    exact J.iretQ dX11_of_27 rfl (Nat.le_refl _) (Nat.le_refl _) h
  · have h := h.2 hc1
    refine J.iload_n dX11_of_11 rfl rfl ?_
    refine J.iconst (v := 0) dX11_of_12 (by decide) ?_
    refine J.bipush (v := 17) dX11_of_13 (by decide) ?_
    refine J.callSP (as := [.int a2, .int 0, .int 17]) (rest := []) dX11_of_15 kX11_isWithin vX11_isWithin lX11_60 rfl rfl rfl (by omega) (Nat.le_refl _) (Nat.le_refl _) (qX11_isWithin (d + 1) hT a2 0 17 ) ?_
    refine J.bz_ne (tgt := 28) dX11_of_18 (by decide) (fun hc2 => ?_) (fun hc2 => ?_)
    · have h := h.1 hc2
      refine J.aload_n dX11_of_28 rfl rfl ?_
      refine J.getR (r := 15) dX11_of_29 fX11_19 (hT.k 0 rfl) rfl (hT.r 0 1 rfl rfl) ?_
      refine J.iload_n dX11_of_32 rfl rfl ?_
      obtain ⟨hp3, h⟩ := h
      refine J.callVF (r := (17 + 4 * (a1).toNatClampNeg)) (k := 15) (as := [.int a1]) (rest := []) dX11_of_33 kX9_at vX9_at lX11_139 (hT.k 15 rfl) rfl rfl rfl rfl rfl (by omega) (Nat.le_refl _) (Nat.le_refl _) (qX9_at (d + 1) hT a1 hp3) ?_
      refine J.astore_n (ls' := [some (.ref 0), some (.int a1), some (.int a2), some (.ref (17 + 4 * (a1).toNatClampNeg))]) dX11_of_36 rfl rfl rfl ?_
      refine J.iload_n dX11_of_37 rfl rfl ?_
      refine J.bipush (v := 10) dX11_of_38 (by decide) ?_
      refine J.icmp_gt (tgt := 51) dX11_of_40 (by decide) (fun hc4 => ?_) (fun hc4 => ?_)
      · have h := h.1 hc4
        refine J.aload_n dX11_of_51 rfl rfl ?_
        refine J.iload_n dX11_of_52 rfl rfl ?_
        refine J.callVP (k := (17 + 4 * (a1).toNatClampNeg)) (as := [.int a2]) (rest := []) dX11_of_53 kX8_becameOf vX8_becameOf lX11_167 (hT.sliceK (vp_lt hp3)) rfl rfl rfl rfl rfl (by omega) (Nat.le_refl _) (Nat.le_refl _) (qX8_becameOf (d + 0) hT (a1).toNatClampNeg (vp_lt hp3) a2 ) ?_
        exact J.iretQ dX11_of_56 rfl (Nat.le_refl _) (Nat.le_refl _) h
      · have h := h.2 hc4
        refine J.aload_n dX11_of_43 rfl rfl ?_
        refine J.iload_n dX11_of_44 rfl rfl ?_
        refine J.callVP (k := (17 + 4 * (a1).toNatClampNeg)) (as := [.int a2]) (rest := []) dX11_of_45 kX8_askedFor vX8_askedFor lX11_164 (hT.sliceK (vp_lt hp3)) rfl rfl rfl rfl rfl (by omega) (Nat.le_refl _) (Nat.le_refl _) (qX8_askedFor (d + 1) hT (a1).toNatClampNeg (vp_lt hp3) a2 ) ?_
        refine J.goto (tgt := 56) dX11_of_48 (by decide) ?_
        exact J.iretQ dX11_of_56 rfl (Nat.le_refl _) (Nat.le_refl _) h
    · have h := h.2 hc2
      refine J.aload_n dX11_of_21 rfl rfl ?_
      refine J.ldc (v := (-1000001)) dX11_of_22 kcX11_64 ?_
      refine J.callVE (k := 0) (as := [.int (-1000001)]) (rest := []) dX11_of_24 kX11_finding vX11_finding lX11_65 (hT.k 0 rfl) rfl rfl rfl rfl rfl (by omega) (Nat.le_refl _) (Nat.le_refl _) (qX11_finding (d + 1) hT (-1000001) ) ?_
      exact J.iretQ dX11_of_27 rfl (Nat.le_refl _) (Nat.le_refl _) h
set_option maxHeartbeats 4000000 in
set_option maxRecDepth 100000 in
theorem wX11_of (d : Nat) {T : Topo} (hT : Lay T) (a1 : Int32) (a2 : Int32)   {Q : Int32 → Topo → IM → Prop} {I : IM} (h : fX11_of_0 T a1 a2 Q I) : Ct (d + 2) mX11_of [.ref 0, .int a1, .int a2] T I 0 0 (PI Q) :=
  Ct.ofJ (by decide +kernel) rfl (by intro v hv; revert v hv; simp [Value.category]) rfl (sX11_of_0 d hT a1 a2   I h)

def jX11_of (I : IM) (a1 : Int32) (a2 : Int32) : Int32 := (if hSl I a1 then (if wi a2 0 17 then (if 10 < a2 then (jX8_becameOf I (a1).toNatClampNeg a2) else (jX8_askedFor I (a1).toNatClampNeg a2)) else (-1000001)) else (-1000001))
def jX11_ofM (I : IM) (a1 : Int32) (a2 : Int32) : IM := (if hSl I a1 then (if wi a2 0 17 then I else (fnd I)) else (fnd I))
def jX11_ofK (I : IM) (a1 : Int32) (a2 : Int32) : Prop := (((¬ (hSl I a1)) → True) ∧ ((hSl I a1) → (((wi a2 0 17) → (vp_in a1 8)) ∧ ((¬ (wi a2 0 17)) → True))))
set_option maxRecDepth 10000 in
theorem qX11_of (d : Nat) {T : Topo} {I : IM} (hT : Lay T) (a1 : Int32) (a2 : Int32)  (hp : (jX11_ofK I a1 a2)) : CtI (d + 2) mX11_of [.ref 0, .int a1, .int a2] T I (fun x_ J_ => x_ = (jX11_of I a1 a2) ∧ J_ = (jX11_ofM I a1 a2)) :=
  wX11_of d hT a1 a2   (by
  unfold fX11_of_0
  exact ⟨fun hc1 => ⟨rfl, by unfold jX11_of; rw [if_neg hc1], by unfold jX11_ofM; rw [if_neg hc1]⟩, fun hc1 => ⟨fun hc2 => ⟨((hp).2 hc1).1 hc2, ⟨fun hc3 => ⟨rfl, by unfold jX11_of; rw [if_pos hc1, if_pos hc2, if_pos hc3], by unfold jX11_ofM; rw [if_pos hc1, if_pos hc2]⟩, fun hc3 => ⟨rfl, by unfold jX11_of; rw [if_pos hc1, if_pos hc2, if_neg hc3], by unfold jX11_ofM; rw [if_pos hc1, if_pos hc2]⟩⟩⟩, fun hc2 => ⟨rfl, by unfold jX11_of; rw [if_pos hc1, if_neg hc2], by unfold jX11_ofM; rw [if_pos hc1, if_neg hc2]⟩⟩⟩)

def fX11_comeIn_0 (T : Topo) (i1 : Nat) (a2 : Int32) (Q : Topo → IM → Prop)  (I : IM) : Prop :=
  (((jX0_enterK (up2 I (17 + 4 * i1) 12 a2) 49 i1 a2 (I (17 + 4 * i1) 11) 1)) ∧ Q T (jX0_enter (up2 I (17 + 4 * i1) 12 a2) 49 i1 a2 (I (17 + 4 * i1) 11) 1))
set_option maxHeartbeats 4000000 in
set_option maxRecDepth 100000 in
theorem sX11_comeIn_0 (d : Nat) {T : Topo} (hT : Lay T) (i1 : Nat) (a2 : Int32) (hi1 : i1 < 8)   {Q : Topo → IM → Prop}   (I : IM) (h : fX11_comeIn_0 T i1 a2 Q  I) : J (d + 4) mX11_comeIn (PV Q) 0 0 0 [some (.ref 0), some (.ref (17 + 4 * i1)), some (.int a2)] [] T I 0 0 := by
  unfold fX11_comeIn_0 at h
  refine J.aload_n dX11_comeIn_0 rfl rfl ?_
  refine J.iload_n dX11_comeIn_1 rfl rfl ?_
  refine J.putI dX11_comeIn_2 fX11_218 (hT.sliceK hi1) rfl ?_
  refine J.aload_n dX11_comeIn_5 rfl rfl ?_
  refine J.getR (r := 49) dX11_comeIn_6 fX11_26 (hT.k 0 rfl) rfl (hT.r 0 2 rfl rfl) ?_
  refine J.aload_n dX11_comeIn_9 rfl rfl ?_
  refine J.getR (r := 1) dX11_comeIn_10 fX11_15 (hT.k 0 rfl) rfl (hT.r 0 0 rfl rfl) ?_
  refine J.atpc (pc' := 13) rfl ?_
  refine J.aload_n dX11_comeIn_13 rfl rfl ?_
  refine J.iload_n dX11_comeIn_14 rfl rfl ?_
  refine J.aload_n dX11_comeIn_15 rfl rfl ?_
  refine J.getI dX11_comeIn_16 fX11_186 (hT.sliceK hi1) rfl ?_
  refine J.topEq (y := (I (17 + 4 * i1) 11)) (up2_sj _ _ _ (by decide)) ?_
  refine J.iconst (v := 1) dX11_comeIn_19 (by decide) ?_
  obtain ⟨hp1, h⟩ := h
  refine J.callVD (k := 49) (as := [.ref 1, .ref (17 + 4 * i1), .int a2, .int (I (17 + 4 * i1) 11), .int 1]) (rest := []) dX11_comeIn_20 kX0_enter vX0_enter lX11_355 (hT.k 49 rfl) rfl rfl rfl rfl rfl (by omega) (Nat.le_refl _) (Nat.le_refl _) (qX0_enter (d + 0) hT 49 (Or.inl rfl) i1 hi1 a2 (I (17 + 4 * i1) 11) 1 hp1) ?_
  exact J.vretQ dX11_comeIn_23 rfl (Nat.le_refl _) (Nat.le_refl _) h
set_option maxHeartbeats 4000000 in
set_option maxRecDepth 100000 in
theorem wX11_comeIn (d : Nat) {T : Topo} (hT : Lay T) (i1 : Nat) (a2 : Int32) (hi1 : i1 < 8)  {Q : Topo → IM → Prop} {I : IM} (h : fX11_comeIn_0 T i1 a2 Q I) : Ct (d + 4) mX11_comeIn [.ref 0, .ref (17 + 4 * i1), .int a2] T I 0 0 (PV Q) :=
  Ct.ofJ (by decide +kernel) rfl (by intro v hv; revert v hv; simp [Value.category]) rfl (sX11_comeIn_0 d hT i1 a2 hi1  I h)

def jX11_comeInM (I : IM) (i1 : Nat) (a2 : Int32) : IM := (jX0_enter (up2 I (17 + 4 * i1) 12 a2) 49 i1 a2 (I (17 + 4 * i1) 11) 1)
def jX11_comeInK (I : IM) (i1 : Nat) (a2 : Int32) : Prop := ((jX0_enterK (up2 I (17 + 4 * i1) 12 a2) 49 i1 a2 (I (17 + 4 * i1) 11) 1))
set_option maxRecDepth 10000 in
theorem qX11_comeIn (d : Nat) {T : Topo} {I : IM} (hT : Lay T) (i1 : Nat) (hi1 : i1 < 8) (a2 : Int32)  (hp : (jX11_comeInK I i1 a2)) : CtV (d + 4) mX11_comeIn [.ref 0, .ref (17 + 4 * i1), .int a2] T I (fun J_ => J_ = (jX11_comeInM I i1 a2)) :=
  wX11_comeIn d hT i1 a2 hi1  (by
  unfold fX11_comeIn_0
  exact ⟨hp, ⟨rfl, by unfold jX11_comeInM; rfl⟩⟩)

def fX11_whyNoRoom_0 (T : Topo) (i1 : Nat) (i2 : Nat) (Q : Int32 → Topo → IM → Prop) (K5 : Int32 → Int32 → IM → Prop) (I : IM) : Prop :=
  K5 3 0 I
def fX11_whyNoRoom_5 (T : Topo) (i1 : Nat) (i2 : Nat) (Q : Int32 → Topo → IM → Prop) (K5 : Int32 → Int32 → IM → Prop) (v3 v4 : Int32) (I : IM) : Prop :=
  ((((I (18 + 4 * i2) 4) ≤ v4) → Q v3 T I) ∧ ((¬ (I (18 + 4 * i2) 4) ≤ v4) → (((jX6_upAtK T i2 v4)) ∧ (((jX0_linesHoldK I 49 i1 (jX6_upAt T I i2 v4) (I (17 + 4 * i1) 11))) ∧ ((((jX0_linesHold I 49 i1 (jX6_upAt T I i2 v4) (I (17 + 4 * i1) 11)) = 0) → K5 v3 (v4 + 1) I) ∧ ((¬ (jX0_linesHold I 49 i1 (jX6_upAt T I i2 v4) (I (17 + 4 * i1) 11)) = 0) → (((jX0_hostHoldsK I 49 i1 (jX6_upAt T I i2 v4) (I (17 + 4 * i1) 11))) ∧ ((((jX0_hostHolds I 49 i1 (jX6_upAt T I i2 v4) (I (17 + 4 * i1) 11)) = 0) → K5 4 (v4 + 1) I) ∧ ((¬ (jX0_hostHolds I 49 i1 (jX6_upAt T I i2 v4) (I (17 + 4 * i1) 11)) = 0) → Q 0 T I)))))))))
set_option maxHeartbeats 4000000 in
set_option maxRecDepth 100000 in
theorem sX11_whyNoRoom_0 (d : Nat) {T : Topo} (hT : Lay T) (i1 : Nat) (i2 : Nat) (hi1 : i1 < 8) (hi2 : i2 < 8) (hPl : Pl T)  {Q : Int32 → Topo → IM → Prop} {K5 : Int32 → Int32 → IM → Prop} (hK5 : ∀ (v3 v4 : Int32) (I : IM), K5 v3 v4 I → J (d + 4) mX11_whyNoRoom (PI Q) 0 0 5 [some (.ref 0), some (.ref (17 + 4 * i1)), some (.ref (18 + 4 * i2)), some (.int v3), some (.int v4), none] [] T I 0 0) (I : IM) (h : fX11_whyNoRoom_0 T i1 i2 Q K5 I) : J (d + 4) mX11_whyNoRoom (PI Q) 0 0 0 [some (.ref 0), some (.ref (17 + 4 * i1)), some (.ref (18 + 4 * i2)), none, none, none] [] T I 0 0 := by
  unfold fX11_whyNoRoom_0 at h
  refine J.iconst (v := 3) dX11_whyNoRoom_0 (by decide) ?_
  refine J.istore_n (ls' := [some (.ref 0), some (.ref (17 + 4 * i1)), some (.ref (18 + 4 * i2)), some (.int 3), none, none]) dX11_whyNoRoom_1 rfl rfl rfl ?_
  refine J.iconst (v := 0) dX11_whyNoRoom_2 (by decide) ?_
  refine J.istore (ls' := [some (.ref 0), some (.ref (17 + 4 * i1)), some (.ref (18 + 4 * i2)), some (.int 3), some (.int 0), none]) dX11_whyNoRoom_3 rfl rfl ?_
  exact J.weaken (ls' := [some (.ref 0), some (.ref (17 + 4 * i1)), some (.ref (18 + 4 * i2)), some (.int 3), some (.int 0), none]) (And.intro rfl (And.intro rfl (And.intro rfl (And.intro rfl (And.intro rfl trivial))))) (hK5 3 0 I h)
set_option maxHeartbeats 4000000 in
set_option maxRecDepth 100000 in
theorem sX11_whyNoRoom_5 (d : Nat) {T : Topo} (hT : Lay T) (i1 : Nat) (i2 : Nat) (hi1 : i1 < 8) (hi2 : i2 < 8) (hPl : Pl T)  {Q : Int32 → Topo → IM → Prop} {K5 : Int32 → Int32 → IM → Prop} (hK5 : ∀ (v3 v4 : Int32) (I : IM), K5 v3 v4 I → J (d + 4) mX11_whyNoRoom (PI Q) 0 0 5 [some (.ref 0), some (.ref (17 + 4 * i1)), some (.ref (18 + 4 * i2)), some (.int v3), some (.int v4), none] [] T I 0 0) (v3 v4 : Int32) (I : IM) (h : fX11_whyNoRoom_5 T i1 i2 Q K5 v3 v4 I) : J (d + 4) mX11_whyNoRoom (PI Q) 0 0 5 [some (.ref 0), some (.ref (17 + 4 * i1)), some (.ref (18 + 4 * i2)), some (.int v3), some (.int v4), none] [] T I 0 0 := by
  unfold fX11_whyNoRoom_5 at h
  refine J.iload dX11_whyNoRoom_5 rfl ?_
  refine J.aload_n dX11_whyNoRoom_7 rfl rfl ?_
  refine J.getI dX11_whyNoRoom_8 fX11_204 (hT.placesK hi2) rfl ?_
  refine J.icmp_ge (tgt := 74) dX11_whyNoRoom_11 (by decide) (fun hc1 => ?_) (fun hc1 => ?_)
  · have h := h.1 hc1
    refine J.iload_n dX11_whyNoRoom_74 rfl rfl ?_
    exact J.iretQ dX11_whyNoRoom_75 rfl (Nat.le_refl _) (Nat.le_refl _) h
  · have h := h.2 hc1
    refine J.aload_n dX11_whyNoRoom_14 rfl rfl ?_
    refine J.iload dX11_whyNoRoom_15 rfl ?_
    obtain ⟨hp2, h⟩ := h
    refine J.callVP (k := (18 + 4 * i2)) (as := [.int v4]) (rest := []) dX11_whyNoRoom_17 kX6_upAt vX6_upAt lX11_359 (hT.placesK hi2) rfl rfl rfl rfl rfl (by omega) (Nat.le_refl _) (Nat.le_refl _) (qX6_upAt (d + 3) hT i2 hi2 v4 hPl hp2) ?_
    refine J.istore (ls' := [some (.ref 0), some (.ref (17 + 4 * i1)), some (.ref (18 + 4 * i2)), some (.int v3), some (.int v4), some (.int (jX6_upAt T I i2 v4))]) dX11_whyNoRoom_20 rfl rfl ?_
    refine J.aload_n dX11_whyNoRoom_22 rfl rfl ?_
    refine J.getR (r := 49) dX11_whyNoRoom_23 fX11_26 (hT.k 0 rfl) rfl (hT.r 0 2 rfl rfl) ?_
    refine J.aload_n dX11_whyNoRoom_26 rfl rfl ?_
    refine J.getR (r := 1) dX11_whyNoRoom_27 fX11_15 (hT.k 0 rfl) rfl (hT.r 0 0 rfl rfl) ?_
    refine J.aload_n dX11_whyNoRoom_30 rfl rfl ?_
    refine J.iload dX11_whyNoRoom_31 rfl ?_
    refine J.atpc (pc' := 33) rfl ?_
    refine J.aload_n dX11_whyNoRoom_33 rfl rfl ?_
    refine J.getI dX11_whyNoRoom_34 fX11_186 (hT.sliceK hi1) rfl ?_
    obtain ⟨hp3, h⟩ := h
    refine J.callVP (k := 49) (as := [.ref 1, .ref (17 + 4 * i1), .int (jX6_upAt T I i2 v4), .int (I (17 + 4 * i1) 11)]) (rest := []) dX11_whyNoRoom_37 kX0_linesHold vX0_linesHold lX11_189 (hT.k 49 rfl) rfl rfl rfl rfl rfl (by omega) (Nat.le_refl _) (Nat.le_refl _) (qX0_linesHold (d + 0) hT 49 (Or.inl rfl) i1 hi1 (jX6_upAt T I i2 v4) (I (17 + 4 * i1) 11) hp3) ?_
    refine J.if_eq (tgt := 68) dX11_whyNoRoom_40 (by decide) (fun hc4 => ?_) (fun hc4 => ?_)
    · have h := h.1 hc4
      refine J.iinc (v := (v4 + 1)) (ls' := [some (.ref 0), some (.ref (17 + 4 * i1)), some (.ref (18 + 4 * i2)), some (.int v3), some (.int (v4 + 1)), some (.int (jX6_upAt T I i2 v4))]) dX11_whyNoRoom_68 rfl (by rfl) rfl ?_
      refine J.goto (tgt := 5) dX11_whyNoRoom_71 (by decide) ?_
      exact J.weaken (ls' := [some (.ref 0), some (.ref (17 + 4 * i1)), some (.ref (18 + 4 * i2)), some (.int v3), some (.int (v4 + 1)), none]) (And.intro rfl (And.intro rfl (And.intro rfl (And.intro rfl (And.intro rfl trivial))))) (hK5 v3 (v4 + 1) I h)
    · have h := h.2 hc4
      refine J.iconst (v := 4) dX11_whyNoRoom_43 (by decide) ?_
      refine J.istore_n (ls' := [some (.ref 0), some (.ref (17 + 4 * i1)), some (.ref (18 + 4 * i2)), some (.int 4), some (.int v4), some (.int (jX6_upAt T I i2 v4))]) dX11_whyNoRoom_44 rfl rfl rfl ?_
      refine J.aload_n dX11_whyNoRoom_45 rfl rfl ?_
      refine J.getR (r := 49) dX11_whyNoRoom_46 fX11_26 (hT.k 0 rfl) rfl (hT.r 0 2 rfl rfl) ?_
      refine J.aload_n dX11_whyNoRoom_49 rfl rfl ?_
      refine J.getR (r := 1) dX11_whyNoRoom_50 fX11_15 (hT.k 0 rfl) rfl (hT.r 0 0 rfl rfl) ?_
      refine J.aload_n dX11_whyNoRoom_53 rfl rfl ?_
      refine J.atpc (pc' := 54) rfl ?_
      refine J.iload dX11_whyNoRoom_54 rfl ?_
      refine J.aload_n dX11_whyNoRoom_56 rfl rfl ?_
      refine J.getI dX11_whyNoRoom_57 fX11_186 (hT.sliceK hi1) rfl ?_
      obtain ⟨hp5, h⟩ := h
      refine J.callVP (k := 49) (as := [.ref 1, .ref (17 + 4 * i1), .int (jX6_upAt T I i2 v4), .int (I (17 + 4 * i1) 11)]) (rest := []) dX11_whyNoRoom_60 kX0_hostHolds vX0_hostHolds lX11_193 (hT.k 49 rfl) rfl rfl rfl rfl rfl (by omega) (Nat.le_refl _) (Nat.le_refl _) (qX0_hostHolds (d + 2) hT 49 (Or.inl rfl) i1 hi1 (jX6_upAt T I i2 v4) (I (17 + 4 * i1) 11) hp5) ?_
      refine J.if_eq (tgt := 68) dX11_whyNoRoom_63 (by decide) (fun hc6 => ?_) (fun hc6 => ?_)
      · have h := h.1 hc6
        refine J.iinc (v := (v4 + 1)) (ls' := [some (.ref 0), some (.ref (17 + 4 * i1)), some (.ref (18 + 4 * i2)), some (.int 4), some (.int (v4 + 1)), some (.int (jX6_upAt T I i2 v4))]) dX11_whyNoRoom_68 rfl (by rfl) rfl ?_
        refine J.goto (tgt := 5) dX11_whyNoRoom_71 (by decide) ?_
        exact J.weaken (ls' := [some (.ref 0), some (.ref (17 + 4 * i1)), some (.ref (18 + 4 * i2)), some (.int 4), some (.int (v4 + 1)), none]) (And.intro rfl (And.intro rfl (And.intro rfl (And.intro rfl (And.intro rfl trivial))))) (hK5 4 (v4 + 1) I h)
      · have h := h.2 hc6
        refine J.iconst (v := 0) dX11_whyNoRoom_66 (by decide) ?_
        exact J.iretQ dX11_whyNoRoom_67 rfl (Nat.le_refl _) (Nat.le_refl _) h
set_option maxHeartbeats 4000000 in
set_option maxRecDepth 100000 in
theorem wX11_whyNoRoom (d : Nat) {T : Topo} (hT : Lay T) (i1 : Nat) (i2 : Nat) (hi1 : i1 < 8) (hi2 : i2 < 8) (hPl : Pl T) {Q : Int32 → Topo → IM → Prop} (V5 : Int32 → Int32 → IM → Prop) (μ5 : Int32 → Int32 → IM → Nat) (vc5 : ∀ (v3 v4 : Int32) (I : IM), V5 v3 v4 I → fX11_whyNoRoom_5 T i1 i2 Q (fun w3 w4 I_ => V5 w3 w4 I_ ∧ μ5 w3 w4 I_ < μ5 v3 v4 I) v3 v4 I) {I : IM} (h : fX11_whyNoRoom_0 T i1 i2 Q V5 I) : Ct (d + 4) mX11_whyNoRoom [.ref 0, .ref (17 + 4 * i1), .ref (18 + 4 * i2)] T I 0 0 (PI Q) := by
  have all : ∀ n : Nat, (∀ (v3 v4 : Int32) (I : IM), V5 v3 v4 I → μ5 v3 v4 I < n → J (d + 4) mX11_whyNoRoom (PI Q) 0 0 5 [some (.ref 0), some (.ref (17 + 4 * i1)), some (.ref (18 + 4 * i2)), some (.int v3), some (.int v4), none] [] T I 0 0) := by
    intro n
    induction n with
    | zero => exact fun _ _ _ _ hn => absurd hn (Nat.not_lt_zero _)
    | succ n ih =>
      exact fun v3 v4 I hv hn => sX11_whyNoRoom_5 d hT i1 i2 hi1 hi2 hPl (fun w3 w4 I_ hw => ih w3 w4 I_ hw.1 (by have := hw.2; omega)) v3 v4 I (vc5 v3 v4 I hv)
  exact Ct.ofJ (by decide +kernel) rfl (by intro v hv; revert v hv; simp [Value.category]) rfl (sX11_whyNoRoom_0 d hT i1 i2 hi1 hi2 hPl (fun w3 w4 I_ hw => (all (μ5 w3 w4 I_ + 1)) w3 w4 I_ hw (Nat.lt_succ_self _)) I h)

def jX11_whyNoRoomI (T : Topo) (i1 : Nat) (i2 : Nat) : Nat → Int32 → Int32 → IM → Int32
  | 0 => fun _ _ I => 0
  | n + 1 => fun v3 v4 I => (if (I (18 + 4 * i2) 4) ≤ v4 then v3 else (if (jX0_linesHold I 49 i1 (jX6_upAt T I i2 v4) (I (17 + 4 * i1) 11)) = 0 then (jX11_whyNoRoomI T i1 i2 n v3 (v4 + 1) I) else (if (jX0_hostHolds I 49 i1 (jX6_upAt T I i2 v4) (I (17 + 4 * i1) 11)) = 0 then (jX11_whyNoRoomI T i1 i2 n 4 (v4 + 1) I) else 0)))
def jX11_whyNoRoomO (T : Topo) (i1 : Nat) (i2 : Nat) : Nat → Int32 → Int32 → IM → Prop
  | 0 => fun _ _ _ => False
  | n + 1 => fun v3 v4 I => ((((I (18 + 4 * i2) 4) ≤ v4) → True) ∧ ((¬ (I (18 + 4 * i2) 4) ≤ v4) → (((jX6_upAtK T i2 v4)) ∧ (((jX0_linesHoldK I 49 i1 (jX6_upAt T I i2 v4) (I (17 + 4 * i1) 11))) ∧ ((((jX0_linesHold I 49 i1 (jX6_upAt T I i2 v4) (I (17 + 4 * i1) 11)) = 0) → (jX11_whyNoRoomO T i1 i2 n v3 (v4 + 1) I)) ∧ ((¬ (jX0_linesHold I 49 i1 (jX6_upAt T I i2 v4) (I (17 + 4 * i1) 11)) = 0) → (((jX0_hostHoldsK I 49 i1 (jX6_upAt T I i2 v4) (I (17 + 4 * i1) 11))) ∧ ((((jX0_hostHolds I 49 i1 (jX6_upAt T I i2 v4) (I (17 + 4 * i1) 11)) = 0) → (jX11_whyNoRoomO T i1 i2 n 4 (v4 + 1) I)) ∧ ((¬ (jX0_hostHolds I 49 i1 (jX6_upAt T I i2 v4) (I (17 + 4 * i1) 11)) = 0) → True)))))))))
theorem jX11_whyNoRoomI_5 (T : Topo) (i1 : Nat) (i2 : Nat) (n : Nat) (v3 v4 : Int32) (I : IM) : jX11_whyNoRoomI T i1 i2 (n + 1) v3 v4 I = (if (I (18 + 4 * i2) 4) ≤ v4 then v3 else (if (jX0_linesHold I 49 i1 (jX6_upAt T I i2 v4) (I (17 + 4 * i1) 11)) = 0 then (jX11_whyNoRoomI T i1 i2 n v3 (v4 + 1) I) else (if (jX0_hostHolds I 49 i1 (jX6_upAt T I i2 v4) (I (17 + 4 * i1) 11)) = 0 then (jX11_whyNoRoomI T i1 i2 n 4 (v4 + 1) I) else 0))) := rfl
theorem jX11_whyNoRoomO_5 (T : Topo) (i1 : Nat) (i2 : Nat) (n : Nat) (v3 v4 : Int32) (I : IM) : jX11_whyNoRoomO T i1 i2 (n + 1) v3 v4 I = ((((I (18 + 4 * i2) 4) ≤ v4) → True) ∧ ((¬ (I (18 + 4 * i2) 4) ≤ v4) → (((jX6_upAtK T i2 v4)) ∧ (((jX0_linesHoldK I 49 i1 (jX6_upAt T I i2 v4) (I (17 + 4 * i1) 11))) ∧ ((((jX0_linesHold I 49 i1 (jX6_upAt T I i2 v4) (I (17 + 4 * i1) 11)) = 0) → (jX11_whyNoRoomO T i1 i2 n v3 (v4 + 1) I)) ∧ ((¬ (jX0_linesHold I 49 i1 (jX6_upAt T I i2 v4) (I (17 + 4 * i1) 11)) = 0) → (((jX0_hostHoldsK I 49 i1 (jX6_upAt T I i2 v4) (I (17 + 4 * i1) 11))) ∧ ((((jX0_hostHolds I 49 i1 (jX6_upAt T I i2 v4) (I (17 + 4 * i1) 11)) = 0) → (jX11_whyNoRoomO T i1 i2 n 4 (v4 + 1) I)) ∧ ((¬ (jX0_hostHolds I 49 i1 (jX6_upAt T I i2 v4) (I (17 + 4 * i1) 11)) = 0) → True))))))))) := rfl
def jX11_whyNoRoom (T : Topo) (I : IM) (i1 : Nat) (i2 : Nat) : Int32 := (jX11_whyNoRoomI T i1 i2 FU 3 0 I)
def jX11_whyNoRoomK (T : Topo) (I : IM) (i1 : Nat) (i2 : Nat) : Prop := (jX11_whyNoRoomO T i1 i2 FU 3 0 I)
set_option maxRecDepth 10000 in
set_option maxHeartbeats 1000000 in
theorem uX11_whyNoRoom (d : Nat) {T : Topo} (hT : Lay T) (i1 : Nat) (i2 : Nat) (hi1 : i1 < 8) (hi2 : i2 < 8) (hPl : Pl T) {R : Int32} {I00 : IM} : ∀ n : Nat, (∀ (v3 v4 : Int32) (I : IM), I = I00 → jX11_whyNoRoomO T i1 i2 n v3 v4 I → jX11_whyNoRoomI T i1 i2 n v3 v4 I = R → J (d + 4) mX11_whyNoRoom (PI (fun x T' I' => x = R ∧ T' = T ∧ I' = I00)) 0 0 5 [some (.ref 0), some (.ref (17 + 4 * i1)), some (.ref (18 + 4 * i2)), some (.int v3), some (.int v4), none] [] T I 0 0) := by
  intro n
  induction n with
  | zero => exact fun _ _ _ _ hz => hz.elim
  | succ n ih =>
    exact fun v3 v4 I hI hok hit => by
        rw [jX11_whyNoRoomO_5] at hok
        exact sX11_whyNoRoom_5 d hT i1 i2 hi1 hi2 hPl (K5 := fun w3 w4 I_ => (jX11_whyNoRoomO T i1 i2 n w3 w4 I_ ∧ jX11_whyNoRoomI T i1 i2 n w3 w4 I_ = R) ∧ I_ = I00) (fun w3 w4 I_ hw => ih w3 w4 I_ hw.2 hw.1.1 hw.1.2) v3 v4 I (by
          unfold fX11_whyNoRoom_5
          exact ⟨fun hc1 => ⟨by rw [jX11_whyNoRoomI_5, if_pos hc1] at hit; exact hit, rfl, hI⟩, fun hc1 => ⟨((hok).2 hc1).1, ⟨(((hok).2 hc1).2).1, ⟨fun hc2 => ⟨⟨((((hok).2 hc1).2).2).1 hc2, by rw [jX11_whyNoRoomI_5, if_neg hc1, if_pos hc2] at hit; exact hit⟩, hI⟩, fun hc2 => ⟨(((((hok).2 hc1).2).2).2 hc2).1, ⟨fun hc3 => ⟨⟨((((((hok).2 hc1).2).2).2 hc2).2).1 hc3, by rw [jX11_whyNoRoomI_5, if_neg hc1, if_neg hc2, if_pos hc3] at hit; exact hit⟩, hI⟩, fun hc3 => ⟨by rw [jX11_whyNoRoomI_5, if_neg hc1, if_neg hc2, if_neg hc3] at hit; exact hit, rfl, hI⟩⟩⟩⟩⟩⟩⟩)
set_option maxRecDepth 10000 in
set_option maxHeartbeats 1000000 in
theorem qX11_whyNoRoom (d : Nat) {T : Topo} {I : IM} (hT : Lay T) (i1 : Nat) (hi1 : i1 < 8) (i2 : Nat) (hi2 : i2 < 8) (hPl : Pl T) (hp : (jX11_whyNoRoomK T I i1 i2)) : CtP (d + 4) mX11_whyNoRoom [.ref 0, .ref (17 + 4 * i1), .ref (18 + 4 * i2)] T I (jX11_whyNoRoom T I i1 i2) := by
  unfold jX11_whyNoRoomK at hp
  exact Ct.ofJ (by decide +kernel) rfl (by intro v hv; revert v hv; simp [Value.category]) rfl (sX11_whyNoRoom_0 d hT i1 i2 hi1 hi2 hPl (K5 := fun w3 w4 I_ => (jX11_whyNoRoomO T i1 i2 FU w3 w4 I_ ∧ jX11_whyNoRoomI T i1 i2 FU w3 w4 I_ = (jX11_whyNoRoom T I i1 i2)) ∧ I_ = I) (fun w3 w4 I_ hw => uX11_whyNoRoom d hT i1 i2 hi1 hi2 hPl FU w3 w4 I_ hw.2 hw.1.1 hw.1.2) I (by
    unfold fX11_whyNoRoom_0
    exact ⟨⟨hp, rfl⟩, rfl⟩))

def fX11_goOut_0 (T : Topo) (i1 : Nat) (Q : Topo → IM → Prop)  (I : IM) : Prop :=
  (((jX0_enterK I 49 i1 (I (17 + 4 * i1) 12) (I (17 + 4 * i1) 11) (-1))) ∧ Q T (up2 (jX0_enter I 49 i1 (I (17 + 4 * i1) 12) (I (17 + 4 * i1) 11) (-1)) (17 + 4 * i1) 12 0))
set_option maxHeartbeats 4000000 in
set_option maxRecDepth 100000 in
theorem sX11_goOut_0 (d : Nat) {T : Topo} (hT : Lay T) (i1 : Nat) (hi1 : i1 < 8)   {Q : Topo → IM → Prop}   (I : IM) (h : fX11_goOut_0 T i1 Q  I) : J (d + 4) mX11_goOut (PV Q) 0 0 0 [some (.ref 0), some (.ref (17 + 4 * i1))] [] T I 0 0 := by
  unfold fX11_goOut_0 at h
  refine J.aload_n dX11_goOut_0 rfl rfl ?_
  refine J.getR (r := 49) dX11_goOut_1 fX11_26 (hT.k 0 rfl) rfl (hT.r 0 2 rfl rfl) ?_
  refine J.aload_n dX11_goOut_4 rfl rfl ?_
  refine J.getR (r := 1) dX11_goOut_5 fX11_15 (hT.k 0 rfl) rfl (hT.r 0 0 rfl rfl) ?_
  refine J.aload_n dX11_goOut_8 rfl rfl ?_
  refine J.aload_n dX11_goOut_9 rfl rfl ?_
  refine J.getI dX11_goOut_10 fX11_218 (hT.sliceK hi1) rfl ?_
  refine J.atpc (pc' := 13) rfl ?_
  refine J.aload_n dX11_goOut_13 rfl rfl ?_
  refine J.getI dX11_goOut_14 fX11_186 (hT.sliceK hi1) rfl ?_
  refine J.iconst (v := (-1)) dX11_goOut_17 (by decide) ?_
  obtain ⟨hp1, h⟩ := h
  refine J.callVD (k := 49) (as := [.ref 1, .ref (17 + 4 * i1), .int (I (17 + 4 * i1) 12), .int (I (17 + 4 * i1) 11), .int (-1)]) (rest := []) dX11_goOut_18 kX0_enter vX0_enter lX11_355 (hT.k 49 rfl) rfl rfl rfl rfl rfl (by omega) (Nat.le_refl _) (Nat.le_refl _) (qX0_enter (d + 0) hT 49 (Or.inl rfl) i1 hi1 (I (17 + 4 * i1) 12) (I (17 + 4 * i1) 11) (-1) hp1) ?_
  refine J.aload_n dX11_goOut_21 rfl rfl ?_
  refine J.iconst (v := 0) dX11_goOut_22 (by decide) ?_
  refine J.putI dX11_goOut_23 fX11_218 (hT.sliceK hi1) rfl ?_
  exact J.vretQ dX11_goOut_26 rfl (Nat.le_refl _) (Nat.le_refl _) h
set_option maxHeartbeats 4000000 in
set_option maxRecDepth 100000 in
theorem wX11_goOut (d : Nat) {T : Topo} (hT : Lay T) (i1 : Nat) (hi1 : i1 < 8)  {Q : Topo → IM → Prop} {I : IM} (h : fX11_goOut_0 T i1 Q I) : Ct (d + 4) mX11_goOut [.ref 0, .ref (17 + 4 * i1)] T I 0 0 (PV Q) :=
  Ct.ofJ (by decide +kernel) rfl (by intro v hv; revert v hv; simp [Value.category]) rfl (sX11_goOut_0 d hT i1 hi1  I h)

def jX11_goOutM (I : IM) (i1 : Nat) : IM := (up2 (jX0_enter I 49 i1 (I (17 + 4 * i1) 12) (I (17 + 4 * i1) 11) (-1)) (17 + 4 * i1) 12 0)
def jX11_goOutK (I : IM) (i1 : Nat) : Prop := ((jX0_enterK I 49 i1 (I (17 + 4 * i1) 12) (I (17 + 4 * i1) 11) (-1)))
set_option maxRecDepth 10000 in
theorem qX11_goOut (d : Nat) {T : Topo} {I : IM} (hT : Lay T) (i1 : Nat) (hi1 : i1 < 8)  (hp : (jX11_goOutK I i1)) : CtV (d + 4) mX11_goOut [.ref 0, .ref (17 + 4 * i1)] T I (fun J_ => J_ = (jX11_goOutM I i1)) :=
  wX11_goOut d hT i1 hi1  (by
  unfold fX11_goOut_0
  exact ⟨hp, ⟨rfl, by unfold jX11_goOutM; rfl⟩⟩)

def fX11_wayOf_0 (T : Topo) (a1 : Int32) (a2 : Int32) (a3 : Int32) (Q : Int32 → Topo → IM → Prop)  (I : IM) : Prop :=
  ((((¬ (hSl I a1)) → (Q (-1000001) T (fnd I))) ∧ ((hSl I a1) → (((0 ≤ a3) → ((vp_in a1 8) ∧ ((((inS I (a1).toNatClampNeg) → (((a2 = 0) → ((((jX5_lineAlongK I (I (17 + 4 * (a1).toNatClampNeg) 1) (jWayIn (I (17 + 4 * (a1).toNatClampNeg) 12)) a3)) ∧ Q (jX5_lineAlong I (I (17 + 4 * (a1).toNatClampNeg) 1) (jWayIn (I (17 + 4 * (a1).toNatClampNeg) 12)) a3) T I))) ∧ ((¬ a2 = 0) → (((jX8_isOfK I (a1).toNatClampNeg 1)) ∧ (((¬ (jX8_isOf I (a1).toNatClampNeg 1) = 0) → ((((jX5_lineAlongK I (I (17 + 4 * (a1).toNatClampNeg) 1) (jSpareOf (I (17 + 4 * (a1).toNatClampNeg) 12)) a3)) ∧ Q (jX5_lineAlong I (I (17 + 4 * (a1).toNatClampNeg) 1) (jSpareOf (I (17 + 4 * (a1).toNatClampNeg) 12)) a3) T I))) ∧ (((jX8_isOf I (a1).toNatClampNeg 1) = 0) → (Q (-1000004) T (fnd I)))))))) ∧ ((¬ (inS I (a1).toNatClampNeg)) → (Q (-1000003) T (fnd I))))))) ∧ ((¬ 0 ≤ a3) → (Q (-1000001) T (fnd I)))))))
set_option maxHeartbeats 4000000 in
set_option maxRecDepth 100000 in
theorem sX11_wayOf_0 (d : Nat) {T : Topo} (hT : Lay T) (a1 : Int32) (a2 : Int32) (a3 : Int32)    {Q : Int32 → Topo → IM → Prop}   (I : IM) (h : fX11_wayOf_0 T a1 a2 a3 Q  I) : J (d + 3) mX11_wayOf (PI Q) 0 0 0 [some (.ref 0), some (.int a1), some (.int a2), some (.int a3), none] [] T I 0 0 := by
  unfold fX11_wayOf_0 at h
  refine J.aload_n dX11_wayOf_0 rfl rfl ?_
  refine J.getR (r := 15) dX11_wayOf_1 fX11_19 (hT.k 0 rfl) rfl (hT.r 0 1 rfl rfl) ?_
  refine J.iload_n dX11_wayOf_4 rfl rfl ?_
  refine J.callVP (k := 15) (as := [.int a1]) (rest := []) dX11_wayOf_5 kX9_hasSlice vX9_hasSlice lX11_136 (hT.k 15 rfl) rfl rfl rfl rfl rfl (by omega) (Nat.le_refl _) (Nat.le_refl _) (qX9_hasSlice (d + 2) hT a1 ) ?_
  refine J.bz_eq (tgt := 15) dX11_wayOf_8 (by decide) (fun hc1 => ?_) (fun hc1 => ?_)
  · have h := h.1 hc1
    refine J.aload_n dX11_wayOf_15 rfl rfl ?_
    refine J.ldc (v := (-1000001)) dX11_wayOf_16 kcX11_64 ?_
    refine J.callVE (k := 0) (as := [.int (-1000001)]) (rest := []) dX11_wayOf_18 kX11_finding vX11_finding lX11_65 (hT.k 0 rfl) rfl rfl rfl rfl rfl (by omega) (Nat.le_refl _) (Nat.le_refl _) (qX11_finding (d + 2) hT (-1000001) ) ?_
    exact J.iretQ dX11_wayOf_21 rfl (Nat.le_refl _) (Nat.le_refl _) h
  · have h := h.2 hc1
    refine J.iload_n dX11_wayOf_11 rfl rfl ?_
    refine J.if_ge (tgt := 22) dX11_wayOf_12 (by decide) (fun hc2 => ?_) (fun hc2 => ?_)
    · have h := h.1 hc2
      refine J.aload_n dX11_wayOf_22 rfl rfl ?_
      refine J.getR (r := 15) dX11_wayOf_23 fX11_19 (hT.k 0 rfl) rfl (hT.r 0 1 rfl rfl) ?_
      refine J.iload_n dX11_wayOf_26 rfl rfl ?_
      obtain ⟨hp3, h⟩ := h
      refine J.callVF (r := (17 + 4 * (a1).toNatClampNeg)) (k := 15) (as := [.int a1]) (rest := []) dX11_wayOf_27 kX9_at vX9_at lX11_139 (hT.k 15 rfl) rfl rfl rfl rfl rfl (by omega) (Nat.le_refl _) (Nat.le_refl _) (qX9_at (d + 2) hT a1 hp3) ?_
      refine J.astore (ls' := [some (.ref 0), some (.int a1), some (.int a2), some (.int a3), some (.ref (17 + 4 * (a1).toNatClampNeg))]) dX11_wayOf_30 rfl rfl ?_
      refine J.aload dX11_wayOf_32 rfl ?_
      refine J.callVP (k := (17 + 4 * (a1).toNatClampNeg)) (as := []) (rest := []) dX11_wayOf_34 kX8_isIn vX8_isIn lX11_148 (hT.sliceK (vp_lt hp3)) rfl rfl rfl rfl rfl (by omega) (Nat.le_refl _) (Nat.le_refl _) (qX8_isIn (d + 2) hT (a1).toNatClampNeg (vp_lt hp3) ) ?_
      refine J.bz_ne (tgt := 47) dX11_wayOf_37 (by decide) (fun hc4 => ?_) (fun hc4 => ?_)
      · have h := h.1 hc4
        refine J.iload_n dX11_wayOf_47 rfl rfl ?_
        refine J.if_eq (tgt := 67) dX11_wayOf_48 (by decide) (fun hc5 => ?_) (fun hc5 => ?_)
        · have h := h.1 hc5
          refine J.aload_n dX11_wayOf_67 rfl rfl ?_
          refine J.getR (r := 1) dX11_wayOf_68 fX11_15 (hT.k 0 rfl) rfl (hT.r 0 0 rfl rfl) ?_
          refine J.aload dX11_wayOf_71 rfl ?_
          refine J.getI dX11_wayOf_73 fX11_215 (hT.sliceK (vp_lt hp3)) rfl ?_
          refine J.iload_n dX11_wayOf_76 rfl rfl ?_
          refine J.if_eq (tgt := 91) dX11_wayOf_77 (by decide) (fun hc => ?_) (fun hc => absurd hc5 hc)
          refine J.aload dX11_wayOf_91 rfl ?_
          refine J.atpc (pc' := 93) rfl ?_
          refine J.getI dX11_wayOf_93 fX11_218 (hT.sliceK (vp_lt hp3)) rfl ?_
          refine J.callSP (as := [.int (I (17 + 4 * (a1).toNatClampNeg) 12)]) (rest := [.int (I (17 + 4 * (a1).toNatClampNeg) 1), .ref 1]) dX11_wayOf_96 kX11_wayIn vX11_wayIn lX11_224 rfl rfl rfl (by omega) (Nat.le_refl _) (Nat.le_refl _) (qX11_wayIn (d + 2) hT (I (17 + 4 * (a1).toNatClampNeg) 12) ) ?_
          refine J.iload_n dX11_wayOf_99 rfl rfl ?_
          obtain ⟨hp6, h⟩ := h
          refine J.callVP (k := 1) (as := [.int (I (17 + 4 * (a1).toNatClampNeg) 1), .int (jWayIn (I (17 + 4 * (a1).toNatClampNeg) 12)), .int a3]) (rest := []) dX11_wayOf_100 kX5_lineAlong vX5_lineAlong lX11_227 (hT.k 1 rfl) rfl rfl rfl rfl rfl (by omega) (Nat.le_refl _) (Nat.le_refl _) (qX5_lineAlong (d + 0) hT (I (17 + 4 * (a1).toNatClampNeg) 1) (jWayIn (I (17 + 4 * (a1).toNatClampNeg) 12)) a3 hp6) ?_
          exact J.iretQ dX11_wayOf_103 rfl (Nat.le_refl _) (Nat.le_refl _) h
        · have h := h.2 hc5
          refine J.aload dX11_wayOf_51 rfl ?_
          refine J.iconst (v := 1) dX11_wayOf_53 (by decide) ?_
          obtain ⟨hp7, h⟩ := h
          refine J.callVP (k := (17 + 4 * (a1).toNatClampNeg)) (as := [.int 1]) (rest := []) dX11_wayOf_54 kX8_isOf vX8_isOf lX11_160 (hT.sliceK (vp_lt hp3)) rfl rfl rfl rfl rfl (by omega) (Nat.le_refl _) (Nat.le_refl _) (qX8_isOf (d + 2) hT (a1).toNatClampNeg (vp_lt hp3) 1 hp7) ?_
          refine J.if_ne (tgt := 67) dX11_wayOf_57 (by decide) (fun hc8 => ?_) (fun hc8 => ?_)
          · have h := h.1 hc8
            refine J.aload_n dX11_wayOf_67 rfl rfl ?_
            refine J.getR (r := 1) dX11_wayOf_68 fX11_15 (hT.k 0 rfl) rfl (hT.r 0 0 rfl rfl) ?_
            refine J.aload dX11_wayOf_71 rfl ?_
            refine J.getI dX11_wayOf_73 fX11_215 (hT.sliceK (vp_lt hp3)) rfl ?_
            refine J.iload_n dX11_wayOf_76 rfl rfl ?_
            refine J.if_eq (tgt := 91) dX11_wayOf_77 (by decide) (fun hc => absurd hc hc5) (fun hc => ?_)
            refine J.aload dX11_wayOf_80 rfl ?_
            refine J.atpc (pc' := 82) rfl ?_
            refine J.getI dX11_wayOf_82 fX11_218 (hT.sliceK (vp_lt hp3)) rfl ?_
            refine J.callSP (as := [.int (I (17 + 4 * (a1).toNatClampNeg) 12)]) (rest := [.int (I (17 + 4 * (a1).toNatClampNeg) 1), .ref 1]) dX11_wayOf_85 kX11_spareOf vX11_spareOf lX11_221 rfl rfl rfl (by omega) (Nat.le_refl _) (Nat.le_refl _) (qX11_spareOf (d + 2) hT (I (17 + 4 * (a1).toNatClampNeg) 12) ) ?_
            refine J.goto (tgt := 99) dX11_wayOf_88 (by decide) ?_
            refine J.iload_n dX11_wayOf_99 rfl rfl ?_
            obtain ⟨hp9, h⟩ := h
            refine J.callVP (k := 1) (as := [.int (I (17 + 4 * (a1).toNatClampNeg) 1), .int (jSpareOf (I (17 + 4 * (a1).toNatClampNeg) 12)), .int a3]) (rest := []) dX11_wayOf_100 kX5_lineAlong vX5_lineAlong lX11_227 (hT.k 1 rfl) rfl rfl rfl rfl rfl (by omega) (Nat.le_refl _) (Nat.le_refl _) (qX5_lineAlong (d + 0) hT (I (17 + 4 * (a1).toNatClampNeg) 1) (jSpareOf (I (17 + 4 * (a1).toNatClampNeg) 12)) a3 hp9) ?_
            exact J.iretQ dX11_wayOf_103 rfl (Nat.le_refl _) (Nat.le_refl _) h
          · have h := h.2 hc8
            refine J.aload_n dX11_wayOf_60 rfl rfl ?_
            refine J.ldc (v := (-1000004)) dX11_wayOf_61 kcX11_163 ?_
            refine J.callVE (k := 0) (as := [.int (-1000004)]) (rest := []) dX11_wayOf_63 kX11_finding vX11_finding lX11_65 (hT.k 0 rfl) rfl rfl rfl rfl rfl (by omega) (Nat.le_refl _) (Nat.le_refl _) (qX11_finding (d + 2) hT (-1000004) ) ?_
            exact J.iretQ dX11_wayOf_66 rfl (Nat.le_refl _) (Nat.le_refl _) h
      · have h := h.2 hc4
        refine J.aload_n dX11_wayOf_40 rfl rfl ?_
        refine J.ldc (v := (-1000003)) dX11_wayOf_41 kcX11_152 ?_
        refine J.callVE (k := 0) (as := [.int (-1000003)]) (rest := []) dX11_wayOf_43 kX11_finding vX11_finding lX11_65 (hT.k 0 rfl) rfl rfl rfl rfl rfl (by omega) (Nat.le_refl _) (Nat.le_refl _) (qX11_finding (d + 2) hT (-1000003) ) ?_
        exact J.iretQ dX11_wayOf_46 rfl (Nat.le_refl _) (Nat.le_refl _) h
    · have h := h.2 hc2
      refine J.aload_n dX11_wayOf_15 rfl rfl ?_
      refine J.ldc (v := (-1000001)) dX11_wayOf_16 kcX11_64 ?_
      refine J.callVE (k := 0) (as := [.int (-1000001)]) (rest := []) dX11_wayOf_18 kX11_finding vX11_finding lX11_65 (hT.k 0 rfl) rfl rfl rfl rfl rfl (by omega) (Nat.le_refl _) (Nat.le_refl _) (qX11_finding (d + 2) hT (-1000001) ) ?_
      exact J.iretQ dX11_wayOf_21 rfl (Nat.le_refl _) (Nat.le_refl _) h
set_option maxHeartbeats 4000000 in
set_option maxRecDepth 100000 in
theorem wX11_wayOf (d : Nat) {T : Topo} (hT : Lay T) (a1 : Int32) (a2 : Int32) (a3 : Int32)   {Q : Int32 → Topo → IM → Prop} {I : IM} (h : fX11_wayOf_0 T a1 a2 a3 Q I) : Ct (d + 3) mX11_wayOf [.ref 0, .int a1, .int a2, .int a3] T I 0 0 (PI Q) :=
  Ct.ofJ (by decide +kernel) rfl (by intro v hv; revert v hv; simp [Value.category]) rfl (sX11_wayOf_0 d hT a1 a2 a3   I h)

def jX11_wayOf (I : IM) (a1 : Int32) (a2 : Int32) (a3 : Int32) : Int32 := (if hSl I a1 then (if 0 ≤ a3 then (if inS I (a1).toNatClampNeg then (if a2 = 0 then (jX5_lineAlong I (I (17 + 4 * (a1).toNatClampNeg) 1) (jWayIn (I (17 + 4 * (a1).toNatClampNeg) 12)) a3) else (if (jX8_isOf I (a1).toNatClampNeg 1) = 0 then (-1000004) else (jX5_lineAlong I (I (17 + 4 * (a1).toNatClampNeg) 1) (jSpareOf (I (17 + 4 * (a1).toNatClampNeg) 12)) a3))) else (-1000003)) else (-1000001)) else (-1000001))
def jX11_wayOfM (I : IM) (a1 : Int32) (a2 : Int32) (a3 : Int32) : IM := (if hSl I a1 then (if 0 ≤ a3 then (if inS I (a1).toNatClampNeg then (if a2 = 0 then I else (if (jX8_isOf I (a1).toNatClampNeg 1) = 0 then (fnd I) else I)) else (fnd I)) else (fnd I)) else (fnd I))
def jX11_wayOfK (I : IM) (a1 : Int32) (a2 : Int32) (a3 : Int32) : Prop := (((¬ (hSl I a1)) → True) ∧ ((hSl I a1) → (((0 ≤ a3) → ((vp_in a1 8) ∧ (((inS I (a1).toNatClampNeg) → (((a2 = 0) → ((jX5_lineAlongK I (I (17 + 4 * (a1).toNatClampNeg) 1) (jWayIn (I (17 + 4 * (a1).toNatClampNeg) 12)) a3))) ∧ ((¬ a2 = 0) → (((jX8_isOfK I (a1).toNatClampNeg 1)) ∧ (((¬ (jX8_isOf I (a1).toNatClampNeg 1) = 0) → ((jX5_lineAlongK I (I (17 + 4 * (a1).toNatClampNeg) 1) (jSpareOf (I (17 + 4 * (a1).toNatClampNeg) 12)) a3))) ∧ (((jX8_isOf I (a1).toNatClampNeg 1) = 0) → True)))))) ∧ ((¬ (inS I (a1).toNatClampNeg)) → True)))) ∧ ((¬ 0 ≤ a3) → True))))
set_option maxRecDepth 10000 in
theorem qX11_wayOf (d : Nat) {T : Topo} {I : IM} (hT : Lay T) (a1 : Int32) (a2 : Int32) (a3 : Int32)  (hp : (jX11_wayOfK I a1 a2 a3)) : CtI (d + 3) mX11_wayOf [.ref 0, .int a1, .int a2, .int a3] T I (fun x_ J_ => x_ = (jX11_wayOf I a1 a2 a3) ∧ J_ = (jX11_wayOfM I a1 a2 a3)) :=
  wX11_wayOf d hT a1 a2 a3   (by
  unfold fX11_wayOf_0
  exact ⟨fun hc1 => ⟨rfl, by unfold jX11_wayOf; rw [if_neg hc1], by unfold jX11_wayOfM; rw [if_neg hc1]⟩, fun hc1 => ⟨fun hc2 => ⟨(((hp).2 hc1).1 hc2).1, ⟨fun hc3 => ⟨fun hc4 => ⟨(((((hp).2 hc1).1 hc2).2).1 hc3).1 hc4, ⟨rfl, by unfold jX11_wayOf; rw [if_pos hc1, if_pos hc2, if_pos hc3, if_pos hc4], by unfold jX11_wayOfM; rw [if_pos hc1, if_pos hc2, if_pos hc3, if_pos hc4]⟩⟩, fun hc4 => ⟨((((((hp).2 hc1).1 hc2).2).1 hc3).2 hc4).1, ⟨fun hc5 => ⟨(((((((hp).2 hc1).1 hc2).2).1 hc3).2 hc4).2).1 hc5, ⟨rfl, by unfold jX11_wayOf; rw [if_pos hc1, if_pos hc2, if_pos hc3, if_neg hc4, if_neg hc5], by unfold jX11_wayOfM; rw [if_pos hc1, if_pos hc2, if_pos hc3, if_neg hc4, if_neg hc5]⟩⟩, fun hc5 => ⟨rfl, by unfold jX11_wayOf; rw [if_pos hc1, if_pos hc2, if_pos hc3, if_neg hc4, if_pos hc5], by unfold jX11_wayOfM; rw [if_pos hc1, if_pos hc2, if_pos hc3, if_neg hc4, if_pos hc5]⟩⟩⟩⟩, fun hc3 => ⟨rfl, by unfold jX11_wayOf; rw [if_pos hc1, if_pos hc2, if_neg hc3], by unfold jX11_wayOfM; rw [if_pos hc1, if_pos hc2, if_neg hc3]⟩⟩⟩, fun hc2 => ⟨rfl, by unfold jX11_wayOf; rw [if_pos hc1, if_neg hc2], by unfold jX11_wayOfM; rw [if_pos hc1, if_neg hc2]⟩⟩⟩)

def fX11_host_0 (T : Topo) (a1 : Int32) (Q : Int32 → Topo → IM → Prop)  (I : IM) : Prop :=
  ((((hSl I a1) → ((vp_in a1 8) ∧ ((((¬ (inS I (a1).toNatClampNeg)) → (Q (-1000003) T (fnd I))) ∧ ((inS I (a1).toNatClampNeg) → (Q (jHostOf (I (17 + 4 * (a1).toNatClampNeg) 12)) T I)))))) ∧ ((¬ (hSl I a1)) → (Q (-1000001) T (fnd I)))))
set_option maxHeartbeats 4000000 in
set_option maxRecDepth 100000 in
theorem sX11_host_0 (d : Nat) {T : Topo} (hT : Lay T) (a1 : Int32)    {Q : Int32 → Topo → IM → Prop}   (I : IM) (h : fX11_host_0 T a1 Q  I) : J (d + 1) mX11_host (PI Q) 0 0 0 [some (.ref 0), some (.int a1), none] [] T I 0 0 := by
  unfold fX11_host_0 at h
  refine J.aload_n dX11_host_0 rfl rfl ?_
  refine J.getR (r := 15) dX11_host_1 fX11_19 (hT.k 0 rfl) rfl (hT.r 0 1 rfl rfl) ?_
  refine J.iload_n dX11_host_4 rfl rfl ?_
  refine J.callVP (k := 15) (as := [.int a1]) (rest := []) dX11_host_5 kX9_hasSlice vX9_hasSlice lX11_136 (hT.k 15 rfl) rfl rfl rfl rfl rfl (by omega) (Nat.le_refl _) (Nat.le_refl _) (qX9_hasSlice (d + 0) hT a1 ) ?_
  refine J.bz_ne (tgt := 18) dX11_host_8 (by decide) (fun hc1 => ?_) (fun hc1 => ?_)
  · have h := h.1 hc1
    refine J.aload_n dX11_host_18 rfl rfl ?_
    refine J.getR (r := 15) dX11_host_19 fX11_19 (hT.k 0 rfl) rfl (hT.r 0 1 rfl rfl) ?_
    refine J.iload_n dX11_host_22 rfl rfl ?_
    obtain ⟨hp2, h⟩ := h
    refine J.callVF (r := (17 + 4 * (a1).toNatClampNeg)) (k := 15) (as := [.int a1]) (rest := []) dX11_host_23 kX9_at vX9_at lX11_139 (hT.k 15 rfl) rfl rfl rfl rfl rfl (by omega) (Nat.le_refl _) (Nat.le_refl _) (qX9_at (d + 0) hT a1 hp2) ?_
    refine J.astore_n (ls' := [some (.ref 0), some (.int a1), some (.ref (17 + 4 * (a1).toNatClampNeg))]) dX11_host_26 rfl rfl rfl ?_
    refine J.aload_n dX11_host_27 rfl rfl ?_
    refine J.callVP (k := (17 + 4 * (a1).toNatClampNeg)) (as := []) (rest := []) dX11_host_28 kX8_isIn vX8_isIn lX11_148 (hT.sliceK (vp_lt hp2)) rfl rfl rfl rfl rfl (by omega) (Nat.le_refl _) (Nat.le_refl _) (qX8_isIn (d + 0) hT (a1).toNatClampNeg (vp_lt hp2) ) ?_
    refine J.bz_eq (tgt := 44) dX11_host_31 (by decide) (fun hc3 => ?_) (fun hc3 => ?_)
    · have h := h.1 hc3
      refine J.aload_n dX11_host_44 rfl rfl ?_
      refine J.ldc (v := (-1000003)) dX11_host_45 kcX11_152 ?_
      refine J.callVE (k := 0) (as := [.int (-1000003)]) (rest := []) dX11_host_47 kX11_finding vX11_finding lX11_65 (hT.k 0 rfl) rfl rfl rfl rfl rfl (by omega) (Nat.le_refl _) (Nat.le_refl _) (qX11_finding (d + 0) hT (-1000003) ) ?_
      exact J.iretQ dX11_host_50 rfl (Nat.le_refl _) (Nat.le_refl _) h
    · have h := h.2 hc3
      refine J.aload_n dX11_host_34 rfl rfl ?_
      refine J.getI dX11_host_35 fX11_218 (hT.sliceK (vp_lt hp2)) rfl ?_
      refine J.callSP (as := [.int (I (17 + 4 * (a1).toNatClampNeg) 12)]) (rest := []) dX11_host_38 kX11_hostOf vX11_hostOf lX11_231 rfl rfl rfl (by omega) (Nat.le_refl _) (Nat.le_refl _) (qX11_hostOf (d + 0) hT (I (17 + 4 * (a1).toNatClampNeg) 12) ) ?_
      refine J.goto (tgt := 50) dX11_host_41 (by decide) ?_
      exact J.iretQ dX11_host_50 rfl (Nat.le_refl _) (Nat.le_refl _) h
  · have h := h.2 hc1
    refine J.aload_n dX11_host_11 rfl rfl ?_
    refine J.ldc (v := (-1000001)) dX11_host_12 kcX11_64 ?_
    refine J.callVE (k := 0) (as := [.int (-1000001)]) (rest := []) dX11_host_14 kX11_finding vX11_finding lX11_65 (hT.k 0 rfl) rfl rfl rfl rfl rfl (by omega) (Nat.le_refl _) (Nat.le_refl _) (qX11_finding (d + 0) hT (-1000001) ) ?_
    exact J.iretQ dX11_host_17 rfl (Nat.le_refl _) (Nat.le_refl _) h
set_option maxHeartbeats 4000000 in
set_option maxRecDepth 100000 in
theorem wX11_host (d : Nat) {T : Topo} (hT : Lay T) (a1 : Int32)   {Q : Int32 → Topo → IM → Prop} {I : IM} (h : fX11_host_0 T a1 Q I) : Ct (d + 1) mX11_host [.ref 0, .int a1] T I 0 0 (PI Q) :=
  Ct.ofJ (by decide +kernel) rfl (by intro v hv; revert v hv; simp [Value.category]) rfl (sX11_host_0 d hT a1   I h)

def jX11_host (I : IM) (a1 : Int32) : Int32 := (if hSl I a1 then (if inS I (a1).toNatClampNeg then (jHostOf (I (17 + 4 * (a1).toNatClampNeg) 12)) else (-1000003)) else (-1000001))
def jX11_hostM (I : IM) (a1 : Int32) : IM := (if hSl I a1 then (if inS I (a1).toNatClampNeg then I else (fnd I)) else (fnd I))
def jX11_hostK (I : IM) (a1 : Int32) : Prop := (((hSl I a1) → (vp_in a1 8)) ∧ ((¬ (hSl I a1)) → True))
set_option maxRecDepth 10000 in
theorem qX11_host (d : Nat) {T : Topo} {I : IM} (hT : Lay T) (a1 : Int32)  (hp : (jX11_hostK I a1)) : CtI (d + 1) mX11_host [.ref 0, .int a1] T I (fun x_ J_ => x_ = (jX11_host I a1) ∧ J_ = (jX11_hostM I a1)) :=
  wX11_host d hT a1   (by
  unfold fX11_host_0
  exact ⟨fun hc1 => ⟨(hp).1 hc1, ⟨fun hc2 => ⟨rfl, by unfold jX11_host; rw [if_pos hc1, if_neg hc2], by unfold jX11_hostM; rw [if_pos hc1, if_neg hc2]⟩, fun hc2 => ⟨rfl, by unfold jX11_host; rw [if_pos hc1, if_pos hc2], by unfold jX11_hostM; rw [if_pos hc1, if_pos hc2]⟩⟩⟩, fun hc1 => ⟨rfl, by unfold jX11_host; rw [if_neg hc1], by unfold jX11_hostM; rw [if_neg hc1]⟩⟩)

def fX11_load_0 (T : Topo) (a1 : Int32) (a2 : Int32) (Q : Int32 → Topo → IM → Prop)  (I : IM) : Prop :=
  ((((¬ (hL I a1)) → (Q (-1000001) T (fnd I))) ∧ ((hL I a1) → ((((¬ (wi a2 0 23)) → (Q (-1000001) T (fnd I))) ∧ ((wi a2 0 23) → (((jX0_loadAtK a1 a2)) ∧ Q (jX0_loadAt I 49 a1 a2) T I)))))))
set_option maxHeartbeats 4000000 in
set_option maxRecDepth 100000 in
theorem sX11_load_0 (d : Nat) {T : Topo} (hT : Lay T) (a1 : Int32) (a2 : Int32)    {Q : Int32 → Topo → IM → Prop}   (I : IM) (h : fX11_load_0 T a1 a2 Q  I) : J (d + 2) mX11_load (PI Q) 0 0 0 [some (.ref 0), some (.int a1), some (.int a2)] [] T I 0 0 := by
  unfold fX11_load_0 at h
  refine J.aload_n dX11_load_0 rfl rfl ?_
  refine J.getR (r := 1) dX11_load_1 fX11_15 (hT.k 0 rfl) rfl (hT.r 0 0 rfl rfl) ?_
  refine J.iload_n dX11_load_4 rfl rfl ?_
  refine J.callVP (k := 1) (as := [.int a1]) (rest := []) dX11_load_5 kX5_hasLine vX5_hasLine lX11_88 (hT.k 1 rfl) rfl rfl rfl rfl rfl (by omega) (Nat.le_refl _) (Nat.le_refl _) (qX5_hasLine (d + 1) hT a1 ) ?_
  refine J.bz_eq (tgt := 30) dX11_load_8 (by decide) (fun hc1 => ?_) (fun hc1 => ?_)
  · have h := h.1 hc1
    refine J.aload_n dX11_load_30 rfl rfl ?_
    refine J.ldc (v := (-1000001)) dX11_load_31 kcX11_64 ?_
    refine J.callVE (k := 0) (as := [.int (-1000001)]) (rest := []) dX11_load_33 kX11_finding vX11_finding lX11_65 (hT.k 0 rfl) rfl rfl rfl rfl rfl (by omega) (Nat.le_refl _) (Nat.le_refl _) (qX11_finding (d + 1) hT (-1000001) ) ?_
    exact J.iretQ dX11_load_36 rfl (Nat.le_refl _) (Nat.le_refl _) h
  · have h := h.2 hc1
    refine J.iload_n dX11_load_11 rfl rfl ?_
    refine J.callSP (as := [.int a2]) (rest := []) dX11_load_12 kX11_isTick vX11_isTick lX11_116 rfl rfl rfl (by omega) (Nat.le_refl _) (Nat.le_refl _) (qX11_isTick (d + 0) hT a2 ) ?_
    refine J.bz_eq (tgt := 30) dX11_load_15 (by decide) (fun hc2 => ?_) (fun hc2 => ?_)
    · have h := h.1 hc2
      refine J.aload_n dX11_load_30 rfl rfl ?_
      refine J.ldc (v := (-1000001)) dX11_load_31 kcX11_64 ?_
      refine J.callVE (k := 0) (as := [.int (-1000001)]) (rest := []) dX11_load_33 kX11_finding vX11_finding lX11_65 (hT.k 0 rfl) rfl rfl rfl rfl rfl (by omega) (Nat.le_refl _) (Nat.le_refl _) (qX11_finding (d + 1) hT (-1000001) ) ?_
      exact J.iretQ dX11_load_36 rfl (Nat.le_refl _) (Nat.le_refl _) h
    · have h := h.2 hc2
      refine J.aload_n dX11_load_18 rfl rfl ?_
      refine J.getR (r := 49) dX11_load_19 fX11_26 (hT.k 0 rfl) rfl (hT.r 0 2 rfl rfl) ?_
      refine J.iload_n dX11_load_22 rfl rfl ?_
      refine J.iload_n dX11_load_23 rfl rfl ?_
      obtain ⟨hp3, h⟩ := h
      refine J.callVP (k := 49) (as := [.int a1, .int a2]) (rest := []) dX11_load_24 kX0_loadAt vX0_loadAt lX11_234 (hT.k 49 rfl) rfl rfl rfl rfl rfl (by omega) (Nat.le_refl _) (Nat.le_refl _) (qX0_loadAt (d + 1) hT 49 (Or.inl rfl) a1 a2 hp3) ?_
      refine J.goto (tgt := 36) dX11_load_27 (by decide) ?_
      exact J.iretQ dX11_load_36 rfl (Nat.le_refl _) (Nat.le_refl _) h
set_option maxHeartbeats 4000000 in
set_option maxRecDepth 100000 in
theorem wX11_load (d : Nat) {T : Topo} (hT : Lay T) (a1 : Int32) (a2 : Int32)   {Q : Int32 → Topo → IM → Prop} {I : IM} (h : fX11_load_0 T a1 a2 Q I) : Ct (d + 2) mX11_load [.ref 0, .int a1, .int a2] T I 0 0 (PI Q) :=
  Ct.ofJ (by decide +kernel) rfl (by intro v hv; revert v hv; simp [Value.category]) rfl (sX11_load_0 d hT a1 a2   I h)

def jX11_load (I : IM) (a1 : Int32) (a2 : Int32) : Int32 := (if hL I a1 then (if wi a2 0 23 then (jX0_loadAt I 49 a1 a2) else (-1000001)) else (-1000001))
def jX11_loadM (I : IM) (a1 : Int32) (a2 : Int32) : IM := (if hL I a1 then (if wi a2 0 23 then I else (fnd I)) else (fnd I))
def jX11_loadK (I : IM) (a1 : Int32) (a2 : Int32) : Prop := (((¬ (hL I a1)) → True) ∧ ((hL I a1) → (((¬ (wi a2 0 23)) → True) ∧ ((wi a2 0 23) → ((jX0_loadAtK a1 a2))))))
set_option maxRecDepth 10000 in
theorem qX11_load (d : Nat) {T : Topo} {I : IM} (hT : Lay T) (a1 : Int32) (a2 : Int32)  (hp : (jX11_loadK I a1 a2)) : CtI (d + 2) mX11_load [.ref 0, .int a1, .int a2] T I (fun x_ J_ => x_ = (jX11_load I a1 a2) ∧ J_ = (jX11_loadM I a1 a2)) :=
  wX11_load d hT a1 a2   (by
  unfold fX11_load_0
  exact ⟨fun hc1 => ⟨rfl, by unfold jX11_load; rw [if_neg hc1], by unfold jX11_loadM; rw [if_neg hc1]⟩, fun hc1 => ⟨fun hc2 => ⟨rfl, by unfold jX11_load; rw [if_pos hc1, if_neg hc2], by unfold jX11_loadM; rw [if_pos hc1, if_neg hc2]⟩, fun hc2 => ⟨((hp).2 hc1).2 hc2, ⟨rfl, by unfold jX11_load; rw [if_pos hc1, if_pos hc2], by unfold jX11_loadM; rw [if_pos hc1, if_pos hc2]⟩⟩⟩⟩)

def fX11_fallRoom_0 (T : Topo) (a1 : Int32) (a2 : Int32) (Q : Int32 → Topo → IM → Prop)  (I : IM) : Prop :=
  ((((¬ (hL I a1)) → (Q (-1000001) T (fnd I))) ∧ ((hL I a1) → ((((¬ (wi a2 0 23)) → (Q (-1000001) T (fnd I))) ∧ ((wi a2 0 23) → (((jX0_fallAtK a1 a2)) ∧ Q (jX0_fallAt I 49 a1 a2) T I)))))))
set_option maxHeartbeats 4000000 in
set_option maxRecDepth 100000 in
theorem sX11_fallRoom_0 (d : Nat) {T : Topo} (hT : Lay T) (a1 : Int32) (a2 : Int32)    {Q : Int32 → Topo → IM → Prop}   (I : IM) (h : fX11_fallRoom_0 T a1 a2 Q  I) : J (d + 2) mX11_fallRoom (PI Q) 0 0 0 [some (.ref 0), some (.int a1), some (.int a2)] [] T I 0 0 := by
  unfold fX11_fallRoom_0 at h
  refine J.aload_n dX11_fallRoom_0 rfl rfl ?_
  refine J.getR (r := 1) dX11_fallRoom_1 fX11_15 (hT.k 0 rfl) rfl (hT.r 0 0 rfl rfl) ?_
  refine J.iload_n dX11_fallRoom_4 rfl rfl ?_
  refine J.callVP (k := 1) (as := [.int a1]) (rest := []) dX11_fallRoom_5 kX5_hasLine vX5_hasLine lX11_88 (hT.k 1 rfl) rfl rfl rfl rfl rfl (by omega) (Nat.le_refl _) (Nat.le_refl _) (qX5_hasLine (d + 1) hT a1 ) ?_
  refine J.bz_eq (tgt := 30) dX11_fallRoom_8 (by decide) (fun hc1 => ?_) (fun hc1 => ?_)
  · have h := h.1 hc1
    refine J.aload_n dX11_fallRoom_30 rfl rfl ?_
    refine J.ldc (v := (-1000001)) dX11_fallRoom_31 kcX11_64 ?_
    refine J.callVE (k := 0) (as := [.int (-1000001)]) (rest := []) dX11_fallRoom_33 kX11_finding vX11_finding lX11_65 (hT.k 0 rfl) rfl rfl rfl rfl rfl (by omega) (Nat.le_refl _) (Nat.le_refl _) (qX11_finding (d + 1) hT (-1000001) ) ?_
    exact J.iretQ dX11_fallRoom_36 rfl (Nat.le_refl _) (Nat.le_refl _) h
  · have h := h.2 hc1
    refine J.iload_n dX11_fallRoom_11 rfl rfl ?_
    refine J.callSP (as := [.int a2]) (rest := []) dX11_fallRoom_12 kX11_isTick vX11_isTick lX11_116 rfl rfl rfl (by omega) (Nat.le_refl _) (Nat.le_refl _) (qX11_isTick (d + 0) hT a2 ) ?_
    refine J.bz_eq (tgt := 30) dX11_fallRoom_15 (by decide) (fun hc2 => ?_) (fun hc2 => ?_)
    · have h := h.1 hc2
      refine J.aload_n dX11_fallRoom_30 rfl rfl ?_
      refine J.ldc (v := (-1000001)) dX11_fallRoom_31 kcX11_64 ?_
      refine J.callVE (k := 0) (as := [.int (-1000001)]) (rest := []) dX11_fallRoom_33 kX11_finding vX11_finding lX11_65 (hT.k 0 rfl) rfl rfl rfl rfl rfl (by omega) (Nat.le_refl _) (Nat.le_refl _) (qX11_finding (d + 1) hT (-1000001) ) ?_
      exact J.iretQ dX11_fallRoom_36 rfl (Nat.le_refl _) (Nat.le_refl _) h
    · have h := h.2 hc2
      refine J.aload_n dX11_fallRoom_18 rfl rfl ?_
      refine J.getR (r := 49) dX11_fallRoom_19 fX11_26 (hT.k 0 rfl) rfl (hT.r 0 2 rfl rfl) ?_
      refine J.iload_n dX11_fallRoom_22 rfl rfl ?_
      refine J.iload_n dX11_fallRoom_23 rfl rfl ?_
      obtain ⟨hp3, h⟩ := h
      refine J.callVP (k := 49) (as := [.int a1, .int a2]) (rest := []) dX11_fallRoom_24 kX0_fallAt vX0_fallAt lX11_237 (hT.k 49 rfl) rfl rfl rfl rfl rfl (by omega) (Nat.le_refl _) (Nat.le_refl _) (qX0_fallAt (d + 1) hT 49 (Or.inl rfl) a1 a2 hp3) ?_
      refine J.goto (tgt := 36) dX11_fallRoom_27 (by decide) ?_
      exact J.iretQ dX11_fallRoom_36 rfl (Nat.le_refl _) (Nat.le_refl _) h
set_option maxHeartbeats 4000000 in
set_option maxRecDepth 100000 in
theorem wX11_fallRoom (d : Nat) {T : Topo} (hT : Lay T) (a1 : Int32) (a2 : Int32)   {Q : Int32 → Topo → IM → Prop} {I : IM} (h : fX11_fallRoom_0 T a1 a2 Q I) : Ct (d + 2) mX11_fallRoom [.ref 0, .int a1, .int a2] T I 0 0 (PI Q) :=
  Ct.ofJ (by decide +kernel) rfl (by intro v hv; revert v hv; simp [Value.category]) rfl (sX11_fallRoom_0 d hT a1 a2   I h)

def jX11_fallRoom (I : IM) (a1 : Int32) (a2 : Int32) : Int32 := (if hL I a1 then (if wi a2 0 23 then (jX0_fallAt I 49 a1 a2) else (-1000001)) else (-1000001))
def jX11_fallRoomM (I : IM) (a1 : Int32) (a2 : Int32) : IM := (if hL I a1 then (if wi a2 0 23 then I else (fnd I)) else (fnd I))
def jX11_fallRoomK (I : IM) (a1 : Int32) (a2 : Int32) : Prop := (((¬ (hL I a1)) → True) ∧ ((hL I a1) → (((¬ (wi a2 0 23)) → True) ∧ ((wi a2 0 23) → ((jX0_fallAtK a1 a2))))))
set_option maxRecDepth 10000 in
theorem qX11_fallRoom (d : Nat) {T : Topo} {I : IM} (hT : Lay T) (a1 : Int32) (a2 : Int32)  (hp : (jX11_fallRoomK I a1 a2)) : CtI (d + 2) mX11_fallRoom [.ref 0, .int a1, .int a2] T I (fun x_ J_ => x_ = (jX11_fallRoom I a1 a2) ∧ J_ = (jX11_fallRoomM I a1 a2)) :=
  wX11_fallRoom d hT a1 a2   (by
  unfold fX11_fallRoom_0
  exact ⟨fun hc1 => ⟨rfl, by unfold jX11_fallRoom; rw [if_neg hc1], by unfold jX11_fallRoomM; rw [if_neg hc1]⟩, fun hc1 => ⟨fun hc2 => ⟨rfl, by unfold jX11_fallRoom; rw [if_pos hc1, if_neg hc2], by unfold jX11_fallRoomM; rw [if_pos hc1, if_neg hc2]⟩, fun hc2 => ⟨((hp).2 hc1).2 hc2, ⟨rfl, by unfold jX11_fallRoom; rw [if_pos hc1, if_pos hc2], by unfold jX11_fallRoomM; rw [if_pos hc1, if_pos hc2]⟩⟩⟩⟩)

def fX11_work_0 (T : Topo) (a1 : Int32) (a2 : Int32) (Q : Int32 → Topo → IM → Prop)  (I : IM) : Prop :=
  ((((¬ (hN I a1)) → (Q (-1000001) T (fnd I))) ∧ ((hN I a1) → ((((¬ (wi a2 0 23)) → (Q (-1000001) T (fnd I))) ∧ ((wi a2 0 23) → (((jX0_worksAtK a1 a2)) ∧ Q (jX0_worksAt I 49 a1 a2) T I)))))))
set_option maxHeartbeats 4000000 in
set_option maxRecDepth 100000 in
theorem sX11_work_0 (d : Nat) {T : Topo} (hT : Lay T) (a1 : Int32) (a2 : Int32)    {Q : Int32 → Topo → IM → Prop}   (I : IM) (h : fX11_work_0 T a1 a2 Q  I) : J (d + 2) mX11_work (PI Q) 0 0 0 [some (.ref 0), some (.int a1), some (.int a2)] [] T I 0 0 := by
  unfold fX11_work_0 at h
  refine J.aload_n dX11_work_0 rfl rfl ?_
  refine J.getR (r := 1) dX11_work_1 fX11_15 (hT.k 0 rfl) rfl (hT.r 0 0 rfl rfl) ?_
  refine J.iload_n dX11_work_4 rfl rfl ?_
  refine J.callVP (k := 1) (as := [.int a1]) (rest := []) dX11_work_5 kX5_hasNode vX5_hasNode lX11_240 (hT.k 1 rfl) rfl rfl rfl rfl rfl (by omega) (Nat.le_refl _) (Nat.le_refl _) (qX5_hasNode (d + 1) hT a1 ) ?_
  refine J.bz_eq (tgt := 30) dX11_work_8 (by decide) (fun hc1 => ?_) (fun hc1 => ?_)
  · have h := h.1 hc1
    refine J.aload_n dX11_work_30 rfl rfl ?_
    refine J.ldc (v := (-1000001)) dX11_work_31 kcX11_64 ?_
    refine J.callVE (k := 0) (as := [.int (-1000001)]) (rest := []) dX11_work_33 kX11_finding vX11_finding lX11_65 (hT.k 0 rfl) rfl rfl rfl rfl rfl (by omega) (Nat.le_refl _) (Nat.le_refl _) (qX11_finding (d + 1) hT (-1000001) ) ?_
    exact J.iretQ dX11_work_36 rfl (Nat.le_refl _) (Nat.le_refl _) h
  · have h := h.2 hc1
    refine J.iload_n dX11_work_11 rfl rfl ?_
    refine J.callSP (as := [.int a2]) (rest := []) dX11_work_12 kX11_isTick vX11_isTick lX11_116 rfl rfl rfl (by omega) (Nat.le_refl _) (Nat.le_refl _) (qX11_isTick (d + 0) hT a2 ) ?_
    refine J.bz_eq (tgt := 30) dX11_work_15 (by decide) (fun hc2 => ?_) (fun hc2 => ?_)
    · have h := h.1 hc2
      refine J.aload_n dX11_work_30 rfl rfl ?_
      refine J.ldc (v := (-1000001)) dX11_work_31 kcX11_64 ?_
      refine J.callVE (k := 0) (as := [.int (-1000001)]) (rest := []) dX11_work_33 kX11_finding vX11_finding lX11_65 (hT.k 0 rfl) rfl rfl rfl rfl rfl (by omega) (Nat.le_refl _) (Nat.le_refl _) (qX11_finding (d + 1) hT (-1000001) ) ?_
      exact J.iretQ dX11_work_36 rfl (Nat.le_refl _) (Nat.le_refl _) h
    · have h := h.2 hc2
      refine J.aload_n dX11_work_18 rfl rfl ?_
      refine J.getR (r := 49) dX11_work_19 fX11_26 (hT.k 0 rfl) rfl (hT.r 0 2 rfl rfl) ?_
      refine J.iload_n dX11_work_22 rfl rfl ?_
      refine J.iload_n dX11_work_23 rfl rfl ?_
      obtain ⟨hp3, h⟩ := h
      refine J.callVP (k := 49) (as := [.int a1, .int a2]) (rest := []) dX11_work_24 kX0_worksAt vX0_worksAt lX11_243 (hT.k 49 rfl) rfl rfl rfl rfl rfl (by omega) (Nat.le_refl _) (Nat.le_refl _) (qX0_worksAt (d + 1) hT 49 (Or.inl rfl) a1 a2 hp3) ?_
      refine J.goto (tgt := 36) dX11_work_27 (by decide) ?_
      exact J.iretQ dX11_work_36 rfl (Nat.le_refl _) (Nat.le_refl _) h
set_option maxHeartbeats 4000000 in
set_option maxRecDepth 100000 in
theorem wX11_work (d : Nat) {T : Topo} (hT : Lay T) (a1 : Int32) (a2 : Int32)   {Q : Int32 → Topo → IM → Prop} {I : IM} (h : fX11_work_0 T a1 a2 Q I) : Ct (d + 2) mX11_work [.ref 0, .int a1, .int a2] T I 0 0 (PI Q) :=
  Ct.ofJ (by decide +kernel) rfl (by intro v hv; revert v hv; simp [Value.category]) rfl (sX11_work_0 d hT a1 a2   I h)

def jX11_work (I : IM) (a1 : Int32) (a2 : Int32) : Int32 := (if hN I a1 then (if wi a2 0 23 then (jX0_worksAt I 49 a1 a2) else (-1000001)) else (-1000001))
def jX11_workM (I : IM) (a1 : Int32) (a2 : Int32) : IM := (if hN I a1 then (if wi a2 0 23 then I else (fnd I)) else (fnd I))
def jX11_workK (I : IM) (a1 : Int32) (a2 : Int32) : Prop := (((¬ (hN I a1)) → True) ∧ ((hN I a1) → (((¬ (wi a2 0 23)) → True) ∧ ((wi a2 0 23) → ((jX0_worksAtK a1 a2))))))
set_option maxRecDepth 10000 in
theorem qX11_work (d : Nat) {T : Topo} {I : IM} (hT : Lay T) (a1 : Int32) (a2 : Int32)  (hp : (jX11_workK I a1 a2)) : CtI (d + 2) mX11_work [.ref 0, .int a1, .int a2] T I (fun x_ J_ => x_ = (jX11_work I a1 a2) ∧ J_ = (jX11_workM I a1 a2)) :=
  wX11_work d hT a1 a2   (by
  unfold fX11_work_0
  exact ⟨fun hc1 => ⟨rfl, by unfold jX11_work; rw [if_neg hc1], by unfold jX11_workM; rw [if_neg hc1]⟩, fun hc1 => ⟨fun hc2 => ⟨rfl, by unfold jX11_work; rw [if_pos hc1, if_neg hc2], by unfold jX11_workM; rw [if_pos hc1, if_neg hc2]⟩, fun hc2 => ⟨((hp).2 hc1).2 hc2, ⟨rfl, by unfold jX11_work; rw [if_pos hc1, if_pos hc2], by unfold jX11_workM; rw [if_pos hc1, if_pos hc2]⟩⟩⟩⟩)

def fX11_spare_0 (T : Topo) (a1 : Int32) (Q : Int32 → Topo → IM → Prop) (K34 : Int32 → Int32 → IM → Prop) (I : IM) : Prop :=
  ((((hL I a1) → (((jX0_freeAtK a1 0)) ∧ K34 (jX0_freeAt I 49 a1 0) 1 I)) ∧ ((¬ (hL I a1)) → (Q (-1000001) T (fnd I)))))
def fX11_spare_34 (T : Topo) (a1 : Int32) (Q : Int32 → Topo → IM → Prop) (K34 : Int32 → Int32 → IM → Prop) (v2 v3 : Int32) (I : IM) : Prop :=
  (((24 ≤ v3) → Q v2 T I) ∧ ((¬ 24 ≤ v3) → (((jX0_freeAtK a1 v3)) ∧ (K34 (jMin v2 (jX0_freeAt I 49 a1 v3)) (v3 + 1) I))))
set_option maxHeartbeats 4000000 in
set_option maxRecDepth 100000 in
theorem sX11_spare_0 (d : Nat) {T : Topo} (hT : Lay T) (a1 : Int32)    {Q : Int32 → Topo → IM → Prop} {K34 : Int32 → Int32 → IM → Prop} (hK34 : ∀ (v2 v3 : Int32) (I : IM), K34 v2 v3 I → J (d + 2) mX11_spare (PI Q) 0 0 34 [some (.ref 0), some (.int a1), some (.int v2), some (.int v3)] [] T I 0 0) (I : IM) (h : fX11_spare_0 T a1 Q K34 I) : J (d + 2) mX11_spare (PI Q) 0 0 0 [some (.ref 0), some (.int a1), none, none] [] T I 0 0 := by
  unfold fX11_spare_0 at h
  refine J.aload_n dX11_spare_0 rfl rfl ?_
  refine J.getR (r := 1) dX11_spare_1 fX11_15 (hT.k 0 rfl) rfl (hT.r 0 0 rfl rfl) ?_
  refine J.iload_n dX11_spare_4 rfl rfl ?_
  refine J.callVP (k := 1) (as := [.int a1]) (rest := []) dX11_spare_5 kX5_hasLine vX5_hasLine lX11_88 (hT.k 1 rfl) rfl rfl rfl rfl rfl (by omega) (Nat.le_refl _) (Nat.le_refl _) (qX5_hasLine (d + 1) hT a1 ) ?_
  refine J.bz_ne (tgt := 18) dX11_spare_8 (by decide) (fun hc1 => ?_) (fun hc1 => ?_)
  · have h := h.1 hc1
    refine J.aload_n dX11_spare_18 rfl rfl ?_
    refine J.getR (r := 49) dX11_spare_19 fX11_26 (hT.k 0 rfl) rfl (hT.r 0 2 rfl rfl) ?_
    refine J.aload_n dX11_spare_22 rfl rfl ?_
    refine J.getR (r := 1) dX11_spare_23 fX11_15 (hT.k 0 rfl) rfl (hT.r 0 0 rfl rfl) ?_
    refine J.iload_n dX11_spare_26 rfl rfl ?_
    refine J.iconst (v := 0) dX11_spare_27 (by decide) ?_
    obtain ⟨hp2, h⟩ := h
    refine J.callVP (k := 49) (as := [.ref 1, .int a1, .int 0]) (rest := []) dX11_spare_28 kX0_freeAt vX0_freeAt lX11_246 (hT.k 49 rfl) rfl rfl rfl rfl rfl (by omega) (Nat.le_refl _) (Nat.le_refl _) (qX0_freeAt (d + 0) hT 49 (Or.inl rfl) a1 0 hp2) ?_
    refine J.istore_n (ls' := [some (.ref 0), some (.int a1), some (.int (jX0_freeAt I 49 a1 0)), none]) dX11_spare_31 rfl rfl rfl ?_
    refine J.iconst (v := 1) dX11_spare_32 (by decide) ?_
    refine J.istore_n (ls' := [some (.ref 0), some (.int a1), some (.int (jX0_freeAt I 49 a1 0)), some (.int 1)]) dX11_spare_33 rfl rfl rfl ?_
    exact J.weaken (ls' := [some (.ref 0), some (.int a1), some (.int (jX0_freeAt I 49 a1 0)), some (.int 1)]) (And.intro rfl (And.intro rfl (And.intro rfl (And.intro rfl trivial)))) (hK34 (jX0_freeAt I 49 a1 0) 1 I h)
  · have h := h.2 hc1
    refine J.aload_n dX11_spare_11 rfl rfl ?_
    refine J.ldc (v := (-1000001)) dX11_spare_12 kcX11_64 ?_
    refine J.callVE (k := 0) (as := [.int (-1000001)]) (rest := []) dX11_spare_14 kX11_finding vX11_finding lX11_65 (hT.k 0 rfl) rfl rfl rfl rfl rfl (by omega) (Nat.le_refl _) (Nat.le_refl _) (qX11_finding (d + 1) hT (-1000001) ) ?_
    exact J.iretQ dX11_spare_17 rfl (Nat.le_refl _) (Nat.le_refl _) h
set_option maxHeartbeats 4000000 in
set_option maxRecDepth 100000 in
theorem sX11_spare_34 (d : Nat) {T : Topo} (hT : Lay T) (a1 : Int32)    {Q : Int32 → Topo → IM → Prop} {K34 : Int32 → Int32 → IM → Prop} (hK34 : ∀ (v2 v3 : Int32) (I : IM), K34 v2 v3 I → J (d + 2) mX11_spare (PI Q) 0 0 34 [some (.ref 0), some (.int a1), some (.int v2), some (.int v3)] [] T I 0 0) (v2 v3 : Int32) (I : IM) (h : fX11_spare_34 T a1 Q K34 v2 v3 I) : J (d + 2) mX11_spare (PI Q) 0 0 34 [some (.ref 0), some (.int a1), some (.int v2), some (.int v3)] [] T I 0 0 := by
  unfold fX11_spare_34 at h
  refine J.iload_n dX11_spare_34 rfl rfl ?_
  refine J.bipush (v := 24) dX11_spare_35 (by decide) ?_
  refine J.icmp_ge (tgt := 64) dX11_spare_37 (by decide) (fun hc1 => ?_) (fun hc1 => ?_)
  · have h := h.1 hc1
    refine J.iload_n dX11_spare_64 rfl rfl ?_
    exact J.iretQ dX11_spare_65 rfl (Nat.le_refl _) (Nat.le_refl _) h
  · have h := h.2 hc1
    refine J.iload_n dX11_spare_40 rfl rfl ?_
    refine J.aload_n dX11_spare_41 rfl rfl ?_
    refine J.getR (r := 49) dX11_spare_42 fX11_26 (hT.k 0 rfl) rfl (hT.r 0 2 rfl rfl) ?_
    refine J.aload_n dX11_spare_45 rfl rfl ?_
    refine J.getR (r := 1) dX11_spare_46 fX11_15 (hT.k 0 rfl) rfl (hT.r 0 0 rfl rfl) ?_
    refine J.iload_n dX11_spare_49 rfl rfl ?_
    refine J.iload_n dX11_spare_50 rfl rfl ?_
    refine J.atpc (pc' := 51) rfl ?_
    obtain ⟨hp2, h⟩ := h
    refine J.callVP (k := 49) (as := [.ref 1, .int a1, .int v3]) (rest := [.int v2]) dX11_spare_51 kX0_freeAt vX0_freeAt lX11_246 (hT.k 49 rfl) rfl rfl rfl rfl rfl (by omega) (Nat.le_refl _) (Nat.le_refl _) (qX0_freeAt (d + 0) hT 49 (Or.inl rfl) a1 v3 hp2) ?_
    refine J.callSP (as := [.int v2, .int (jX0_freeAt I 49 a1 v3)]) (rest := []) dX11_spare_54 kJ9_min_7cf53 vJ9_min_7cf53 lX11_250 rfl rfl rfl (by omega) (Nat.le_refl _) (Nat.le_refl _) (qJ9_min_7cf53 (d + 1) hT v2 (jX0_freeAt I 49 a1 v3) ) ?_
    refine J.istore_n (ls' := [some (.ref 0), some (.int a1), some (.int (jMin v2 (jX0_freeAt I 49 a1 v3))), some (.int v3)]) dX11_spare_57 rfl rfl rfl ?_
    refine J.iinc (v := (v3 + 1)) (ls' := [some (.ref 0), some (.int a1), some (.int (jMin v2 (jX0_freeAt I 49 a1 v3))), some (.int (v3 + 1))]) dX11_spare_58 rfl (by rfl) rfl ?_
    refine J.goto (tgt := 34) dX11_spare_61 (by decide) ?_
    exact J.weaken (ls' := [some (.ref 0), some (.int a1), some (.int (jMin v2 (jX0_freeAt I 49 a1 v3))), some (.int (v3 + 1))]) (And.intro rfl (And.intro rfl (And.intro rfl (And.intro rfl trivial)))) (hK34 (jMin v2 (jX0_freeAt I 49 a1 v3)) (v3 + 1) I h)
set_option maxHeartbeats 4000000 in
set_option maxRecDepth 100000 in
theorem wX11_spare (d : Nat) {T : Topo} (hT : Lay T) (a1 : Int32)   {Q : Int32 → Topo → IM → Prop} (V34 : Int32 → Int32 → IM → Prop) (μ34 : Int32 → Int32 → IM → Nat) (vc34 : ∀ (v2 v3 : Int32) (I : IM), V34 v2 v3 I → fX11_spare_34 T a1 Q (fun w2 w3 I_ => V34 w2 w3 I_ ∧ μ34 w2 w3 I_ < μ34 v2 v3 I) v2 v3 I) {I : IM} (h : fX11_spare_0 T a1 Q V34 I) : Ct (d + 2) mX11_spare [.ref 0, .int a1] T I 0 0 (PI Q) := by
  have all : ∀ n : Nat, (∀ (v2 v3 : Int32) (I : IM), V34 v2 v3 I → μ34 v2 v3 I < n → J (d + 2) mX11_spare (PI Q) 0 0 34 [some (.ref 0), some (.int a1), some (.int v2), some (.int v3)] [] T I 0 0) := by
    intro n
    induction n with
    | zero => exact fun _ _ _ _ hn => absurd hn (Nat.not_lt_zero _)
    | succ n ih =>
      exact fun v2 v3 I hv hn => sX11_spare_34 d hT a1   (fun w2 w3 I_ hw => ih w2 w3 I_ hw.1 (by have := hw.2; omega)) v2 v3 I (vc34 v2 v3 I hv)
  exact Ct.ofJ (by decide +kernel) rfl (by intro v hv; revert v hv; simp [Value.category]) rfl (sX11_spare_0 d hT a1   (fun w2 w3 I_ hw => (all (μ34 w2 w3 I_ + 1)) w2 w3 I_ hw (Nat.lt_succ_self _)) I h)

def jX11_spareI (a1 : Int32) : Nat → Int32 → Int32 → IM → Int32 × IM
  | 0 => fun _ _ I => (0, I)
  | n + 1 => fun v2 v3 I => (if 24 ≤ v3 then (v2, I) else (jX11_spareI a1 n (jMin v2 (jX0_freeAt I 49 a1 v3)) (v3 + 1) I))
def jX11_spareO (a1 : Int32) : Nat → Int32 → Int32 → IM → Prop
  | 0 => fun _ _ _ => False
  | n + 1 => fun v2 v3 I => (((24 ≤ v3) → True) ∧ ((¬ 24 ≤ v3) → (((jX0_freeAtK a1 v3)) ∧ (jX11_spareO a1 n (jMin v2 (jX0_freeAt I 49 a1 v3)) (v3 + 1) I))))
theorem jX11_spareI_34 (a1 : Int32) (n : Nat) (v2 v3 : Int32) (I : IM) : jX11_spareI a1 (n + 1) v2 v3 I = (if 24 ≤ v3 then (v2, I) else (jX11_spareI a1 n (jMin v2 (jX0_freeAt I 49 a1 v3)) (v3 + 1) I)) := rfl
theorem jX11_spareO_34 (a1 : Int32) (n : Nat) (v2 v3 : Int32) (I : IM) : jX11_spareO a1 (n + 1) v2 v3 I = (((24 ≤ v3) → True) ∧ ((¬ 24 ≤ v3) → (((jX0_freeAtK a1 v3)) ∧ (jX11_spareO a1 n (jMin v2 (jX0_freeAt I 49 a1 v3)) (v3 + 1) I)))) := rfl
def jX11_spare (I : IM) (a1 : Int32) : Int32 × IM := (if hL I a1 then (jX11_spareI a1 FU (jX0_freeAt I 49 a1 0) 1 I) else ((-1000001), (fnd I)))
def jX11_spareK (I : IM) (a1 : Int32) : Prop := (((hL I a1) → (((jX0_freeAtK a1 0)) ∧ (jX11_spareO a1 FU (jX0_freeAt I 49 a1 0) 1 I))) ∧ ((¬ (hL I a1)) → True))
set_option maxRecDepth 10000 in
set_option maxHeartbeats 1000000 in
theorem uX11_spare (d : Nat) {T : Topo} (hT : Lay T) (a1 : Int32)   {R : Int32 × IM} : ∀ n : Nat, (∀ (v2 v3 : Int32) (I : IM), jX11_spareO a1 n v2 v3 I → jX11_spareI a1 n v2 v3 I = R → J (d + 2) mX11_spare (PI (fun x T' I' => T' = T ∧ x = R.1 ∧ I' = R.2)) 0 0 34 [some (.ref 0), some (.int a1), some (.int v2), some (.int v3)] [] T I 0 0) := by
  intro n
  induction n with
  | zero => exact fun _ _ _ hz => hz.elim
  | succ n ih =>
    exact fun v2 v3 I hok hit => by
        rw [jX11_spareO_34] at hok
        exact sX11_spare_34 d hT a1   (K34 := fun w2 w3 I_ => (jX11_spareO a1 n w2 w3 I_ ∧ jX11_spareI a1 n w2 w3 I_ = R)) (fun w2 w3 I_ hw => ih w2 w3 I_ hw.1 hw.2) v2 v3 I (by
          unfold fX11_spare_34
          exact ⟨fun hc1 => (by rw [jX11_spareI_34, if_pos hc1] at hit; exact ⟨rfl, by rw [← hit], by rw [← hit]⟩), fun hc1 => ⟨((hok).2 hc1).1, ⟨((hok).2 hc1).2, by rw [jX11_spareI_34, if_neg hc1] at hit; exact hit⟩⟩⟩)
set_option maxRecDepth 10000 in
set_option maxHeartbeats 1000000 in
theorem qX11_spare (d : Nat) {T : Topo} {I : IM} (hT : Lay T) (a1 : Int32)  (hp : (jX11_spareK I a1)) : CtI (d + 2) mX11_spare [.ref 0, .int a1] T I (fun x_ J_ => x_ = (jX11_spare I a1).1 ∧ J_ = (jX11_spare I a1).2) := by
  unfold jX11_spareK at hp
  exact Ct.ofJ (by decide +kernel) rfl (by intro v hv; revert v hv; simp [Value.category]) rfl (sX11_spare_0 d hT a1   (K34 := fun w2 w3 I_ => (jX11_spareO a1 FU w2 w3 I_ ∧ jX11_spareI a1 FU w2 w3 I_ = (jX11_spare I a1))) (fun w2 w3 I_ hw => uX11_spare d hT a1   FU w2 w3 I_ hw.1 hw.2) I (by
    unfold fX11_spare_0
    exact ⟨fun hc1 => ⟨((hp).1 hc1).1, ⟨((hp).1 hc1).2, by unfold jX11_spare; rw [if_pos hc1]⟩⟩, fun hc1 => ⟨rfl, by unfold jX11_spare; rw [if_neg hc1], by unfold jX11_spare; rw [if_neg hc1]⟩⟩))

def fX11_took_0 (T : Topo) (a1 : Int32) (Q : Int32 → Topo → IM → Prop) (K55 : Int32 → Int32 → Int32 → IM → Prop) (I : IM) : Prop :=
  (((a1 = (-1)) → K55 (I 1 5) 0 0 I) ∧ ((¬ a1 = (-1)) → ((((hL I a1) → K55 ((I 1 5) ||| ((1 : Int32) <<< (a1 &&& 31))) 0 0 I) ∧ ((¬ (hL I a1)) → (Q (-1000001) T (fnd I)))))))
def fX11_took_55 (T : Topo) (a1 : Int32) (Q : Int32 → Topo → IM → Prop) (K55 : Int32 → Int32 → Int32 → IM → Prop) (v2 v3 v4 : Int32) (I : IM) : Prop :=
  ((((I 15 1) ≤ v4) → Q v3 T I) ∧ ((¬ (I 15 1) ≤ v4) → ((vp_in v4 8) ∧ ((((¬ (inS I (v4).toNatClampNeg)) → K55 v2 v3 (v4 + 1) I) ∧ ((inS I (v4).toNatClampNeg) → ((((¬ (jX8_takenWay I (v4).toNatClampNeg v2) = 0) → K55 v2 v3 (v4 + 1) I) ∧ (((jX8_takenWay I (v4).toNatClampNeg v2) = 0) → K55 v2 (v3 ||| ((1 : Int32) <<< (v4 &&& 31))) (v4 + 1) I)))))))))
set_option maxHeartbeats 4000000 in
set_option maxRecDepth 100000 in
theorem sX11_took_0 (d : Nat) {T : Topo} (hT : Lay T) (a1 : Int32)    {Q : Int32 → Topo → IM → Prop} {K55 : Int32 → Int32 → Int32 → IM → Prop} (hK55 : ∀ (v2 v3 v4 : Int32) (I : IM), K55 v2 v3 v4 I → J (d + 2) mX11_took (PI Q) 0 0 55 [some (.ref 0), none, some (.int v2), some (.int v3), some (.int v4), none] [] T I 0 0) (I : IM) (h : fX11_took_0 T a1 Q K55 I) : J (d + 2) mX11_took (PI Q) 0 0 0 [some (.ref 0), some (.int a1), none, none, none, none] [] T I 0 0 := by
  unfold fX11_took_0 at h
  refine J.iload_n dX11_took_0 rfl rfl ?_
  refine J.iconst (v := (-1)) dX11_took_1 (by decide) ?_
  refine J.icmp_eq (tgt := 23) dX11_took_2 (by decide) (fun hc1 => ?_) (fun hc1 => ?_)
  · have h := h.1 hc1
    refine J.iload_n dX11_took_23 rfl rfl ?_
    refine J.iconst (v := (-1)) dX11_took_24 (by decide) ?_
    refine J.icmp_ne (tgt := 38) dX11_took_25 (by decide) (fun hc => absurd hc1 hc) (fun hc => ?_)
    refine J.aload_n dX11_took_28 rfl rfl ?_
    refine J.getR (r := 1) dX11_took_29 fX11_15 (hT.k 0 rfl) rfl (hT.r 0 0 rfl rfl) ?_
    refine J.getI dX11_took_32 fX11_255 (hT.k 1 rfl) rfl ?_
    refine J.goto (tgt := 49) dX11_took_35 (by decide) ?_
    refine J.atpc (pc' := 49) rfl ?_
    refine J.istore_n (ls' := [some (.ref 0), some (.int a1), some (.int (I 1 5)), none, none, none]) dX11_took_49 rfl rfl rfl ?_
    refine J.iconst (v := 0) dX11_took_50 (by decide) ?_
    refine J.istore_n (ls' := [some (.ref 0), some (.int a1), some (.int (I 1 5)), some (.int 0), none, none]) dX11_took_51 rfl rfl rfl ?_
    refine J.iconst (v := 0) dX11_took_52 (by decide) ?_
    refine J.istore (ls' := [some (.ref 0), some (.int a1), some (.int (I 1 5)), some (.int 0), some (.int 0), none]) dX11_took_53 rfl rfl ?_
    exact J.weaken (ls' := [some (.ref 0), none, some (.int (I 1 5)), some (.int 0), some (.int 0), none]) (And.intro rfl (And.intro rfl (And.intro rfl (And.intro rfl trivial)))) (hK55 (I 1 5) 0 0 I h)
  · have h := h.2 hc1
    refine J.aload_n dX11_took_5 rfl rfl ?_
    refine J.getR (r := 1) dX11_took_6 fX11_15 (hT.k 0 rfl) rfl (hT.r 0 0 rfl rfl) ?_
    refine J.iload_n dX11_took_9 rfl rfl ?_
    refine J.callVP (k := 1) (as := [.int a1]) (rest := []) dX11_took_10 kX5_hasLine vX5_hasLine lX11_88 (hT.k 1 rfl) rfl rfl rfl rfl rfl (by omega) (Nat.le_refl _) (Nat.le_refl _) (qX5_hasLine (d + 1) hT a1 ) ?_
    refine J.bz_ne (tgt := 23) dX11_took_13 (by decide) (fun hc2 => ?_) (fun hc2 => ?_)
    · have h := h.1 hc2
      refine J.iload_n dX11_took_23 rfl rfl ?_
      refine J.iconst (v := (-1)) dX11_took_24 (by decide) ?_
      refine J.icmp_ne (tgt := 38) dX11_took_25 (by decide) (fun hc => ?_) (fun hc => absurd hc hc1)
      refine J.aload_n dX11_took_38 rfl rfl ?_
      refine J.getR (r := 1) dX11_took_39 fX11_15 (hT.k 0 rfl) rfl (hT.r 0 0 rfl rfl) ?_
      refine J.getI dX11_took_42 fX11_255 (hT.k 1 rfl) rfl ?_
      refine J.iconst (v := 1) dX11_took_45 (by decide) ?_
      refine J.atpc (pc' := 46) rfl ?_
      refine J.iload_n dX11_took_46 rfl rfl ?_
      refine J.ishl dX11_took_47 ?_
      refine J.ior dX11_took_48 ?_
      refine J.istore_n (ls' := [some (.ref 0), some (.int a1), some (.int ((I 1 5) ||| ((1 : Int32) <<< (a1 &&& 31)))), none, none, none]) dX11_took_49 rfl rfl rfl ?_
      refine J.iconst (v := 0) dX11_took_50 (by decide) ?_
      refine J.istore_n (ls' := [some (.ref 0), some (.int a1), some (.int ((I 1 5) ||| ((1 : Int32) <<< (a1 &&& 31)))), some (.int 0), none, none]) dX11_took_51 rfl rfl rfl ?_
      refine J.iconst (v := 0) dX11_took_52 (by decide) ?_
      refine J.istore (ls' := [some (.ref 0), some (.int a1), some (.int ((I 1 5) ||| ((1 : Int32) <<< (a1 &&& 31)))), some (.int 0), some (.int 0), none]) dX11_took_53 rfl rfl ?_
      exact J.weaken (ls' := [some (.ref 0), none, some (.int ((I 1 5) ||| ((1 : Int32) <<< (a1 &&& 31)))), some (.int 0), some (.int 0), none]) (And.intro rfl (And.intro rfl (And.intro rfl (And.intro rfl trivial)))) (hK55 ((I 1 5) ||| ((1 : Int32) <<< (a1 &&& 31))) 0 0 I h)
    · have h := h.2 hc2
      refine J.aload_n dX11_took_16 rfl rfl ?_
      refine J.ldc (v := (-1000001)) dX11_took_17 kcX11_64 ?_
      refine J.callVE (k := 0) (as := [.int (-1000001)]) (rest := []) dX11_took_19 kX11_finding vX11_finding lX11_65 (hT.k 0 rfl) rfl rfl rfl rfl rfl (by omega) (Nat.le_refl _) (Nat.le_refl _) (qX11_finding (d + 1) hT (-1000001) ) ?_
      exact J.iretQ dX11_took_22 rfl (Nat.le_refl _) (Nat.le_refl _) h
set_option maxHeartbeats 4000000 in
set_option maxRecDepth 100000 in
theorem sX11_took_55 (d : Nat) {T : Topo} (hT : Lay T) (a1 : Int32)    {Q : Int32 → Topo → IM → Prop} {K55 : Int32 → Int32 → Int32 → IM → Prop} (hK55 : ∀ (v2 v3 v4 : Int32) (I : IM), K55 v2 v3 v4 I → J (d + 2) mX11_took (PI Q) 0 0 55 [some (.ref 0), none, some (.int v2), some (.int v3), some (.int v4), none] [] T I 0 0) (v2 v3 v4 : Int32) (I : IM) (h : fX11_took_55 T a1 Q K55 v2 v3 v4 I) : J (d + 2) mX11_took (PI Q) 0 0 55 [some (.ref 0), none, some (.int v2), some (.int v3), some (.int v4), none] [] T I 0 0 := by
  unfold fX11_took_55 at h
  refine J.iload dX11_took_55 rfl ?_
  refine J.aload_n dX11_took_57 rfl rfl ?_
  refine J.getR (r := 15) dX11_took_58 fX11_19 (hT.k 0 rfl) rfl (hT.r 0 1 rfl rfl) ?_
  refine J.getI dX11_took_61 fX11_132 (hT.k 15 rfl) rfl ?_
  refine J.icmp_ge (tgt := 108) dX11_took_64 (by decide) (fun hc1 => ?_) (fun hc1 => ?_)
  · have h := h.1 hc1
    refine J.iload_n dX11_took_108 rfl rfl ?_
    exact J.iretQ dX11_took_109 rfl (Nat.le_refl _) (Nat.le_refl _) h
  · have h := h.2 hc1
    refine J.aload_n dX11_took_67 rfl rfl ?_
    refine J.getR (r := 15) dX11_took_68 fX11_19 (hT.k 0 rfl) rfl (hT.r 0 1 rfl rfl) ?_
    refine J.iload dX11_took_71 rfl ?_
    obtain ⟨hp2, h⟩ := h
    refine J.callVF (r := (17 + 4 * (v4).toNatClampNeg)) (k := 15) (as := [.int v4]) (rest := []) dX11_took_73 kX9_at vX9_at lX11_139 (hT.k 15 rfl) rfl rfl rfl rfl rfl (by omega) (Nat.le_refl _) (Nat.le_refl _) (qX9_at (d + 1) hT v4 hp2) ?_
    refine J.astore (ls' := [some (.ref 0), none, some (.int v2), some (.int v3), some (.int v4), some (.ref (17 + 4 * (v4).toNatClampNeg))]) dX11_took_76 rfl rfl ?_
    refine J.aload dX11_took_78 rfl ?_
    refine J.callVP (k := (17 + 4 * (v4).toNatClampNeg)) (as := []) (rest := []) dX11_took_80 kX8_isIn vX8_isIn lX11_148 (hT.sliceK (vp_lt hp2)) rfl rfl rfl rfl rfl (by omega) (Nat.le_refl _) (Nat.le_refl _) (qX8_isIn (d + 1) hT (v4).toNatClampNeg (vp_lt hp2) ) ?_
    refine J.bz_eq (tgt := 102) dX11_took_83 (by decide) (fun hc3 => ?_) (fun hc3 => ?_)
    · have h := h.1 hc3
      refine J.iinc (v := (v4 + 1)) (ls' := [some (.ref 0), none, some (.int v2), some (.int v3), some (.int (v4 + 1)), some (.ref (17 + 4 * (v4).toNatClampNeg))]) dX11_took_102 rfl (by rfl) rfl ?_
      refine J.goto (tgt := 55) dX11_took_105 (by decide) ?_
      exact J.weaken (ls' := [some (.ref 0), none, some (.int v2), some (.int v3), some (.int (v4 + 1)), none]) (And.intro rfl (And.intro rfl (And.intro rfl (And.intro rfl trivial)))) (hK55 v2 v3 (v4 + 1) I h)
    · have h := h.2 hc3
      refine J.aload dX11_took_86 rfl ?_
      refine J.iload_n dX11_took_88 rfl rfl ?_
      refine J.callVP (k := (17 + 4 * (v4).toNatClampNeg)) (as := [.int v2]) (rest := []) dX11_took_89 kX8_takenWay vX8_takenWay lX11_258 (hT.sliceK (vp_lt hp2)) rfl rfl rfl rfl rfl (by omega) (Nat.le_refl _) (Nat.le_refl _) (qX8_takenWay (d + 0) hT (v4).toNatClampNeg (vp_lt hp2) v2 ) ?_
      refine J.if_ne (tgt := 102) dX11_took_92 (by decide) (fun hc4 => ?_) (fun hc4 => ?_)
      · have h := h.1 hc4
        refine J.iinc (v := (v4 + 1)) (ls' := [some (.ref 0), none, some (.int v2), some (.int v3), some (.int (v4 + 1)), some (.ref (17 + 4 * (v4).toNatClampNeg))]) dX11_took_102 rfl (by rfl) rfl ?_
        refine J.goto (tgt := 55) dX11_took_105 (by decide) ?_
        exact J.weaken (ls' := [some (.ref 0), none, some (.int v2), some (.int v3), some (.int (v4 + 1)), none]) (And.intro rfl (And.intro rfl (And.intro rfl (And.intro rfl trivial)))) (hK55 v2 v3 (v4 + 1) I h)
      · have h := h.2 hc4
        refine J.iload_n dX11_took_95 rfl rfl ?_
        refine J.iconst (v := 1) dX11_took_96 (by decide) ?_
        refine J.iload dX11_took_97 rfl ?_
        refine J.ishl dX11_took_99 ?_
        refine J.ior dX11_took_100 ?_
        refine J.istore_n (ls' := [some (.ref 0), none, some (.int v2), some (.int (v3 ||| ((1 : Int32) <<< (v4 &&& 31)))), some (.int v4), some (.ref (17 + 4 * (v4).toNatClampNeg))]) dX11_took_101 rfl rfl rfl ?_
        refine J.iinc (v := (v4 + 1)) (ls' := [some (.ref 0), none, some (.int v2), some (.int (v3 ||| ((1 : Int32) <<< (v4 &&& 31)))), some (.int (v4 + 1)), some (.ref (17 + 4 * (v4).toNatClampNeg))]) dX11_took_102 rfl (by rfl) rfl ?_
        refine J.atpc (pc' := 105) rfl ?_
        refine J.goto (tgt := 55) dX11_took_105 (by decide) ?_
        exact J.weaken (ls' := [some (.ref 0), none, some (.int v2), some (.int (v3 ||| ((1 : Int32) <<< (v4 &&& 31)))), some (.int (v4 + 1)), none]) (And.intro rfl (And.intro rfl (And.intro rfl (And.intro rfl trivial)))) (hK55 v2 (v3 ||| ((1 : Int32) <<< (v4 &&& 31))) (v4 + 1) I h)
set_option maxHeartbeats 4000000 in
set_option maxRecDepth 100000 in
theorem wX11_took (d : Nat) {T : Topo} (hT : Lay T) (a1 : Int32)   {Q : Int32 → Topo → IM → Prop} (V55 : Int32 → Int32 → Int32 → IM → Prop) (μ55 : Int32 → Int32 → Int32 → IM → Nat) (vc55 : ∀ (v2 v3 v4 : Int32) (I : IM), V55 v2 v3 v4 I → fX11_took_55 T a1 Q (fun w2 w3 w4 I_ => V55 w2 w3 w4 I_ ∧ μ55 w2 w3 w4 I_ < μ55 v2 v3 v4 I) v2 v3 v4 I) {I : IM} (h : fX11_took_0 T a1 Q V55 I) : Ct (d + 2) mX11_took [.ref 0, .int a1] T I 0 0 (PI Q) := by
  have all : ∀ n : Nat, (∀ (v2 v3 v4 : Int32) (I : IM), V55 v2 v3 v4 I → μ55 v2 v3 v4 I < n → J (d + 2) mX11_took (PI Q) 0 0 55 [some (.ref 0), none, some (.int v2), some (.int v3), some (.int v4), none] [] T I 0 0) := by
    intro n
    induction n with
    | zero => exact fun _ _ _ _ _ hn => absurd hn (Nat.not_lt_zero _)
    | succ n ih =>
      exact fun v2 v3 v4 I hv hn => sX11_took_55 d hT a1   (fun w2 w3 w4 I_ hw => ih w2 w3 w4 I_ hw.1 (by have := hw.2; omega)) v2 v3 v4 I (vc55 v2 v3 v4 I hv)
  exact Ct.ofJ (by decide +kernel) rfl (by intro v hv; revert v hv; simp [Value.category]) rfl (sX11_took_0 d hT a1   (fun w2 w3 w4 I_ hw => (all (μ55 w2 w3 w4 I_ + 1)) w2 w3 w4 I_ hw (Nat.lt_succ_self _)) I h)

def jX11_tookI (a1 : Int32) : Nat → Int32 → Int32 → Int32 → IM → Int32 × IM
  | 0 => fun _ _ _ I => (0, I)
  | n + 1 => fun v2 v3 v4 I => (if (I 15 1) ≤ v4 then (v3, I) else (if inS I (v4).toNatClampNeg then (if (jX8_takenWay I (v4).toNatClampNeg v2) = 0 then (jX11_tookI a1 n v2 (v3 ||| ((1 : Int32) <<< (v4 &&& 31))) (v4 + 1) I) else (jX11_tookI a1 n v2 v3 (v4 + 1) I)) else (jX11_tookI a1 n v2 v3 (v4 + 1) I)))
def jX11_tookO (a1 : Int32) : Nat → Int32 → Int32 → Int32 → IM → Prop
  | 0 => fun _ _ _ _ => False
  | n + 1 => fun v2 v3 v4 I => ((((I 15 1) ≤ v4) → True) ∧ ((¬ (I 15 1) ≤ v4) → ((vp_in v4 8) ∧ (((¬ (inS I (v4).toNatClampNeg)) → (jX11_tookO a1 n v2 v3 (v4 + 1) I)) ∧ ((inS I (v4).toNatClampNeg) → (((¬ (jX8_takenWay I (v4).toNatClampNeg v2) = 0) → (jX11_tookO a1 n v2 v3 (v4 + 1) I)) ∧ (((jX8_takenWay I (v4).toNatClampNeg v2) = 0) → (jX11_tookO a1 n v2 (v3 ||| ((1 : Int32) <<< (v4 &&& 31))) (v4 + 1) I))))))))
theorem jX11_tookI_55 (a1 : Int32) (n : Nat) (v2 v3 v4 : Int32) (I : IM) : jX11_tookI a1 (n + 1) v2 v3 v4 I = (if (I 15 1) ≤ v4 then (v3, I) else (if inS I (v4).toNatClampNeg then (if (jX8_takenWay I (v4).toNatClampNeg v2) = 0 then (jX11_tookI a1 n v2 (v3 ||| ((1 : Int32) <<< (v4 &&& 31))) (v4 + 1) I) else (jX11_tookI a1 n v2 v3 (v4 + 1) I)) else (jX11_tookI a1 n v2 v3 (v4 + 1) I))) := rfl
theorem jX11_tookO_55 (a1 : Int32) (n : Nat) (v2 v3 v4 : Int32) (I : IM) : jX11_tookO a1 (n + 1) v2 v3 v4 I = ((((I 15 1) ≤ v4) → True) ∧ ((¬ (I 15 1) ≤ v4) → ((vp_in v4 8) ∧ (((¬ (inS I (v4).toNatClampNeg)) → (jX11_tookO a1 n v2 v3 (v4 + 1) I)) ∧ ((inS I (v4).toNatClampNeg) → (((¬ (jX8_takenWay I (v4).toNatClampNeg v2) = 0) → (jX11_tookO a1 n v2 v3 (v4 + 1) I)) ∧ (((jX8_takenWay I (v4).toNatClampNeg v2) = 0) → (jX11_tookO a1 n v2 (v3 ||| ((1 : Int32) <<< (v4 &&& 31))) (v4 + 1) I)))))))) := rfl
def jX11_took (I : IM) (a1 : Int32) : Int32 × IM := (if a1 = (-1) then (jX11_tookI a1 FU (I 1 5) 0 0 I) else (if hL I a1 then (jX11_tookI a1 FU ((I 1 5) ||| ((1 : Int32) <<< (a1 &&& 31))) 0 0 I) else ((-1000001), (fnd I))))
def jX11_tookK (I : IM) (a1 : Int32) : Prop := (((a1 = (-1)) → (jX11_tookO a1 FU (I 1 5) 0 0 I)) ∧ ((¬ a1 = (-1)) → (((hL I a1) → (jX11_tookO a1 FU ((I 1 5) ||| ((1 : Int32) <<< (a1 &&& 31))) 0 0 I)) ∧ ((¬ (hL I a1)) → True))))
set_option maxRecDepth 10000 in
set_option maxHeartbeats 1000000 in
theorem uX11_took (d : Nat) {T : Topo} (hT : Lay T) (a1 : Int32)   {R : Int32 × IM} : ∀ n : Nat, (∀ (v2 v3 v4 : Int32) (I : IM), jX11_tookO a1 n v2 v3 v4 I → jX11_tookI a1 n v2 v3 v4 I = R → J (d + 2) mX11_took (PI (fun x T' I' => T' = T ∧ x = R.1 ∧ I' = R.2)) 0 0 55 [some (.ref 0), none, some (.int v2), some (.int v3), some (.int v4), none] [] T I 0 0) := by
  intro n
  induction n with
  | zero => exact fun _ _ _ _ hz => hz.elim
  | succ n ih =>
    exact fun v2 v3 v4 I hok hit => by
        rw [jX11_tookO_55] at hok
        exact sX11_took_55 d hT a1   (K55 := fun w2 w3 w4 I_ => (jX11_tookO a1 n w2 w3 w4 I_ ∧ jX11_tookI a1 n w2 w3 w4 I_ = R)) (fun w2 w3 w4 I_ hw => ih w2 w3 w4 I_ hw.1 hw.2) v2 v3 v4 I (by
          unfold fX11_took_55
          exact ⟨fun hc1 => (by rw [jX11_tookI_55, if_pos hc1] at hit; exact ⟨rfl, by rw [← hit], by rw [← hit]⟩), fun hc1 => ⟨((hok).2 hc1).1, ⟨fun hc2 => ⟨(((hok).2 hc1).2).1 hc2, by rw [jX11_tookI_55, if_neg hc1, if_neg hc2] at hit; exact hit⟩, fun hc2 => ⟨fun hc3 => ⟨((((hok).2 hc1).2).2 hc2).1 hc3, by rw [jX11_tookI_55, if_neg hc1, if_pos hc2, if_neg hc3] at hit; exact hit⟩, fun hc3 => ⟨((((hok).2 hc1).2).2 hc2).2 hc3, by rw [jX11_tookI_55, if_neg hc1, if_pos hc2, if_pos hc3] at hit; exact hit⟩⟩⟩⟩⟩)
set_option maxRecDepth 10000 in
set_option maxHeartbeats 1000000 in
theorem qX11_took (d : Nat) {T : Topo} {I : IM} (hT : Lay T) (a1 : Int32)  (hp : (jX11_tookK I a1)) : CtI (d + 2) mX11_took [.ref 0, .int a1] T I (fun x_ J_ => x_ = (jX11_took I a1).1 ∧ J_ = (jX11_took I a1).2) := by
  unfold jX11_tookK at hp
  exact Ct.ofJ (by decide +kernel) rfl (by intro v hv; revert v hv; simp [Value.category]) rfl (sX11_took_0 d hT a1   (K55 := fun w2 w3 w4 I_ => (jX11_tookO a1 FU w2 w3 w4 I_ ∧ jX11_tookI a1 FU w2 w3 w4 I_ = (jX11_took I a1))) (fun w2 w3 w4 I_ hw => uX11_took d hT a1   FU w2 w3 w4 I_ hw.1 hw.2) I (by
    unfold fX11_took_0
    exact ⟨fun hc1 => ⟨(hp).1 hc1, by unfold jX11_took; rw [if_pos hc1]⟩, fun hc1 => ⟨fun hc2 => ⟨((hp).2 hc1).1 hc2, by unfold jX11_took; rw [if_neg hc1, if_pos hc2]⟩, fun hc2 => ⟨rfl, by unfold jX11_took; rw [if_neg hc1, if_neg hc2], by unfold jX11_took; rw [if_neg hc1, if_neg hc2]⟩⟩⟩))

def fX11_takeOver_0 (T : Topo) (a1 : Int32) (Q : Int32 → Topo → IM → Prop) (K4 : Int32 → Int32 → IM → Prop) (K87 : Int32 → Int32 → IM → Prop) (I : IM) : Prop :=
  K4 0 0 I
def fX11_takeOver_4 (T : Topo) (a1 : Int32) (Q : Int32 → Topo → IM → Prop) (K4 : Int32 → Int32 → IM → Prop) (K87 : Int32 → Int32 → IM → Prop) (v2 v3 : Int32) (I : IM) : Prop :=
  ((((I 15 1) ≤ v3) → K87 v2 0 I) ∧ ((¬ (I 15 1) ≤ v3) → ((vp_in v3 8) ∧ ((((¬ (inS I (v3).toNatClampNeg)) → K4 v2 (v3 + 1) I) ∧ ((inS I (v3).toNatClampNeg) → ((((¬ (hs a1 v3)) → (((¬ 0 = (I (17 + 4 * (v3).toNatClampNeg) 12)) → (((jX11_goOutK I (v3).toNatClampNeg)) ∧ K4 (v2 + 1) (v3 + 1) (jX11_goOutM I (v3).toNatClampNeg))) ∧ ((0 = (I (17 + 4 * (v3).toNatClampNeg) 12)) → (((jX11_goOutK I (v3).toNatClampNeg)) ∧ K4 (v2 + 0) (v3 + 1) (jX11_goOutM I (v3).toNatClampNeg))))) ∧ ((hs a1 v3) → (((jX3_placeGotK v3)) ∧ (((¬ (jX3_placeGot I v3) = (I (17 + 4 * (v3).toNatClampNeg) 12)) → (((jX11_goOutK I (v3).toNatClampNeg)) ∧ K4 (v2 + 1) (v3 + 1) (jX11_goOutM I (v3).toNatClampNeg))) ∧ (((jX3_placeGot I v3) = (I (17 + 4 * (v3).toNatClampNeg) 12)) → (((jX11_goOutK I (v3).toNatClampNeg)) ∧ K4 (v2 + 0) (v3 + 1) (jX11_goOutM I (v3).toNatClampNeg))))))))))))))
def fX11_takeOver_87 (T : Topo) (a1 : Int32) (Q : Int32 → Topo → IM → Prop) (K4 : Int32 → Int32 → IM → Prop) (K87 : Int32 → Int32 → IM → Prop) (v2 v3 : Int32) (I : IM) : Prop :=
  ((((I 15 1) ≤ v3) → Q v2 T I) ∧ ((¬ (I 15 1) ≤ v3) → ((((¬ (hs a1 v3)) → K87 v2 (v3 + 1) I) ∧ ((hs a1 v3) → ((vp_in v3 8) ∧ (((jX3_placeGotK v3)) ∧ (((jX11_comeInK I (v3).toNatClampNeg (jX3_placeGot I v3))) ∧ K87 v2 (v3 + 1) (jX11_comeInM I (v3).toNatClampNeg (jX3_placeGot I v3))))))))))
set_option maxHeartbeats 4000000 in
set_option maxRecDepth 100000 in
theorem sX11_takeOver_0 (d : Nat) {T : Topo} (hT : Lay T) (a1 : Int32)    {Q : Int32 → Topo → IM → Prop} {K4 : Int32 → Int32 → IM → Prop} {K87 : Int32 → Int32 → IM → Prop} (hK4 : ∀ (v2 v3 : Int32) (I : IM), K4 v2 v3 I → J (d + 5) mX11_takeOver (PI Q) 0 0 4 [some (.ref 0), some (.int a1), some (.int v2), some (.int v3), none, none] [] T I 0 0) (hK87 : ∀ (v2 v3 : Int32) (I : IM), K87 v2 v3 I → J (d + 5) mX11_takeOver (PI Q) 0 0 87 [some (.ref 0), some (.int a1), some (.int v2), some (.int v3), none, none] [] T I 0 0) (I : IM) (h : fX11_takeOver_0 T a1 Q K4 K87 I) : J (d + 5) mX11_takeOver (PI Q) 0 0 0 [some (.ref 0), some (.int a1), none, none, none, none] [] T I 0 0 := by
  unfold fX11_takeOver_0 at h
  refine J.iconst (v := 0) dX11_takeOver_0 (by decide) ?_
  refine J.istore_n (ls' := [some (.ref 0), some (.int a1), some (.int 0), none, none, none]) dX11_takeOver_1 rfl rfl rfl ?_
  refine J.iconst (v := 0) dX11_takeOver_2 (by decide) ?_
  refine J.istore_n (ls' := [some (.ref 0), some (.int a1), some (.int 0), some (.int 0), none, none]) dX11_takeOver_3 rfl rfl rfl ?_
  exact J.weaken (ls' := [some (.ref 0), some (.int a1), some (.int 0), some (.int 0), none, none]) (And.intro rfl (And.intro rfl (And.intro rfl (And.intro rfl trivial)))) (hK4 0 0 I h)
set_option maxHeartbeats 4000000 in
set_option maxRecDepth 100000 in
theorem sX11_takeOver_4 (d : Nat) {T : Topo} (hT : Lay T) (a1 : Int32)    {Q : Int32 → Topo → IM → Prop} {K4 : Int32 → Int32 → IM → Prop} {K87 : Int32 → Int32 → IM → Prop} (hK4 : ∀ (v2 v3 : Int32) (I : IM), K4 v2 v3 I → J (d + 5) mX11_takeOver (PI Q) 0 0 4 [some (.ref 0), some (.int a1), some (.int v2), some (.int v3), none, none] [] T I 0 0) (hK87 : ∀ (v2 v3 : Int32) (I : IM), K87 v2 v3 I → J (d + 5) mX11_takeOver (PI Q) 0 0 87 [some (.ref 0), some (.int a1), some (.int v2), some (.int v3), none, none] [] T I 0 0) (v2 v3 : Int32) (I : IM) (h : fX11_takeOver_4 T a1 Q K4 K87 v2 v3 I) : J (d + 5) mX11_takeOver (PI Q) 0 0 4 [some (.ref 0), some (.int a1), some (.int v2), some (.int v3), none, none] [] T I 0 0 := by
  unfold fX11_takeOver_4 at h
  refine J.iload_n dX11_takeOver_4 rfl rfl ?_
  refine J.aload_n dX11_takeOver_5 rfl rfl ?_
  refine J.getR (r := 15) dX11_takeOver_6 fX11_19 (hT.k 0 rfl) rfl (hT.r 0 1 rfl rfl) ?_
  refine J.getI dX11_takeOver_9 fX11_132 (hT.k 15 rfl) rfl ?_
  refine J.icmp_ge (tgt := 85) dX11_takeOver_12 (by decide) (fun hc1 => ?_) (fun hc1 => ?_)
  · have h := h.1 hc1
    refine J.iconst (v := 0) dX11_takeOver_85 (by decide) ?_
    refine J.istore_n (ls' := [some (.ref 0), some (.int a1), some (.int v2), some (.int 0), none, none]) dX11_takeOver_86 rfl rfl rfl ?_
    exact J.weaken (ls' := [some (.ref 0), some (.int a1), some (.int v2), some (.int 0), none, none]) (And.intro rfl (And.intro rfl (And.intro rfl (And.intro rfl trivial)))) (hK87 v2 0 I h)
  · have h := h.2 hc1
    refine J.aload_n dX11_takeOver_15 rfl rfl ?_
    refine J.getR (r := 15) dX11_takeOver_16 fX11_19 (hT.k 0 rfl) rfl (hT.r 0 1 rfl rfl) ?_
    refine J.iload_n dX11_takeOver_19 rfl rfl ?_
    obtain ⟨hp2, h⟩ := h
    refine J.callVF (r := (17 + 4 * (v3).toNatClampNeg)) (k := 15) (as := [.int v3]) (rest := []) dX11_takeOver_20 kX9_at vX9_at lX11_139 (hT.k 15 rfl) rfl rfl rfl rfl rfl (by omega) (Nat.le_refl _) (Nat.le_refl _) (qX9_at (d + 4) hT v3 hp2) ?_
    refine J.astore (ls' := [some (.ref 0), some (.int a1), some (.int v2), some (.int v3), some (.ref (17 + 4 * (v3).toNatClampNeg)), none]) dX11_takeOver_23 rfl rfl ?_
    refine J.aload dX11_takeOver_25 rfl ?_
    refine J.callVP (k := (17 + 4 * (v3).toNatClampNeg)) (as := []) (rest := []) dX11_takeOver_27 kX8_isIn vX8_isIn lX11_148 (hT.sliceK (vp_lt hp2)) rfl rfl rfl rfl rfl (by omega) (Nat.le_refl _) (Nat.le_refl _) (qX8_isIn (d + 4) hT (v3).toNatClampNeg (vp_lt hp2) ) ?_
    refine J.bz_eq (tgt := 79) dX11_takeOver_30 (by decide) (fun hc3 => ?_) (fun hc3 => ?_)
    · have h := h.1 hc3
      refine J.iinc (v := (v3 + 1)) (ls' := [some (.ref 0), some (.int a1), some (.int v2), some (.int (v3 + 1)), some (.ref (17 + 4 * (v3).toNatClampNeg)), none]) dX11_takeOver_79 rfl (by rfl) rfl ?_
      refine J.goto (tgt := 4) dX11_takeOver_82 (by decide) ?_
      exact J.weaken (ls' := [some (.ref 0), some (.int a1), some (.int v2), some (.int (v3 + 1)), none, none]) (And.intro rfl (And.intro rfl (And.intro rfl (And.intro rfl trivial)))) (hK4 v2 (v3 + 1) I h)
    · have h := h.2 hc3
      refine J.iload_n dX11_takeOver_33 rfl rfl ?_
      refine J.iload_n dX11_takeOver_34 rfl rfl ?_
      refine J.callSP (as := [.int a1, .int v3]) (rest := []) dX11_takeOver_35 kX11_has vX11_has lX11_362 rfl rfl rfl (by omega) (Nat.le_refl _) (Nat.le_refl _) (qX11_has (d + 4) hT a1 v3 ) ?_
      refine J.bz_eq (tgt := 52) dX11_takeOver_38 (by decide) (fun hc4 => ?_) (fun hc4 => ?_)
      · have h := h.1 hc4
        refine J.iconst (v := 0) dX11_takeOver_52 (by decide) ?_
        refine J.istore (ls' := [some (.ref 0), some (.int a1), some (.int v2), some (.int v3), some (.ref (17 + 4 * (v3).toNatClampNeg)), some (.int 0)]) dX11_takeOver_53 rfl rfl ?_
        refine J.iload_n dX11_takeOver_55 rfl rfl ?_
        refine J.iload dX11_takeOver_56 rfl ?_
        refine J.aload dX11_takeOver_58 rfl ?_
        refine J.getI dX11_takeOver_60 fX11_218 (hT.sliceK (vp_lt hp2)) rfl ?_
        refine J.icmp_ne (tgt := 70) dX11_takeOver_63 (by decide) (fun hc5 => ?_) (fun hc5 => ?_)
        · have h := h.1 hc5
          refine J.iconst (v := 1) dX11_takeOver_70 (by decide) ?_
          refine J.iadd dX11_takeOver_71 ?_
          refine J.istore_n (ls' := [some (.ref 0), some (.int a1), some (.int (v2 + 1)), some (.int v3), some (.ref (17 + 4 * (v3).toNatClampNeg)), some (.int 0)]) dX11_takeOver_72 rfl rfl rfl ?_
          refine J.aload_n dX11_takeOver_73 rfl rfl ?_
          refine J.aload dX11_takeOver_74 rfl ?_
          obtain ⟨hp6, h⟩ := h
          refine J.callVD (k := 0) (as := [.ref (17 + 4 * (v3).toNatClampNeg)]) (rest := []) dX11_takeOver_76 kX11_goOut vX11_goOut lX11_211 (hT.k 0 rfl) rfl rfl rfl rfl rfl (by omega) (Nat.le_refl _) (Nat.le_refl _) (qX11_goOut (d + 0) hT (v3).toNatClampNeg (vp_lt hp2) hp6) ?_
          refine J.iinc (v := (v3 + 1)) (ls' := [some (.ref 0), some (.int a1), some (.int (v2 + 1)), some (.int (v3 + 1)), some (.ref (17 + 4 * (v3).toNatClampNeg)), some (.int 0)]) dX11_takeOver_79 rfl (by rfl) rfl ?_
          refine J.goto (tgt := 4) dX11_takeOver_82 (by decide) ?_
          exact J.weaken (ls' := [some (.ref 0), some (.int a1), some (.int (v2 + 1)), some (.int (v3 + 1)), none, none]) (And.intro rfl (And.intro rfl (And.intro rfl (And.intro rfl trivial)))) (hK4 (v2 + 1) (v3 + 1) (jX11_goOutM I (v3).toNatClampNeg) h)
        · have h := h.2 hc5
          refine J.iconst (v := 0) dX11_takeOver_66 (by decide) ?_
          refine J.goto (tgt := 71) dX11_takeOver_67 (by decide) ?_
          refine J.iadd dX11_takeOver_71 ?_
          refine J.istore_n (ls' := [some (.ref 0), some (.int a1), some (.int (v2 + 0)), some (.int v3), some (.ref (17 + 4 * (v3).toNatClampNeg)), some (.int 0)]) dX11_takeOver_72 rfl rfl rfl ?_
          refine J.aload_n dX11_takeOver_73 rfl rfl ?_
          refine J.aload dX11_takeOver_74 rfl ?_
          obtain ⟨hp7, h⟩ := h
          refine J.callVD (k := 0) (as := [.ref (17 + 4 * (v3).toNatClampNeg)]) (rest := []) dX11_takeOver_76 kX11_goOut vX11_goOut lX11_211 (hT.k 0 rfl) rfl rfl rfl rfl rfl (by omega) (Nat.le_refl _) (Nat.le_refl _) (qX11_goOut (d + 0) hT (v3).toNatClampNeg (vp_lt hp2) hp7) ?_
          refine J.iinc (v := (v3 + 1)) (ls' := [some (.ref 0), some (.int a1), some (.int (v2 + 0)), some (.int (v3 + 1)), some (.ref (17 + 4 * (v3).toNatClampNeg)), some (.int 0)]) dX11_takeOver_79 rfl (by rfl) rfl ?_
          refine J.goto (tgt := 4) dX11_takeOver_82 (by decide) ?_
          exact J.weaken (ls' := [some (.ref 0), some (.int a1), some (.int (v2 + 0)), some (.int (v3 + 1)), none, none]) (And.intro rfl (And.intro rfl (And.intro rfl (And.intro rfl trivial)))) (hK4 (v2 + 0) (v3 + 1) (jX11_goOutM I (v3).toNatClampNeg) h)
      · have h := h.2 hc4
        refine J.aload_n dX11_takeOver_41 rfl rfl ?_
        refine J.getR (r := 56) dX11_takeOver_42 fX11_42 (hT.k 0 rfl) rfl (hT.r 0 4 rfl rfl) ?_
        refine J.iload_n dX11_takeOver_45 rfl rfl ?_
        obtain ⟨hp8, h⟩ := h
        refine J.callVP (k := 56) (as := [.int v3]) (rest := []) dX11_takeOver_46 kX3_placeGot vX3_placeGot lX11_365 (hT.k 56 rfl) rfl rfl rfl rfl rfl (by omega) (Nat.le_refl _) (Nat.le_refl _) (qX3_placeGot (d + 4) hT v3 hp8) ?_
        refine J.goto (tgt := 53) dX11_takeOver_49 (by decide) ?_
        refine J.istore (ls' := [some (.ref 0), some (.int a1), some (.int v2), some (.int v3), some (.ref (17 + 4 * (v3).toNatClampNeg)), some (.int (jX3_placeGot I v3))]) dX11_takeOver_53 rfl rfl ?_
        refine J.iload_n dX11_takeOver_55 rfl rfl ?_
        refine J.iload dX11_takeOver_56 rfl ?_
        refine J.aload dX11_takeOver_58 rfl ?_
        refine J.getI dX11_takeOver_60 fX11_218 (hT.sliceK (vp_lt hp2)) rfl ?_
        refine J.icmp_ne (tgt := 70) dX11_takeOver_63 (by decide) (fun hc9 => ?_) (fun hc9 => ?_)
        · have h := h.1 hc9
          refine J.iconst (v := 1) dX11_takeOver_70 (by decide) ?_
          refine J.iadd dX11_takeOver_71 ?_
          refine J.istore_n (ls' := [some (.ref 0), some (.int a1), some (.int (v2 + 1)), some (.int v3), some (.ref (17 + 4 * (v3).toNatClampNeg)), some (.int (jX3_placeGot I v3))]) dX11_takeOver_72 rfl rfl rfl ?_
          refine J.aload_n dX11_takeOver_73 rfl rfl ?_
          refine J.aload dX11_takeOver_74 rfl ?_
          obtain ⟨hp10, h⟩ := h
          refine J.callVD (k := 0) (as := [.ref (17 + 4 * (v3).toNatClampNeg)]) (rest := []) dX11_takeOver_76 kX11_goOut vX11_goOut lX11_211 (hT.k 0 rfl) rfl rfl rfl rfl rfl (by omega) (Nat.le_refl _) (Nat.le_refl _) (qX11_goOut (d + 0) hT (v3).toNatClampNeg (vp_lt hp2) hp10) ?_
          refine J.iinc (v := (v3 + 1)) (ls' := [some (.ref 0), some (.int a1), some (.int (v2 + 1)), some (.int (v3 + 1)), some (.ref (17 + 4 * (v3).toNatClampNeg)), some (.int (jX3_placeGot I v3))]) dX11_takeOver_79 rfl (by rfl) rfl ?_
          refine J.goto (tgt := 4) dX11_takeOver_82 (by decide) ?_
          exact J.weaken (ls' := [some (.ref 0), some (.int a1), some (.int (v2 + 1)), some (.int (v3 + 1)), none, none]) (And.intro rfl (And.intro rfl (And.intro rfl (And.intro rfl trivial)))) (hK4 (v2 + 1) (v3 + 1) (jX11_goOutM I (v3).toNatClampNeg) h)
        · have h := h.2 hc9
          refine J.iconst (v := 0) dX11_takeOver_66 (by decide) ?_
          refine J.goto (tgt := 71) dX11_takeOver_67 (by decide) ?_
          refine J.iadd dX11_takeOver_71 ?_
          refine J.istore_n (ls' := [some (.ref 0), some (.int a1), some (.int (v2 + 0)), some (.int v3), some (.ref (17 + 4 * (v3).toNatClampNeg)), some (.int (jX3_placeGot I v3))]) dX11_takeOver_72 rfl rfl rfl ?_
          refine J.aload_n dX11_takeOver_73 rfl rfl ?_
          refine J.aload dX11_takeOver_74 rfl ?_
          obtain ⟨hp11, h⟩ := h
          refine J.callVD (k := 0) (as := [.ref (17 + 4 * (v3).toNatClampNeg)]) (rest := []) dX11_takeOver_76 kX11_goOut vX11_goOut lX11_211 (hT.k 0 rfl) rfl rfl rfl rfl rfl (by omega) (Nat.le_refl _) (Nat.le_refl _) (qX11_goOut (d + 0) hT (v3).toNatClampNeg (vp_lt hp2) hp11) ?_
          refine J.iinc (v := (v3 + 1)) (ls' := [some (.ref 0), some (.int a1), some (.int (v2 + 0)), some (.int (v3 + 1)), some (.ref (17 + 4 * (v3).toNatClampNeg)), some (.int (jX3_placeGot I v3))]) dX11_takeOver_79 rfl (by rfl) rfl ?_
          refine J.goto (tgt := 4) dX11_takeOver_82 (by decide) ?_
          exact J.weaken (ls' := [some (.ref 0), some (.int a1), some (.int (v2 + 0)), some (.int (v3 + 1)), none, none]) (And.intro rfl (And.intro rfl (And.intro rfl (And.intro rfl trivial)))) (hK4 (v2 + 0) (v3 + 1) (jX11_goOutM I (v3).toNatClampNeg) h)
set_option maxHeartbeats 4000000 in
set_option maxRecDepth 100000 in
theorem sX11_takeOver_87 (d : Nat) {T : Topo} (hT : Lay T) (a1 : Int32)    {Q : Int32 → Topo → IM → Prop} {K4 : Int32 → Int32 → IM → Prop} {K87 : Int32 → Int32 → IM → Prop} (hK4 : ∀ (v2 v3 : Int32) (I : IM), K4 v2 v3 I → J (d + 5) mX11_takeOver (PI Q) 0 0 4 [some (.ref 0), some (.int a1), some (.int v2), some (.int v3), none, none] [] T I 0 0) (hK87 : ∀ (v2 v3 : Int32) (I : IM), K87 v2 v3 I → J (d + 5) mX11_takeOver (PI Q) 0 0 87 [some (.ref 0), some (.int a1), some (.int v2), some (.int v3), none, none] [] T I 0 0) (v2 v3 : Int32) (I : IM) (h : fX11_takeOver_87 T a1 Q K4 K87 v2 v3 I) : J (d + 5) mX11_takeOver (PI Q) 0 0 87 [some (.ref 0), some (.int a1), some (.int v2), some (.int v3), none, none] [] T I 0 0 := by
  unfold fX11_takeOver_87 at h
  refine J.iload_n dX11_takeOver_87 rfl rfl ?_
  refine J.aload_n dX11_takeOver_88 rfl rfl ?_
  refine J.getR (r := 15) dX11_takeOver_89 fX11_19 (hT.k 0 rfl) rfl (hT.r 0 1 rfl rfl) ?_
  refine J.getI dX11_takeOver_92 fX11_132 (hT.k 15 rfl) rfl ?_
  refine J.icmp_ge (tgt := 132) dX11_takeOver_95 (by decide) (fun hc1 => ?_) (fun hc1 => ?_)
  · have h := h.1 hc1
    refine J.iload_n dX11_takeOver_132 rfl rfl ?_
    exact J.iretQ dX11_takeOver_133 rfl (Nat.le_refl _) (Nat.le_refl _) h
  · have h := h.2 hc1
    refine J.iload_n dX11_takeOver_98 rfl rfl ?_
    refine J.iload_n dX11_takeOver_99 rfl rfl ?_
    refine J.callSP (as := [.int a1, .int v3]) (rest := []) dX11_takeOver_100 kX11_has vX11_has lX11_362 rfl rfl rfl (by omega) (Nat.le_refl _) (Nat.le_refl _) (qX11_has (d + 4) hT a1 v3 ) ?_
    refine J.bz_eq (tgt := 126) dX11_takeOver_103 (by decide) (fun hc2 => ?_) (fun hc2 => ?_)
    · have h := h.1 hc2
      refine J.iinc (v := (v3 + 1)) (ls' := [some (.ref 0), some (.int a1), some (.int v2), some (.int (v3 + 1)), none, none]) dX11_takeOver_126 rfl (by rfl) rfl ?_
      refine J.goto (tgt := 87) dX11_takeOver_129 (by decide) ?_
      exact J.weaken (ls' := [some (.ref 0), some (.int a1), some (.int v2), some (.int (v3 + 1)), none, none]) (And.intro rfl (And.intro rfl (And.intro rfl (And.intro rfl trivial)))) (hK87 v2 (v3 + 1) I h)
    · have h := h.2 hc2
      refine J.aload_n dX11_takeOver_106 rfl rfl ?_
      refine J.aload_n dX11_takeOver_107 rfl rfl ?_
      refine J.getR (r := 15) dX11_takeOver_108 fX11_19 (hT.k 0 rfl) rfl (hT.r 0 1 rfl rfl) ?_
      refine J.iload_n dX11_takeOver_111 rfl rfl ?_
      obtain ⟨hp3, h⟩ := h
      refine J.callVF (r := (17 + 4 * (v3).toNatClampNeg)) (k := 15) (as := [.int v3]) (rest := [.ref 0]) dX11_takeOver_112 kX9_at vX9_at lX11_139 (hT.k 15 rfl) rfl rfl rfl rfl rfl (by omega) (Nat.le_refl _) (Nat.le_refl _) (qX9_at (d + 4) hT v3 hp3) ?_
      refine J.aload_n dX11_takeOver_115 rfl rfl ?_
      refine J.getR (r := 56) dX11_takeOver_116 fX11_42 (hT.k 0 rfl) rfl (hT.r 0 4 rfl rfl) ?_
      refine J.iload_n dX11_takeOver_119 rfl rfl ?_
      obtain ⟨hp4, h⟩ := h
      refine J.callVP (k := 56) (as := [.int v3]) (rest := [.ref (17 + 4 * (v3).toNatClampNeg), .ref 0]) dX11_takeOver_120 kX3_placeGot vX3_placeGot lX11_365 (hT.k 56 rfl) rfl rfl rfl rfl rfl (by omega) (Nat.le_refl _) (Nat.le_refl _) (qX3_placeGot (d + 4) hT v3 hp4) ?_
      obtain ⟨hp5, h⟩ := h
      refine J.callVD (k := 0) (as := [.ref (17 + 4 * (v3).toNatClampNeg), .int (jX3_placeGot I v3)]) (rest := []) dX11_takeOver_123 kX11_comeIn vX11_comeIn lX11_196 (hT.k 0 rfl) rfl rfl rfl rfl rfl (by omega) (Nat.le_refl _) (Nat.le_refl _) (qX11_comeIn (d + 0) hT (v3).toNatClampNeg (vp_lt hp3) (jX3_placeGot I v3) hp5) ?_
      refine J.iinc (v := (v3 + 1)) (ls' := [some (.ref 0), some (.int a1), some (.int v2), some (.int (v3 + 1)), none, none]) dX11_takeOver_126 rfl (by rfl) rfl ?_
      refine J.goto (tgt := 87) dX11_takeOver_129 (by decide) ?_
      exact J.weaken (ls' := [some (.ref 0), some (.int a1), some (.int v2), some (.int (v3 + 1)), none, none]) (And.intro rfl (And.intro rfl (And.intro rfl (And.intro rfl trivial)))) (hK87 v2 (v3 + 1) (jX11_comeInM I (v3).toNatClampNeg (jX3_placeGot I v3)) h)
set_option maxHeartbeats 4000000 in
set_option maxRecDepth 100000 in
theorem wX11_takeOver (d : Nat) {T : Topo} (hT : Lay T) (a1 : Int32)   {Q : Int32 → Topo → IM → Prop} (V4 : Int32 → Int32 → IM → Prop) (μ4 : Int32 → Int32 → IM → Nat) (V87 : Int32 → Int32 → IM → Prop) (μ87 : Int32 → Int32 → IM → Nat) (vc4 : ∀ (v2 v3 : Int32) (I : IM), V4 v2 v3 I → fX11_takeOver_4 T a1 Q (fun w2 w3 I_ => V4 w2 w3 I_ ∧ μ4 w2 w3 I_ < μ4 v2 v3 I) (fun w2 w3 I_ => V87 w2 w3 I_ ∧ μ87 w2 w3 I_ < μ4 v2 v3 I) v2 v3 I) (vc87 : ∀ (v2 v3 : Int32) (I : IM), V87 v2 v3 I → fX11_takeOver_87 T a1 Q (fun w2 w3 I_ => V4 w2 w3 I_ ∧ μ4 w2 w3 I_ < μ87 v2 v3 I) (fun w2 w3 I_ => V87 w2 w3 I_ ∧ μ87 w2 w3 I_ < μ87 v2 v3 I) v2 v3 I) {I : IM} (h : fX11_takeOver_0 T a1 Q V4 V87 I) : Ct (d + 5) mX11_takeOver [.ref 0, .int a1] T I 0 0 (PI Q) := by
  have all : ∀ n : Nat, (∀ (v2 v3 : Int32) (I : IM), V4 v2 v3 I → μ4 v2 v3 I < n → J (d + 5) mX11_takeOver (PI Q) 0 0 4 [some (.ref 0), some (.int a1), some (.int v2), some (.int v3), none, none] [] T I 0 0) ∧ (∀ (v2 v3 : Int32) (I : IM), V87 v2 v3 I → μ87 v2 v3 I < n → J (d + 5) mX11_takeOver (PI Q) 0 0 87 [some (.ref 0), some (.int a1), some (.int v2), some (.int v3), none, none] [] T I 0 0) := by
    intro n
    induction n with
    | zero => exact ⟨fun _ _ _ _ hn => absurd hn (Nat.not_lt_zero _), fun _ _ _ _ hn => absurd hn (Nat.not_lt_zero _)⟩
    | succ n ih =>
      exact ⟨fun v2 v3 I hv hn => sX11_takeOver_4 d hT a1   (fun w2 w3 I_ hw => ih.1 w2 w3 I_ hw.1 (by have := hw.2; omega)) (fun w2 w3 I_ hw => ih.2 w2 w3 I_ hw.1 (by have := hw.2; omega)) v2 v3 I (vc4 v2 v3 I hv), fun v2 v3 I hv hn => sX11_takeOver_87 d hT a1   (fun w2 w3 I_ hw => ih.1 w2 w3 I_ hw.1 (by have := hw.2; omega)) (fun w2 w3 I_ hw => ih.2 w2 w3 I_ hw.1 (by have := hw.2; omega)) v2 v3 I (vc87 v2 v3 I hv)⟩
  exact Ct.ofJ (by decide +kernel) rfl (by intro v hv; revert v hv; simp [Value.category]) rfl (sX11_takeOver_0 d hT a1   (fun w2 w3 I_ hw => (all (μ4 w2 w3 I_ + 1)).1 w2 w3 I_ hw (Nat.lt_succ_self _)) (fun w2 w3 I_ hw => (all (μ87 w2 w3 I_ + 1)).2 w2 w3 I_ hw (Nat.lt_succ_self _)) I h)

def jX11_takeOverB4 (a1 : Int32) (F : (Nat → Int32 → Int32 → IM → Int32 × IM)) (v2 v3 : Int32) (I : IM) : Int32 × IM := (if (I 15 1) ≤ v3 then (F 1 v2 0 I) else (if inS I (v3).toNatClampNeg then (if hs a1 v3 then (if (jX3_placeGot I v3) = (I (17 + 4 * (v3).toNatClampNeg) 12) then (F 0 (v2 + 0) (v3 + 1) (jX11_goOutM I (v3).toNatClampNeg)) else (F 0 (v2 + 1) (v3 + 1) (jX11_goOutM I (v3).toNatClampNeg))) else (if 0 = (I (17 + 4 * (v3).toNatClampNeg) 12) then (F 0 (v2 + 0) (v3 + 1) (jX11_goOutM I (v3).toNatClampNeg)) else (F 0 (v2 + 1) (v3 + 1) (jX11_goOutM I (v3).toNatClampNeg)))) else (F 0 v2 (v3 + 1) I)))
def jX11_takeOverC4 (a1 : Int32) (F : (Nat → Int32 → Int32 → IM → Prop)) (v2 v3 : Int32) (I : IM) : Prop := ((((I 15 1) ≤ v3) → (F 1 v2 0 I)) ∧ ((¬ (I 15 1) ≤ v3) → ((vp_in v3 8) ∧ (((¬ (inS I (v3).toNatClampNeg)) → (F 0 v2 (v3 + 1) I)) ∧ ((inS I (v3).toNatClampNeg) → (((¬ (hs a1 v3)) → (((¬ 0 = (I (17 + 4 * (v3).toNatClampNeg) 12)) → (((jX11_goOutK I (v3).toNatClampNeg)) ∧ (F 0 (v2 + 1) (v3 + 1) (jX11_goOutM I (v3).toNatClampNeg)))) ∧ ((0 = (I (17 + 4 * (v3).toNatClampNeg) 12)) → (((jX11_goOutK I (v3).toNatClampNeg)) ∧ (F 0 (v2 + 0) (v3 + 1) (jX11_goOutM I (v3).toNatClampNeg)))))) ∧ ((hs a1 v3) → (((jX3_placeGotK v3)) ∧ (((¬ (jX3_placeGot I v3) = (I (17 + 4 * (v3).toNatClampNeg) 12)) → (((jX11_goOutK I (v3).toNatClampNeg)) ∧ (F 0 (v2 + 1) (v3 + 1) (jX11_goOutM I (v3).toNatClampNeg)))) ∧ (((jX3_placeGot I v3) = (I (17 + 4 * (v3).toNatClampNeg) 12)) → (((jX11_goOutK I (v3).toNatClampNeg)) ∧ (F 0 (v2 + 0) (v3 + 1) (jX11_goOutM I (v3).toNatClampNeg)))))))))))))
def jX11_takeOverB87 (a1 : Int32) (F : (Nat → Int32 → Int32 → IM → Int32 × IM)) (v2 v3 : Int32) (I : IM) : Int32 × IM := (if (I 15 1) ≤ v3 then (v2, I) else (if hs a1 v3 then (F 1 v2 (v3 + 1) (jX11_comeInM I (v3).toNatClampNeg (jX3_placeGot I v3))) else (F 1 v2 (v3 + 1) I)))
def jX11_takeOverC87 (a1 : Int32) (F : (Nat → Int32 → Int32 → IM → Prop)) (v2 v3 : Int32) (I : IM) : Prop := ((((I 15 1) ≤ v3) → True) ∧ ((¬ (I 15 1) ≤ v3) → (((¬ (hs a1 v3)) → (F 1 v2 (v3 + 1) I)) ∧ ((hs a1 v3) → ((vp_in v3 8) ∧ (((jX3_placeGotK v3)) ∧ (((jX11_comeInK I (v3).toNatClampNeg (jX3_placeGot I v3))) ∧ (F 1 v2 (v3 + 1) (jX11_comeInM I (v3).toNatClampNeg (jX3_placeGot I v3))))))))))
def jX11_takeOverI (a1 : Int32) : Nat → Nat → Int32 → Int32 → IM → Int32 × IM
  | 0 => fun _ _ _ I => (0, I)
  | n + 1 => fun tg v2 v3 I => (if tg = 0 then jX11_takeOverB4 a1 (jX11_takeOverI a1 n) v2 v3 I else (if tg = 1 then jX11_takeOverB87 a1 (jX11_takeOverI a1 n) v2 v3 I else (0, I)))
def jX11_takeOverO (a1 : Int32) : Nat → Nat → Int32 → Int32 → IM → Prop
  | 0 => fun _ _ _ _ => False
  | n + 1 => fun tg v2 v3 I => (if tg = 0 then jX11_takeOverC4 a1 (jX11_takeOverO a1 n) v2 v3 I else (if tg = 1 then jX11_takeOverC87 a1 (jX11_takeOverO a1 n) v2 v3 I else True))
theorem jX11_takeOverI_4 (a1 : Int32) (n : Nat) (v2 v3 : Int32) (I : IM) : jX11_takeOverI a1 (n + 1) 0 v2 v3 I = (if (I 15 1) ≤ v3 then (jX11_takeOverI a1 n 1 v2 0 I) else (if inS I (v3).toNatClampNeg then (if hs a1 v3 then (if (jX3_placeGot I v3) = (I (17 + 4 * (v3).toNatClampNeg) 12) then (jX11_takeOverI a1 n 0 (v2 + 0) (v3 + 1) (jX11_goOutM I (v3).toNatClampNeg)) else (jX11_takeOverI a1 n 0 (v2 + 1) (v3 + 1) (jX11_goOutM I (v3).toNatClampNeg))) else (if 0 = (I (17 + 4 * (v3).toNatClampNeg) 12) then (jX11_takeOverI a1 n 0 (v2 + 0) (v3 + 1) (jX11_goOutM I (v3).toNatClampNeg)) else (jX11_takeOverI a1 n 0 (v2 + 1) (v3 + 1) (jX11_goOutM I (v3).toNatClampNeg)))) else (jX11_takeOverI a1 n 0 v2 (v3 + 1) I))) := by
  show (if (0 : Nat) = 0 then jX11_takeOverB4 a1 (jX11_takeOverI a1 n) v2 v3 I else (if (0 : Nat) = 1 then jX11_takeOverB87 a1 (jX11_takeOverI a1 n) v2 v3 I else (0, I))) = _
  rw [if_pos rfl]; rfl
theorem jX11_takeOverO_4 (a1 : Int32) (n : Nat) (v2 v3 : Int32) (I : IM) : jX11_takeOverO a1 (n + 1) 0 v2 v3 I = ((((I 15 1) ≤ v3) → (jX11_takeOverO a1 n 1 v2 0 I)) ∧ ((¬ (I 15 1) ≤ v3) → ((vp_in v3 8) ∧ (((¬ (inS I (v3).toNatClampNeg)) → (jX11_takeOverO a1 n 0 v2 (v3 + 1) I)) ∧ ((inS I (v3).toNatClampNeg) → (((¬ (hs a1 v3)) → (((¬ 0 = (I (17 + 4 * (v3).toNatClampNeg) 12)) → (((jX11_goOutK I (v3).toNatClampNeg)) ∧ (jX11_takeOverO a1 n 0 (v2 + 1) (v3 + 1) (jX11_goOutM I (v3).toNatClampNeg)))) ∧ ((0 = (I (17 + 4 * (v3).toNatClampNeg) 12)) → (((jX11_goOutK I (v3).toNatClampNeg)) ∧ (jX11_takeOverO a1 n 0 (v2 + 0) (v3 + 1) (jX11_goOutM I (v3).toNatClampNeg)))))) ∧ ((hs a1 v3) → (((jX3_placeGotK v3)) ∧ (((¬ (jX3_placeGot I v3) = (I (17 + 4 * (v3).toNatClampNeg) 12)) → (((jX11_goOutK I (v3).toNatClampNeg)) ∧ (jX11_takeOverO a1 n 0 (v2 + 1) (v3 + 1) (jX11_goOutM I (v3).toNatClampNeg)))) ∧ (((jX3_placeGot I v3) = (I (17 + 4 * (v3).toNatClampNeg) 12)) → (((jX11_goOutK I (v3).toNatClampNeg)) ∧ (jX11_takeOverO a1 n 0 (v2 + 0) (v3 + 1) (jX11_goOutM I (v3).toNatClampNeg))))))))))))) := by
  show (if (0 : Nat) = 0 then jX11_takeOverC4 a1 (jX11_takeOverO a1 n) v2 v3 I else (if (0 : Nat) = 1 then jX11_takeOverC87 a1 (jX11_takeOverO a1 n) v2 v3 I else True)) = _
  rw [if_pos rfl]; rfl
theorem jX11_takeOverI_87 (a1 : Int32) (n : Nat) (v2 v3 : Int32) (I : IM) : jX11_takeOverI a1 (n + 1) 1 v2 v3 I = (if (I 15 1) ≤ v3 then (v2, I) else (if hs a1 v3 then (jX11_takeOverI a1 n 1 v2 (v3 + 1) (jX11_comeInM I (v3).toNatClampNeg (jX3_placeGot I v3))) else (jX11_takeOverI a1 n 1 v2 (v3 + 1) I))) := by
  show (if (1 : Nat) = 0 then jX11_takeOverB4 a1 (jX11_takeOverI a1 n) v2 v3 I else (if (1 : Nat) = 1 then jX11_takeOverB87 a1 (jX11_takeOverI a1 n) v2 v3 I else (0, I))) = _
  rw [if_neg (by decide), if_pos rfl]; rfl
theorem jX11_takeOverO_87 (a1 : Int32) (n : Nat) (v2 v3 : Int32) (I : IM) : jX11_takeOverO a1 (n + 1) 1 v2 v3 I = ((((I 15 1) ≤ v3) → True) ∧ ((¬ (I 15 1) ≤ v3) → (((¬ (hs a1 v3)) → (jX11_takeOverO a1 n 1 v2 (v3 + 1) I)) ∧ ((hs a1 v3) → ((vp_in v3 8) ∧ (((jX3_placeGotK v3)) ∧ (((jX11_comeInK I (v3).toNatClampNeg (jX3_placeGot I v3))) ∧ (jX11_takeOverO a1 n 1 v2 (v3 + 1) (jX11_comeInM I (v3).toNatClampNeg (jX3_placeGot I v3)))))))))) := by
  show (if (1 : Nat) = 0 then jX11_takeOverC4 a1 (jX11_takeOverO a1 n) v2 v3 I else (if (1 : Nat) = 1 then jX11_takeOverC87 a1 (jX11_takeOverO a1 n) v2 v3 I else True)) = _
  rw [if_neg (by decide), if_pos rfl]; rfl
def jX11_takeOver (I : IM) (a1 : Int32) : Int32 × IM := (jX11_takeOverI a1 FU 0 0 0 I)
def jX11_takeOverK (I : IM) (a1 : Int32) : Prop := (jX11_takeOverO a1 FU 0 0 0 I)
set_option maxRecDepth 10000 in
set_option maxHeartbeats 1000000 in
theorem uX11_takeOver (d : Nat) {T : Topo} (hT : Lay T) (a1 : Int32)   {R : Int32 × IM} : ∀ n : Nat, (∀ (v2 v3 : Int32) (I : IM), jX11_takeOverO a1 n 0 v2 v3 I → jX11_takeOverI a1 n 0 v2 v3 I = R → J (d + 5) mX11_takeOver (PI (fun x T' I' => T' = T ∧ x = R.1 ∧ I' = R.2)) 0 0 4 [some (.ref 0), some (.int a1), some (.int v2), some (.int v3), none, none] [] T I 0 0) ∧ (∀ (v2 v3 : Int32) (I : IM), jX11_takeOverO a1 n 1 v2 v3 I → jX11_takeOverI a1 n 1 v2 v3 I = R → J (d + 5) mX11_takeOver (PI (fun x T' I' => T' = T ∧ x = R.1 ∧ I' = R.2)) 0 0 87 [some (.ref 0), some (.int a1), some (.int v2), some (.int v3), none, none] [] T I 0 0) := by
  intro n
  induction n with
  | zero => exact ⟨fun _ _ _ hz => hz.elim, fun _ _ _ hz => hz.elim⟩
  | succ n ih =>
    refine ⟨?_, ?_⟩
    · exact fun v2 v3 I hok hit => by
        rw [jX11_takeOverO_4] at hok
        exact sX11_takeOver_4 d hT a1   (K4 := fun w2 w3 I_ => (jX11_takeOverO a1 n 0 w2 w3 I_ ∧ jX11_takeOverI a1 n 0 w2 w3 I_ = R)) (K87 := fun w2 w3 I_ => (jX11_takeOverO a1 n 1 w2 w3 I_ ∧ jX11_takeOverI a1 n 1 w2 w3 I_ = R)) (fun w2 w3 I_ hw => ih.1 w2 w3 I_ hw.1 hw.2) (fun w2 w3 I_ hw => ih.2 w2 w3 I_ hw.1 hw.2) v2 v3 I (by
          unfold fX11_takeOver_4
          exact ⟨fun hc1 => ⟨(hok).1 hc1, by rw [jX11_takeOverI_4, if_pos hc1] at hit; exact hit⟩, fun hc1 => ⟨((hok).2 hc1).1, ⟨fun hc2 => ⟨(((hok).2 hc1).2).1 hc2, by rw [jX11_takeOverI_4, if_neg hc1, if_neg hc2] at hit; exact hit⟩, fun hc2 => ⟨fun hc3 => ⟨fun hc4 => ⟨((((((hok).2 hc1).2).2 hc2).1 hc3).1 hc4).1, ⟨((((((hok).2 hc1).2).2 hc2).1 hc3).1 hc4).2, by rw [jX11_takeOverI_4, if_neg hc1, if_pos hc2, if_neg hc3, if_neg hc4] at hit; exact hit⟩⟩, fun hc4 => ⟨((((((hok).2 hc1).2).2 hc2).1 hc3).2 hc4).1, ⟨((((((hok).2 hc1).2).2 hc2).1 hc3).2 hc4).2, by rw [jX11_takeOverI_4, if_neg hc1, if_pos hc2, if_neg hc3, if_pos hc4] at hit; exact hit⟩⟩⟩, fun hc3 => ⟨(((((hok).2 hc1).2).2 hc2).2 hc3).1, ⟨fun hc5 => ⟨(((((((hok).2 hc1).2).2 hc2).2 hc3).2).1 hc5).1, ⟨(((((((hok).2 hc1).2).2 hc2).2 hc3).2).1 hc5).2, by rw [jX11_takeOverI_4, if_neg hc1, if_pos hc2, if_pos hc3, if_neg hc5] at hit; exact hit⟩⟩, fun hc5 => ⟨(((((((hok).2 hc1).2).2 hc2).2 hc3).2).2 hc5).1, ⟨(((((((hok).2 hc1).2).2 hc2).2 hc3).2).2 hc5).2, by rw [jX11_takeOverI_4, if_neg hc1, if_pos hc2, if_pos hc3, if_pos hc5] at hit; exact hit⟩⟩⟩⟩⟩⟩⟩⟩)
    · exact fun v2 v3 I hok hit => by
        rw [jX11_takeOverO_87] at hok
        exact sX11_takeOver_87 d hT a1   (K4 := fun w2 w3 I_ => (jX11_takeOverO a1 n 0 w2 w3 I_ ∧ jX11_takeOverI a1 n 0 w2 w3 I_ = R)) (K87 := fun w2 w3 I_ => (jX11_takeOverO a1 n 1 w2 w3 I_ ∧ jX11_takeOverI a1 n 1 w2 w3 I_ = R)) (fun w2 w3 I_ hw => ih.1 w2 w3 I_ hw.1 hw.2) (fun w2 w3 I_ hw => ih.2 w2 w3 I_ hw.1 hw.2) v2 v3 I (by
          unfold fX11_takeOver_87
          exact ⟨fun hc1 => (by rw [jX11_takeOverI_87, if_pos hc1] at hit; exact ⟨rfl, by rw [← hit], by rw [← hit]⟩), fun hc1 => ⟨fun hc2 => ⟨((hok).2 hc1).1 hc2, by rw [jX11_takeOverI_87, if_neg hc1, if_neg hc2] at hit; exact hit⟩, fun hc2 => ⟨(((hok).2 hc1).2 hc2).1, ⟨((((hok).2 hc1).2 hc2).2).1, ⟨(((((hok).2 hc1).2 hc2).2).2).1, ⟨(((((hok).2 hc1).2 hc2).2).2).2, by rw [jX11_takeOverI_87, if_neg hc1, if_pos hc2] at hit; exact hit⟩⟩⟩⟩⟩⟩)
set_option maxRecDepth 10000 in
set_option maxHeartbeats 1000000 in
theorem qX11_takeOver (d : Nat) {T : Topo} {I : IM} (hT : Lay T) (a1 : Int32)  (hp : (jX11_takeOverK I a1)) : CtI (d + 5) mX11_takeOver [.ref 0, .int a1] T I (fun x_ J_ => x_ = (jX11_takeOver I a1).1 ∧ J_ = (jX11_takeOver I a1).2) := by
  unfold jX11_takeOverK at hp
  exact Ct.ofJ (by decide +kernel) rfl (by intro v hv; revert v hv; simp [Value.category]) rfl (sX11_takeOver_0 d hT a1   (K4 := fun w2 w3 I_ => (jX11_takeOverO a1 FU 0 w2 w3 I_ ∧ jX11_takeOverI a1 FU 0 w2 w3 I_ = (jX11_takeOver I a1))) (K87 := fun w2 w3 I_ => (jX11_takeOverO a1 FU 1 w2 w3 I_ ∧ jX11_takeOverI a1 FU 1 w2 w3 I_ = (jX11_takeOver I a1))) (fun w2 w3 I_ hw => (uX11_takeOver d hT a1   FU).1 w2 w3 I_ hw.1 hw.2) (fun w2 w3 I_ hw => (uX11_takeOver d hT a1   FU).2 w2 w3 I_ hw.1 hw.2) I (by
    unfold fX11_takeOver_0
    exact ⟨hp, rfl⟩))

def fX11_tries_0 (T : Topo)  (Q : Int32 → Topo → IM → Prop)  (I : IM) : Prop :=
  Q (I 56 11) T I
set_option maxHeartbeats 4000000 in
set_option maxRecDepth 100000 in
theorem sX11_tries_0 (d : Nat) {T : Topo} (hT : Lay T)     {Q : Int32 → Topo → IM → Prop}   (I : IM) (h : fX11_tries_0 T  Q  I) : J (d + 0) mX11_tries (PI Q) 0 0 0 [some (.ref 0)] [] T I 0 0 := by
  unfold fX11_tries_0 at h
  refine J.aload_n dX11_tries_0 rfl rfl ?_
  refine J.getR (r := 56) dX11_tries_1 fX11_42 (hT.k 0 rfl) rfl (hT.r 0 4 rfl rfl) ?_
  refine J.getI dX11_tries_4 fX11_282 (hT.k 56 rfl) rfl ?_
  exact J.iretQ dX11_tries_7 rfl (Nat.le_refl _) (Nat.le_refl _) h
set_option maxHeartbeats 4000000 in
set_option maxRecDepth 100000 in
theorem wX11_tries (d : Nat) {T : Topo} (hT : Lay T)    {Q : Int32 → Topo → IM → Prop} {I : IM} (h : fX11_tries_0 T  Q I) : Ct (d + 0) mX11_tries [.ref 0] T I 0 0 (PI Q) :=
  Ct.ofJ (by decide +kernel) rfl (by intro v hv; revert v hv; simp [Value.category]) rfl (sX11_tries_0 d hT    I h)

def jX11_tries (I : IM)  : Int32 := (I 56 11)
set_option maxRecDepth 10000 in
theorem qX11_tries (d : Nat) {T : Topo} {I : IM} (hT : Lay T)    : CtP (d + 0) mX11_tries [.ref 0] T I ((jX11_tries I)) :=
  wX11_tries d hT    (by
  unfold fX11_tries_0
  exact ⟨by unfold jX11_tries; rfl, rfl, rfl⟩)

def fX11_offer_0 (T : Topo) (a1 : Int32) (a2 : Int32) (Q : Int32 → Topo → IM → Prop)  (I : IM) : Prop :=
  ((((¬ (hSl I a1)) → (Q (-1000001) T (fnd I))) ∧ ((hSl I a1) → ((((wi a2 1 100) → ((vp_in a1 8) ∧ (((((I (17 + 4 * (a1).toNatClampNeg) 13) + a2) ≤ 1000) → Q ((I (17 + 4 * (a1).toNatClampNeg) 13) + a2) T (up2 I (17 + 4 * (a1).toNatClampNeg) 13 ((I (17 + 4 * (a1).toNatClampNeg) 13) + a2))) ∧ ((¬ ((I (17 + 4 * (a1).toNatClampNeg) 13) + a2) ≤ 1000) → (Q (-1000002) T (fnd I)))))) ∧ ((¬ (wi a2 1 100)) → (Q (-1000001) T (fnd I))))))))
set_option maxHeartbeats 4000000 in
set_option maxRecDepth 100000 in
theorem sX11_offer_0 (d : Nat) {T : Topo} (hT : Lay T) (a1 : Int32) (a2 : Int32)    {Q : Int32 → Topo → IM → Prop}   (I : IM) (h : fX11_offer_0 T a1 a2 Q  I) : J (d + 1) mX11_offer (PI Q) 0 0 0 [some (.ref 0), some (.int a1), some (.int a2), none] [] T I 0 0 := by
  unfold fX11_offer_0 at h
  refine J.aload_n dX11_offer_0 rfl rfl ?_
  refine J.getR (r := 15) dX11_offer_1 fX11_19 (hT.k 0 rfl) rfl (hT.r 0 1 rfl rfl) ?_
  refine J.iload_n dX11_offer_4 rfl rfl ?_
  refine J.callVP (k := 15) (as := [.int a1]) (rest := []) dX11_offer_5 kX9_hasSlice vX9_hasSlice lX11_136 (hT.k 15 rfl) rfl rfl rfl rfl rfl (by omega) (Nat.le_refl _) (Nat.le_refl _) (qX9_hasSlice (d + 0) hT a1 ) ?_
  refine J.bz_eq (tgt := 21) dX11_offer_8 (by decide) (fun hc1 => ?_) (fun hc1 => ?_)
  · have h := h.1 hc1
    refine J.aload_n dX11_offer_21 rfl rfl ?_
    refine J.ldc (v := (-1000001)) dX11_offer_22 kcX11_64 ?_
    refine J.callVE (k := 0) (as := [.int (-1000001)]) (rest := []) dX11_offer_24 kX11_finding vX11_finding lX11_65 (hT.k 0 rfl) rfl rfl rfl rfl rfl (by omega) (Nat.le_refl _) (Nat.le_refl _) (qX11_finding (d + 0) hT (-1000001) ) ?_
    exact J.iretQ dX11_offer_27 rfl (Nat.le_refl _) (Nat.le_refl _) h
  · have h := h.2 hc1
    refine J.iload_n dX11_offer_11 rfl rfl ?_
    refine J.iconst (v := 1) dX11_offer_12 (by decide) ?_
    refine J.bipush (v := 100) dX11_offer_13 (by decide) ?_
    refine J.callSP (as := [.int a2, .int 1, .int 100]) (rest := []) dX11_offer_15 kX11_isWithin vX11_isWithin lX11_60 rfl rfl rfl (by omega) (Nat.le_refl _) (Nat.le_refl _) (qX11_isWithin (d + 0) hT a2 1 100 ) ?_
    refine J.bz_ne (tgt := 28) dX11_offer_18 (by decide) (fun hc2 => ?_) (fun hc2 => ?_)
    · have h := h.1 hc2
      refine J.aload_n dX11_offer_28 rfl rfl ?_
      refine J.getR (r := 15) dX11_offer_29 fX11_19 (hT.k 0 rfl) rfl (hT.r 0 1 rfl rfl) ?_
      refine J.iload_n dX11_offer_32 rfl rfl ?_
      obtain ⟨hp3, h⟩ := h
      refine J.callVF (r := (17 + 4 * (a1).toNatClampNeg)) (k := 15) (as := [.int a1]) (rest := []) dX11_offer_33 kX9_at vX9_at lX11_139 (hT.k 15 rfl) rfl rfl rfl rfl rfl (by omega) (Nat.le_refl _) (Nat.le_refl _) (qX9_at (d + 0) hT a1 hp3) ?_
      refine J.astore_n (ls' := [some (.ref 0), some (.int a1), some (.int a2), some (.ref (17 + 4 * (a1).toNatClampNeg))]) dX11_offer_36 rfl rfl rfl ?_
      refine J.aload_n dX11_offer_37 rfl rfl ?_
      refine J.getI dX11_offer_38 fX11_285 (hT.sliceK (vp_lt hp3)) rfl ?_
      refine J.iload_n dX11_offer_41 rfl rfl ?_
      refine J.iadd dX11_offer_42 ?_
      refine J.sipush (v := 1000) dX11_offer_43 (by decide) ?_
      refine J.icmp_le (tgt := 56) dX11_offer_46 (by decide) (fun hc4 => ?_) (fun hc4 => ?_)
      · have h := h.1 hc4
        refine J.aload_n dX11_offer_56 rfl rfl ?_
        refine J.dup dX11_offer_57 rfl ?_
        refine J.getI dX11_offer_58 fX11_285 (hT.sliceK (vp_lt hp3)) rfl ?_
        refine J.iload_n dX11_offer_61 rfl rfl ?_
        refine J.iadd dX11_offer_62 ?_
        refine J.putI dX11_offer_63 fX11_285 (hT.sliceK (vp_lt hp3)) rfl ?_
        refine J.aload_n dX11_offer_66 rfl rfl ?_
        refine J.atpc (pc' := 67) rfl ?_
        refine J.getI dX11_offer_67 fX11_285 (hT.sliceK (vp_lt hp3)) rfl ?_
        refine J.topEq (y := ((I (17 + 4 * (a1).toNatClampNeg) 13) + a2)) (up2_at _ _ _ _) ?_
        exact J.iretQ dX11_offer_70 rfl (Nat.le_refl _) (Nat.le_refl _) h
      · have h := h.2 hc4
        refine J.aload_n dX11_offer_49 rfl rfl ?_
        refine J.ldc (v := (-1000002)) dX11_offer_50 kcX11_73 ?_
        refine J.callVE (k := 0) (as := [.int (-1000002)]) (rest := []) dX11_offer_52 kX11_finding vX11_finding lX11_65 (hT.k 0 rfl) rfl rfl rfl rfl rfl (by omega) (Nat.le_refl _) (Nat.le_refl _) (qX11_finding (d + 0) hT (-1000002) ) ?_
        exact J.iretQ dX11_offer_55 rfl (Nat.le_refl _) (Nat.le_refl _) h
    · have h := h.2 hc2
      refine J.aload_n dX11_offer_21 rfl rfl ?_
      refine J.ldc (v := (-1000001)) dX11_offer_22 kcX11_64 ?_
      refine J.callVE (k := 0) (as := [.int (-1000001)]) (rest := []) dX11_offer_24 kX11_finding vX11_finding lX11_65 (hT.k 0 rfl) rfl rfl rfl rfl rfl (by omega) (Nat.le_refl _) (Nat.le_refl _) (qX11_finding (d + 0) hT (-1000001) ) ?_
      exact J.iretQ dX11_offer_27 rfl (Nat.le_refl _) (Nat.le_refl _) h
set_option maxHeartbeats 4000000 in
set_option maxRecDepth 100000 in
theorem wX11_offer (d : Nat) {T : Topo} (hT : Lay T) (a1 : Int32) (a2 : Int32)   {Q : Int32 → Topo → IM → Prop} {I : IM} (h : fX11_offer_0 T a1 a2 Q I) : Ct (d + 1) mX11_offer [.ref 0, .int a1, .int a2] T I 0 0 (PI Q) :=
  Ct.ofJ (by decide +kernel) rfl (by intro v hv; revert v hv; simp [Value.category]) rfl (sX11_offer_0 d hT a1 a2   I h)

def jX11_offer (I : IM) (a1 : Int32) (a2 : Int32) : Int32 := (if hSl I a1 then (if wi a2 1 100 then (if ((I (17 + 4 * (a1).toNatClampNeg) 13) + a2) ≤ 1000 then ((I (17 + 4 * (a1).toNatClampNeg) 13) + a2) else (-1000002)) else (-1000001)) else (-1000001))
def jX11_offerM (I : IM) (a1 : Int32) (a2 : Int32) : IM := (if hSl I a1 then (if wi a2 1 100 then (if ((I (17 + 4 * (a1).toNatClampNeg) 13) + a2) ≤ 1000 then (up2 I (17 + 4 * (a1).toNatClampNeg) 13 ((I (17 + 4 * (a1).toNatClampNeg) 13) + a2)) else (fnd I)) else (fnd I)) else (fnd I))
def jX11_offerK (I : IM) (a1 : Int32) (a2 : Int32) : Prop := (((¬ (hSl I a1)) → True) ∧ ((hSl I a1) → (((wi a2 1 100) → (vp_in a1 8)) ∧ ((¬ (wi a2 1 100)) → True))))
set_option maxRecDepth 10000 in
theorem qX11_offer (d : Nat) {T : Topo} {I : IM} (hT : Lay T) (a1 : Int32) (a2 : Int32)  (hp : (jX11_offerK I a1 a2)) : CtI (d + 1) mX11_offer [.ref 0, .int a1, .int a2] T I (fun x_ J_ => x_ = (jX11_offer I a1 a2) ∧ J_ = (jX11_offerM I a1 a2)) :=
  wX11_offer d hT a1 a2   (by
  unfold fX11_offer_0
  exact ⟨fun hc1 => ⟨rfl, by unfold jX11_offer; rw [if_neg hc1], by unfold jX11_offerM; rw [if_neg hc1]⟩, fun hc1 => ⟨fun hc2 => ⟨((hp).2 hc1).1 hc2, ⟨fun hc3 => ⟨rfl, by unfold jX11_offer; rw [if_pos hc1, if_pos hc2, if_pos hc3], by unfold jX11_offerM; rw [if_pos hc1, if_pos hc2, if_pos hc3]⟩, fun hc3 => ⟨rfl, by unfold jX11_offer; rw [if_pos hc1, if_pos hc2, if_neg hc3], by unfold jX11_offerM; rw [if_pos hc1, if_pos hc2, if_neg hc3]⟩⟩⟩, fun hc2 => ⟨rfl, by unfold jX11_offer; rw [if_pos hc1, if_neg hc2], by unfold jX11_offerM; rw [if_pos hc1, if_neg hc2]⟩⟩⟩)

def fX11_run_0 (T : Topo) (a1 : Int32) (Q : Int32 → Topo → IM → Prop) (K27 : Int32 → Int32 → IM → Prop) (I : IM) : Prop :=
  ((((wi a1 1 24) → K27 (I 69 4) 0 I) ∧ ((¬ (wi a1 1 24)) → (Q (-1000001) T (fnd I)))))
def fX11_run_27 (T : Topo) (a1 : Int32) (Q : Int32 → Topo → IM → Prop) (K27 : Int32 → Int32 → IM → Prop) (v2 v3 : Int32) (I : IM) : Prop :=
  (((a1 ≤ v3) → Q ((I 69 4) - v2) T I) ∧ ((¬ a1 ≤ v3) → (((jX2_doTickK I)) ∧ K27 v2 (v3 + 1) (jX2_doTickM I))))
set_option maxHeartbeats 4000000 in
set_option maxRecDepth 100000 in
theorem sX11_run_0 (d : Nat) {T : Topo} (hT : Lay T) (a1 : Int32)    {Q : Int32 → Topo → IM → Prop} {K27 : Int32 → Int32 → IM → Prop} (hK27 : ∀ (v2 v3 : Int32) (I : IM), K27 v2 v3 I → J (d + 6) mX11_run (PI Q) 0 0 27 [some (.ref 0), some (.int a1), some (.int v2), some (.int v3)] [] T I 0 0) (I : IM) (h : fX11_run_0 T a1 Q K27 I) : J (d + 6) mX11_run (PI Q) 0 0 0 [some (.ref 0), some (.int a1), none, none] [] T I 0 0 := by
  unfold fX11_run_0 at h
  refine J.iload_n dX11_run_0 rfl rfl ?_
  refine J.iconst (v := 1) dX11_run_1 (by decide) ?_
  refine J.bipush (v := 24) dX11_run_2 (by decide) ?_
  refine J.callSP (as := [.int a1, .int 1, .int 24]) (rest := []) dX11_run_4 kX11_isWithin vX11_isWithin lX11_60 rfl rfl rfl (by omega) (Nat.le_refl _) (Nat.le_refl _) (qX11_isWithin (d + 5) hT a1 1 24 ) ?_
  refine J.bz_ne (tgt := 17) dX11_run_7 (by decide) (fun hc1 => ?_) (fun hc1 => ?_)
  · have h := h.1 hc1
    refine J.aload_n dX11_run_17 rfl rfl ?_
    refine J.getR (r := 69) dX11_run_18 fX11_49 (hT.k 0 rfl) rfl (hT.r 0 5 rfl rfl) ?_
    refine J.getI dX11_run_21 fX11_288 (hT.k 69 rfl) rfl ?_
    refine J.istore_n (ls' := [some (.ref 0), some (.int a1), some (.int (I 69 4)), none]) dX11_run_24 rfl rfl rfl ?_
    refine J.iconst (v := 0) dX11_run_25 (by decide) ?_
    refine J.istore_n (ls' := [some (.ref 0), some (.int a1), some (.int (I 69 4)), some (.int 0)]) dX11_run_26 rfl rfl rfl ?_
    exact J.weaken (ls' := [some (.ref 0), some (.int a1), some (.int (I 69 4)), some (.int 0)]) (And.intro rfl (And.intro rfl (And.intro rfl (And.intro rfl trivial)))) (hK27 (I 69 4) 0 I h)
  · have h := h.2 hc1
    refine J.aload_n dX11_run_10 rfl rfl ?_
    refine J.ldc (v := (-1000001)) dX11_run_11 kcX11_64 ?_
    refine J.callVE (k := 0) (as := [.int (-1000001)]) (rest := []) dX11_run_13 kX11_finding vX11_finding lX11_65 (hT.k 0 rfl) rfl rfl rfl rfl rfl (by omega) (Nat.le_refl _) (Nat.le_refl _) (qX11_finding (d + 5) hT (-1000001) ) ?_
    exact J.iretQ dX11_run_16 rfl (Nat.le_refl _) (Nat.le_refl _) h
set_option maxHeartbeats 4000000 in
set_option maxRecDepth 100000 in
theorem sX11_run_27 (d : Nat) {T : Topo} (hT : Lay T) (a1 : Int32)    {Q : Int32 → Topo → IM → Prop} {K27 : Int32 → Int32 → IM → Prop} (hK27 : ∀ (v2 v3 : Int32) (I : IM), K27 v2 v3 I → J (d + 6) mX11_run (PI Q) 0 0 27 [some (.ref 0), some (.int a1), some (.int v2), some (.int v3)] [] T I 0 0) (v2 v3 : Int32) (I : IM) (h : fX11_run_27 T a1 Q K27 v2 v3 I) : J (d + 6) mX11_run (PI Q) 0 0 27 [some (.ref 0), some (.int a1), some (.int v2), some (.int v3)] [] T I 0 0 := by
  unfold fX11_run_27 at h
  refine J.iload_n dX11_run_27 rfl rfl ?_
  refine J.iload_n dX11_run_28 rfl rfl ?_
  refine J.icmp_ge (tgt := 45) dX11_run_29 (by decide) (fun hc1 => ?_) (fun hc1 => ?_)
  · have h := h.1 hc1
    refine J.aload_n dX11_run_45 rfl rfl ?_
    refine J.getR (r := 69) dX11_run_46 fX11_49 (hT.k 0 rfl) rfl (hT.r 0 5 rfl rfl) ?_
    refine J.getI dX11_run_49 fX11_288 (hT.k 69 rfl) rfl ?_
    refine J.iload_n dX11_run_52 rfl rfl ?_
    refine J.isub dX11_run_53 ?_
    exact J.iretQ dX11_run_54 rfl (Nat.le_refl _) (Nat.le_refl _) h
  · have h := h.2 hc1
    refine J.aload_n dX11_run_32 rfl rfl ?_
    refine J.getR (r := 69) dX11_run_33 fX11_49 (hT.k 0 rfl) rfl (hT.r 0 5 rfl rfl) ?_
    obtain ⟨hp2, h⟩ := h
    refine J.callVD (k := 69) (as := []) (rest := []) dX11_run_36 kX2_doTick vX2_doTick lX11_291 (hT.k 69 rfl) rfl rfl rfl rfl rfl (by omega) (Nat.le_refl _) (Nat.le_refl _) (qX2_doTick (d + 0) hT  hp2) ?_
    refine J.iinc (v := (v3 + 1)) (ls' := [some (.ref 0), some (.int a1), some (.int v2), some (.int (v3 + 1))]) dX11_run_39 rfl (by rfl) rfl ?_
    refine J.goto (tgt := 27) dX11_run_42 (by decide) ?_
    exact J.weaken (ls' := [some (.ref 0), some (.int a1), some (.int v2), some (.int (v3 + 1))]) (And.intro rfl (And.intro rfl (And.intro rfl (And.intro rfl trivial)))) (hK27 v2 (v3 + 1) (jX2_doTickM I) h)
set_option maxHeartbeats 4000000 in
set_option maxRecDepth 100000 in
theorem wX11_run (d : Nat) {T : Topo} (hT : Lay T) (a1 : Int32)   {Q : Int32 → Topo → IM → Prop} (V27 : Int32 → Int32 → IM → Prop) (μ27 : Int32 → Int32 → IM → Nat) (vc27 : ∀ (v2 v3 : Int32) (I : IM), V27 v2 v3 I → fX11_run_27 T a1 Q (fun w2 w3 I_ => V27 w2 w3 I_ ∧ μ27 w2 w3 I_ < μ27 v2 v3 I) v2 v3 I) {I : IM} (h : fX11_run_0 T a1 Q V27 I) : Ct (d + 6) mX11_run [.ref 0, .int a1] T I 0 0 (PI Q) := by
  have all : ∀ n : Nat, (∀ (v2 v3 : Int32) (I : IM), V27 v2 v3 I → μ27 v2 v3 I < n → J (d + 6) mX11_run (PI Q) 0 0 27 [some (.ref 0), some (.int a1), some (.int v2), some (.int v3)] [] T I 0 0) := by
    intro n
    induction n with
    | zero => exact fun _ _ _ _ hn => absurd hn (Nat.not_lt_zero _)
    | succ n ih =>
      exact fun v2 v3 I hv hn => sX11_run_27 d hT a1   (fun w2 w3 I_ hw => ih w2 w3 I_ hw.1 (by have := hw.2; omega)) v2 v3 I (vc27 v2 v3 I hv)
  exact Ct.ofJ (by decide +kernel) rfl (by intro v hv; revert v hv; simp [Value.category]) rfl (sX11_run_0 d hT a1   (fun w2 w3 I_ hw => (all (μ27 w2 w3 I_ + 1)) w2 w3 I_ hw (Nat.lt_succ_self _)) I h)

def jX11_runI (a1 : Int32) : Nat → Int32 → Int32 → IM → Int32 × IM
  | 0 => fun _ _ I => (0, I)
  | n + 1 => fun v2 v3 I => (if a1 ≤ v3 then (((I 69 4) - v2), I) else (jX11_runI a1 n v2 (v3 + 1) (jX2_doTickM I)))
def jX11_runO (a1 : Int32) : Nat → Int32 → Int32 → IM → Prop
  | 0 => fun _ _ _ => False
  | n + 1 => fun v2 v3 I => (((a1 ≤ v3) → True) ∧ ((¬ a1 ≤ v3) → (((jX2_doTickK I)) ∧ (jX11_runO a1 n v2 (v3 + 1) (jX2_doTickM I)))))
theorem jX11_runI_27 (a1 : Int32) (n : Nat) (v2 v3 : Int32) (I : IM) : jX11_runI a1 (n + 1) v2 v3 I = (if a1 ≤ v3 then (((I 69 4) - v2), I) else (jX11_runI a1 n v2 (v3 + 1) (jX2_doTickM I))) := rfl
theorem jX11_runO_27 (a1 : Int32) (n : Nat) (v2 v3 : Int32) (I : IM) : jX11_runO a1 (n + 1) v2 v3 I = (((a1 ≤ v3) → True) ∧ ((¬ a1 ≤ v3) → (((jX2_doTickK I)) ∧ (jX11_runO a1 n v2 (v3 + 1) (jX2_doTickM I))))) := rfl
def jX11_run (I : IM) (a1 : Int32) : Int32 × IM := (if wi a1 1 24 then (jX11_runI a1 FU (I 69 4) 0 I) else ((-1000001), (fnd I)))
def jX11_runK (I : IM) (a1 : Int32) : Prop := (((wi a1 1 24) → (jX11_runO a1 FU (I 69 4) 0 I)) ∧ ((¬ (wi a1 1 24)) → True))
set_option maxRecDepth 10000 in
set_option maxHeartbeats 1000000 in
theorem uX11_run (d : Nat) {T : Topo} (hT : Lay T) (a1 : Int32)   {R : Int32 × IM} : ∀ n : Nat, (∀ (v2 v3 : Int32) (I : IM), jX11_runO a1 n v2 v3 I → jX11_runI a1 n v2 v3 I = R → J (d + 6) mX11_run (PI (fun x T' I' => T' = T ∧ x = R.1 ∧ I' = R.2)) 0 0 27 [some (.ref 0), some (.int a1), some (.int v2), some (.int v3)] [] T I 0 0) := by
  intro n
  induction n with
  | zero => exact fun _ _ _ hz => hz.elim
  | succ n ih =>
    exact fun v2 v3 I hok hit => by
        rw [jX11_runO_27] at hok
        exact sX11_run_27 d hT a1   (K27 := fun w2 w3 I_ => (jX11_runO a1 n w2 w3 I_ ∧ jX11_runI a1 n w2 w3 I_ = R)) (fun w2 w3 I_ hw => ih w2 w3 I_ hw.1 hw.2) v2 v3 I (by
          unfold fX11_run_27
          exact ⟨fun hc1 => (by rw [jX11_runI_27, if_pos hc1] at hit; exact ⟨rfl, by rw [← hit], by rw [← hit]⟩), fun hc1 => ⟨((hok).2 hc1).1, ⟨((hok).2 hc1).2, by rw [jX11_runI_27, if_neg hc1] at hit; exact hit⟩⟩⟩)
set_option maxRecDepth 10000 in
set_option maxHeartbeats 1000000 in
theorem qX11_run (d : Nat) {T : Topo} {I : IM} (hT : Lay T) (a1 : Int32)  (hp : (jX11_runK I a1)) : CtI (d + 6) mX11_run [.ref 0, .int a1] T I (fun x_ J_ => x_ = (jX11_run I a1).1 ∧ J_ = (jX11_run I a1).2) := by
  unfold jX11_runK at hp
  exact Ct.ofJ (by decide +kernel) rfl (by intro v hv; revert v hv; simp [Value.category]) rfl (sX11_run_0 d hT a1   (K27 := fun w2 w3 I_ => (jX11_runO a1 FU w2 w3 I_ ∧ jX11_runI a1 FU w2 w3 I_ = (jX11_run I a1))) (fun w2 w3 I_ hw => uX11_run d hT a1   FU w2 w3 I_ hw.1 hw.2) I (by
    unfold fX11_run_0
    exact ⟨fun hc1 => ⟨(hp).1 hc1, by unfold jX11_run; rw [if_pos hc1]⟩, fun hc1 => ⟨rfl, by unfold jX11_run; rw [if_neg hc1], by unfold jX11_run; rw [if_neg hc1]⟩⟩))

def fX11_about_0 (T : Topo) (a1 : Int32) (a2 : Int32) (Q : Int32 → Topo → IM → Prop)  (I : IM) : Prop :=
  ((((¬ (hL I a1)) → (Q (-1000001) T (fnd I))) ∧ ((hL I a1) → ((((wi a2 0 8) → (((¬ a2 = 5) → ((vp_in a1 9) ∧ (Q (jTell I (a1).toNatClampNeg a2) T I))) ∧ ((a2 = 5) → ((((¬ ((((1 : Int32) <<< (a1 &&& 31)) &&& I 1 5) = 0)) → Q 0 T I) ∧ (((((1 : Int32) <<< (a1 &&& 31)) &&& I 1 5) = 0) → Q 1 T I)))))) ∧ ((¬ (wi a2 0 8)) → (Q (-1000001) T (fnd I))))))))
set_option maxHeartbeats 4000000 in
set_option maxRecDepth 100000 in
theorem sX11_about_0 (d : Nat) {T : Topo} (hT : Lay T) (a1 : Int32) (a2 : Int32)    {Q : Int32 → Topo → IM → Prop}   (I : IM) (h : fX11_about_0 T a1 a2 Q  I) : J (d + 1) mX11_about (PI Q) 0 0 0 [some (.ref 0), some (.int a1), some (.int a2)] [] T I 0 0 := by
  unfold fX11_about_0 at h
  refine J.aload_n dX11_about_0 rfl rfl ?_
  refine J.getR (r := 1) dX11_about_1 fX11_15 (hT.k 0 rfl) rfl (hT.r 0 0 rfl rfl) ?_
  refine J.iload_n dX11_about_4 rfl rfl ?_
  refine J.callVP (k := 1) (as := [.int a1]) (rest := []) dX11_about_5 kX5_hasLine vX5_hasLine lX11_88 (hT.k 1 rfl) rfl rfl rfl rfl rfl (by omega) (Nat.le_refl _) (Nat.le_refl _) (qX5_hasLine (d + 0) hT a1 ) ?_
  refine J.bz_eq (tgt := 21) dX11_about_8 (by decide) (fun hc1 => ?_) (fun hc1 => ?_)
  · have h := h.1 hc1
    refine J.aload_n dX11_about_21 rfl rfl ?_
    refine J.ldc (v := (-1000001)) dX11_about_22 kcX11_64 ?_
    refine J.callVE (k := 0) (as := [.int (-1000001)]) (rest := []) dX11_about_24 kX11_finding vX11_finding lX11_65 (hT.k 0 rfl) rfl rfl rfl rfl rfl (by omega) (Nat.le_refl _) (Nat.le_refl _) (qX11_finding (d + 0) hT (-1000001) ) ?_
    exact J.iretQ dX11_about_27 rfl (Nat.le_refl _) (Nat.le_refl _) h
  · have h := h.2 hc1
    refine J.iload_n dX11_about_11 rfl rfl ?_
    refine J.iconst (v := 0) dX11_about_12 (by decide) ?_
    refine J.bipush (v := 8) dX11_about_13 (by decide) ?_
    refine J.callSP (as := [.int a2, .int 0, .int 8]) (rest := []) dX11_about_15 kX11_isWithin vX11_isWithin lX11_60 rfl rfl rfl (by omega) (Nat.le_refl _) (Nat.le_refl _) (qX11_isWithin (d + 0) hT a2 0 8 ) ?_
    refine J.bz_ne (tgt := 28) dX11_about_18 (by decide) (fun hc2 => ?_) (fun hc2 => ?_)
    · have h := h.1 hc2
      refine J.iload_n dX11_about_28 rfl rfl ?_
      refine J.iconst (v := 5) dX11_about_29 (by decide) ?_
      refine J.icmp_ne (tgt := 54) dX11_about_30 (by decide) (fun hc3 => ?_) (fun hc3 => ?_)
      · have h := h.1 hc3
        refine J.aload_n dX11_about_54 rfl rfl ?_
        refine J.getR (r := 1) dX11_about_55 fX11_15 (hT.k 0 rfl) rfl (hT.r 0 0 rfl rfl) ?_
        refine J.iload_n dX11_about_58 rfl rfl ?_
        obtain ⟨hp4, h⟩ := h
        refine J.callVF (r := (6 + (a1).toNatClampNeg)) (k := 1) (as := [.int a1]) (rest := []) dX11_about_59 kX5_lineAt vX5_lineAt lX11_294 (hT.k 1 rfl) rfl rfl rfl rfl rfl (by omega) (Nat.le_refl _) (Nat.le_refl _) (qX5_lineAt (d + 0) hT a1 hp4) ?_
        refine J.iload_n dX11_about_62 rfl rfl ?_
        refine J.callVP (k := (6 + (a1).toNatClampNeg)) (as := [.int a2]) (rest := []) dX11_about_63 kX4_tell vX4_tell lX11_297 (hT.lineK (vp_lt hp4)) rfl rfl rfl rfl rfl (by omega) (Nat.le_refl _) (Nat.le_refl _) (qX4_tell (d + 0) hT (a1).toNatClampNeg (vp_lt hp4) a2 ) ?_
        exact J.iretQ dX11_about_66 rfl (Nat.le_refl _) (Nat.le_refl _) h
      · have h := h.2 hc3
        refine J.aload_n dX11_about_33 rfl rfl ?_
        refine J.getR (r := 1) dX11_about_34 fX11_15 (hT.k 0 rfl) rfl (hT.r 0 0 rfl rfl) ?_
        refine J.iconst (v := 1) dX11_about_37 (by decide) ?_
        refine J.iload_n dX11_about_38 rfl rfl ?_
        refine J.ishl dX11_about_39 ?_
        refine J.callVP (k := 1) (as := [.int ((1 : Int32) <<< (a1 &&& 31))]) (rest := []) dX11_about_40 kX5_isUp vX5_isUp lX11_183 (hT.k 1 rfl) rfl rfl rfl rfl rfl (by omega) (Nat.le_refl _) (Nat.le_refl _) (qX5_isUp (d + 0) hT ((1 : Int32) <<< (a1 &&& 31)) ) ?_
        refine J.bz_eq (tgt := 50) dX11_about_43 (by decide) (fun hc5 => ?_) (fun hc5 => ?_)
        · have h := h.1 hc5
          refine J.iconst (v := 0) dX11_about_50 (by decide) ?_
          refine J.goto (tgt := 66) dX11_about_51 (by decide) ?_
          exact J.iretQ dX11_about_66 rfl (Nat.le_refl _) (Nat.le_refl _) h
        · have h := h.2 hc5
          refine J.iconst (v := 1) dX11_about_46 (by decide) ?_
          refine J.goto (tgt := 66) dX11_about_47 (by decide) ?_
          exact J.iretQ dX11_about_66 rfl (Nat.le_refl _) (Nat.le_refl _) h
    · have h := h.2 hc2
      refine J.aload_n dX11_about_21 rfl rfl ?_
      refine J.ldc (v := (-1000001)) dX11_about_22 kcX11_64 ?_
      refine J.callVE (k := 0) (as := [.int (-1000001)]) (rest := []) dX11_about_24 kX11_finding vX11_finding lX11_65 (hT.k 0 rfl) rfl rfl rfl rfl rfl (by omega) (Nat.le_refl _) (Nat.le_refl _) (qX11_finding (d + 0) hT (-1000001) ) ?_
      exact J.iretQ dX11_about_27 rfl (Nat.le_refl _) (Nat.le_refl _) h
set_option maxHeartbeats 4000000 in
set_option maxRecDepth 100000 in
theorem wX11_about (d : Nat) {T : Topo} (hT : Lay T) (a1 : Int32) (a2 : Int32)   {Q : Int32 → Topo → IM → Prop} {I : IM} (h : fX11_about_0 T a1 a2 Q I) : Ct (d + 1) mX11_about [.ref 0, .int a1, .int a2] T I 0 0 (PI Q) :=
  Ct.ofJ (by decide +kernel) rfl (by intro v hv; revert v hv; simp [Value.category]) rfl (sX11_about_0 d hT a1 a2   I h)

def jX11_about (I : IM) (a1 : Int32) (a2 : Int32) : Int32 := (if hL I a1 then (if wi a2 0 8 then (if a2 = 5 then (if (((1 : Int32) <<< (a1 &&& 31)) &&& I 1 5) = 0 then 1 else 0) else (jTell I (a1).toNatClampNeg a2)) else (-1000001)) else (-1000001))
def jX11_aboutM (I : IM) (a1 : Int32) (a2 : Int32) : IM := (if hL I a1 then (if wi a2 0 8 then I else (fnd I)) else (fnd I))
def jX11_aboutK (I : IM) (a1 : Int32) (a2 : Int32) : Prop := (((¬ (hL I a1)) → True) ∧ ((hL I a1) → (((wi a2 0 8) → (((¬ a2 = 5) → (vp_in a1 9)) ∧ ((a2 = 5) → True))) ∧ ((¬ (wi a2 0 8)) → True))))
set_option maxRecDepth 10000 in
theorem qX11_about (d : Nat) {T : Topo} {I : IM} (hT : Lay T) (a1 : Int32) (a2 : Int32)  (hp : (jX11_aboutK I a1 a2)) : CtI (d + 1) mX11_about [.ref 0, .int a1, .int a2] T I (fun x_ J_ => x_ = (jX11_about I a1 a2) ∧ J_ = (jX11_aboutM I a1 a2)) :=
  wX11_about d hT a1 a2   (by
  unfold fX11_about_0
  exact ⟨fun hc1 => ⟨rfl, by unfold jX11_about; rw [if_neg hc1], by unfold jX11_aboutM; rw [if_neg hc1]⟩, fun hc1 => ⟨fun hc2 => ⟨fun hc3 => ⟨(((hp).2 hc1).1 hc2).1 hc3, ⟨rfl, by unfold jX11_about; rw [if_pos hc1, if_pos hc2, if_neg hc3], by unfold jX11_aboutM; rw [if_pos hc1, if_pos hc2]⟩⟩, fun hc3 => ⟨fun hc4 => ⟨rfl, by unfold jX11_about; rw [if_pos hc1, if_pos hc2, if_pos hc3, if_neg hc4], by unfold jX11_aboutM; rw [if_pos hc1, if_pos hc2]⟩, fun hc4 => ⟨rfl, by unfold jX11_about; rw [if_pos hc1, if_pos hc2, if_pos hc3, if_pos hc4], by unfold jX11_aboutM; rw [if_pos hc1, if_pos hc2]⟩⟩⟩, fun hc2 => ⟨rfl, by unfold jX11_about; rw [if_pos hc1, if_neg hc2], by unfold jX11_aboutM; rw [if_pos hc1, if_neg hc2]⟩⟩⟩)

def fX11_sheet_0 (T : Topo) (a1 : Int32) (a2 : Int32) (a3 : Int32) (Q : Int32 → Topo → IM → Prop)  (I : IM) : Prop :=
  ((((¬ (wi a1 0 3)) → (Q (-1000001) T (fnd I))) ∧ ((wi a1 0 3) → (((a2 = 0) → (((0 ≤ a3) → (((a3 ≤ 8) → (vp_in a1 4 ∧ (((jBeginK I a1.toNatClampNeg a2 a3)) ∧ Q ((jBegin I a1.toNatClampNeg a2 a3).1) T (jBegin I a1.toNatClampNeg a2 a3).2))) ∧ ((¬ a3 ≤ 8) → (Q (-1000001) T (fnd I))))) ∧ ((¬ 0 ≤ a3) → (Q (-1000008) T (fnd I))))) ∧ ((¬ a2 = 0) → (((a2 = 8) → (((0 ≤ a3) → (((a3 ≤ 8) → (vp_in a1 4 ∧ (((jBeginK I a1.toNatClampNeg a2 a3)) ∧ Q ((jBegin I a1.toNatClampNeg a2 a3).1) T (jBegin I a1.toNatClampNeg a2 a3).2))) ∧ ((¬ a3 ≤ 8) → (Q (-1000001) T (fnd I))))) ∧ ((¬ 0 ≤ a3) → (Q (-1000008) T (fnd I))))) ∧ ((¬ a2 = 8) → (((a2 = 16) → (((0 ≤ a3) → (((a3 ≤ 8) → (vp_in a1 4 ∧ (((jBeginK I a1.toNatClampNeg a2 a3)) ∧ Q ((jBegin I a1.toNatClampNeg a2 a3).1) T (jBegin I a1.toNatClampNeg a2 a3).2))) ∧ ((¬ a3 ≤ 8) → (Q (-1000001) T (fnd I))))) ∧ ((¬ 0 ≤ a3) → (Q (-1000008) T (fnd I))))) ∧ ((¬ a2 = 16) → (((a2 = 32) → (((0 ≤ a3) → (((a3 ≤ 8) → (vp_in a1 4 ∧ (((jBeginK I a1.toNatClampNeg a2 a3)) ∧ Q ((jBegin I a1.toNatClampNeg a2 a3).1) T (jBegin I a1.toNatClampNeg a2 a3).2))) ∧ ((¬ a3 ≤ 8) → (Q (-1000001) T (fnd I))))) ∧ ((¬ 0 ≤ a3) → (Q (-1000008) T (fnd I))))) ∧ ((¬ a2 = 32) → (Q (-1000001) T (fnd I)))))))))))))
set_option maxHeartbeats 4000000 in
set_option maxRecDepth 100000 in
theorem sX11_sheet_0 (d : Nat) {T : Topo} (hT : Lay T) (a1 : Int32) (a2 : Int32) (a3 : Int32)    {Q : Int32 → Topo → IM → Prop}   (I : IM) (h : fX11_sheet_0 T a1 a2 a3 Q  I) : J (d + 2) mX11_sheet (PI Q) 0 0 0 [some (.ref 0), some (.int a1), some (.int a2), some (.int a3)] [] T I 0 0 := by
  unfold fX11_sheet_0 at h
  refine J.iload_n dX11_sheet_0 rfl rfl ?_
  refine J.callSP (as := [.int a1]) (rest := []) dX11_sheet_1 kX11_isSheet vX11_isSheet lX11_302 rfl rfl rfl (by omega) (Nat.le_refl _) (Nat.le_refl _) (qX11_isSheet (d + 0) hT a1 ) ?_
  refine J.bz_eq (tgt := 29) dX11_sheet_4 (by decide) (fun hc1 => ?_) (fun hc1 => ?_)
  · have h := h.1 hc1
    refine J.aload_n dX11_sheet_29 rfl rfl ?_
    refine J.ldc (v := (-1000001)) dX11_sheet_30 kcX11_64 ?_
    refine J.callVE (k := 0) (as := [.int (-1000001)]) (rest := []) dX11_sheet_32 kX11_finding vX11_finding lX11_65 (hT.k 0 rfl) rfl rfl rfl rfl rfl (by omega) (Nat.le_refl _) (Nat.le_refl _) (qX11_finding (d + 1) hT (-1000001) ) ?_
    exact J.iretQ dX11_sheet_35 rfl (Nat.le_refl _) (Nat.le_refl _) h
  · have h := h.2 hc1
    refine J.iload_n dX11_sheet_7 rfl rfl ?_
    refine J.if_eq (tgt := 36) dX11_sheet_8 (by decide) (fun hc2 => ?_) (fun hc2 => ?_)
    · have h := h.1 hc2
      refine J.iload_n dX11_sheet_36 rfl rfl ?_
      refine J.if_ge (tgt := 48) dX11_sheet_37 (by decide) (fun hc3 => ?_) (fun hc3 => ?_)
      · have h := h.1 hc3
        refine J.iload_n dX11_sheet_48 rfl rfl ?_
        refine J.bipush (v := 8) dX11_sheet_49 (by decide) ?_
        refine J.icmp_le (tgt := 61) dX11_sheet_51 (by decide) (fun hc4 => ?_) (fun hc4 => ?_)
        · have h := h.1 hc4
          refine J.aload_n dX11_sheet_61 rfl rfl ?_
          refine J.getR (r := 70) dX11_sheet_62 fX11_56 (hT.k 0 rfl) rfl (hT.r 0 6 rfl rfl) ?_
          refine J.iload_n dX11_sheet_65 rfl rfl ?_
          obtain ⟨hs5, h⟩ := h
          refine J.aald (r := (71 + 2 * a1.toNatClampNeg)) dX11_sheet_66 (hT.k 70 rfl) rfl rfl (hT.l 70 rfl) hs5 (hT.sheetR (vp_lt hs5)) ?_
          refine J.iload_n dX11_sheet_67 rfl rfl ?_
          refine J.iload_n dX11_sheet_68 rfl rfl ?_
          obtain ⟨hp6, h⟩ := h
          refine J.callVE (k := (71 + 2 * a1.toNatClampNeg)) (as := [.int a2, .int a3]) (rest := []) dX11_sheet_69 kX7_begin vX7_begin lX11_306 (hT.sheetK (vp_lt hs5)) rfl rfl rfl rfl rfl (by omega) (Nat.le_refl _) (Nat.le_refl _) (qX7_begin (d + 1) hT a1.toNatClampNeg (vp_lt hs5) a2 a3 hp6) ?_
          exact J.iretQ dX11_sheet_72 rfl (Nat.le_refl _) (Nat.le_refl _) h
        · have h := h.2 hc4
          refine J.aload_n dX11_sheet_54 rfl rfl ?_
          refine J.ldc (v := (-1000001)) dX11_sheet_55 kcX11_64 ?_
          refine J.callVE (k := 0) (as := [.int (-1000001)]) (rest := []) dX11_sheet_57 kX11_finding vX11_finding lX11_65 (hT.k 0 rfl) rfl rfl rfl rfl rfl (by omega) (Nat.le_refl _) (Nat.le_refl _) (qX11_finding (d + 1) hT (-1000001) ) ?_
          exact J.iretQ dX11_sheet_60 rfl (Nat.le_refl _) (Nat.le_refl _) h
      · have h := h.2 hc3
        refine J.aload_n dX11_sheet_40 rfl rfl ?_
        refine J.ldcw (v := (-1000008)) dX11_sheet_41 kcX11_305 ?_
        refine J.callVE (k := 0) (as := [.int (-1000008)]) (rest := []) dX11_sheet_44 kX11_finding vX11_finding lX11_65 (hT.k 0 rfl) rfl rfl rfl rfl rfl (by omega) (Nat.le_refl _) (Nat.le_refl _) (qX11_finding (d + 1) hT (-1000008) ) ?_
        exact J.iretQ dX11_sheet_47 rfl (Nat.le_refl _) (Nat.le_refl _) h
    · have h := h.2 hc2
      refine J.iload_n dX11_sheet_11 rfl rfl ?_
      refine J.bipush (v := 8) dX11_sheet_12 (by decide) ?_
      refine J.icmp_eq (tgt := 36) dX11_sheet_14 (by decide) (fun hc7 => ?_) (fun hc7 => ?_)
      · have h := h.1 hc7
        refine J.iload_n dX11_sheet_36 rfl rfl ?_
        refine J.if_ge (tgt := 48) dX11_sheet_37 (by decide) (fun hc8 => ?_) (fun hc8 => ?_)
        · have h := h.1 hc8
          refine J.iload_n dX11_sheet_48 rfl rfl ?_
          refine J.bipush (v := 8) dX11_sheet_49 (by decide) ?_
          refine J.icmp_le (tgt := 61) dX11_sheet_51 (by decide) (fun hc9 => ?_) (fun hc9 => ?_)
          · have h := h.1 hc9
            refine J.aload_n dX11_sheet_61 rfl rfl ?_
            refine J.getR (r := 70) dX11_sheet_62 fX11_56 (hT.k 0 rfl) rfl (hT.r 0 6 rfl rfl) ?_
            refine J.iload_n dX11_sheet_65 rfl rfl ?_
            obtain ⟨hs10, h⟩ := h
            refine J.aald (r := (71 + 2 * a1.toNatClampNeg)) dX11_sheet_66 (hT.k 70 rfl) rfl rfl (hT.l 70 rfl) hs10 (hT.sheetR (vp_lt hs10)) ?_
            refine J.iload_n dX11_sheet_67 rfl rfl ?_
            refine J.iload_n dX11_sheet_68 rfl rfl ?_
            obtain ⟨hp11, h⟩ := h
            refine J.callVE (k := (71 + 2 * a1.toNatClampNeg)) (as := [.int a2, .int a3]) (rest := []) dX11_sheet_69 kX7_begin vX7_begin lX11_306 (hT.sheetK (vp_lt hs10)) rfl rfl rfl rfl rfl (by omega) (Nat.le_refl _) (Nat.le_refl _) (qX7_begin (d + 1) hT a1.toNatClampNeg (vp_lt hs10) a2 a3 hp11) ?_
            exact J.iretQ dX11_sheet_72 rfl (Nat.le_refl _) (Nat.le_refl _) h
          · have h := h.2 hc9
            refine J.aload_n dX11_sheet_54 rfl rfl ?_
            refine J.ldc (v := (-1000001)) dX11_sheet_55 kcX11_64 ?_
            refine J.callVE (k := 0) (as := [.int (-1000001)]) (rest := []) dX11_sheet_57 kX11_finding vX11_finding lX11_65 (hT.k 0 rfl) rfl rfl rfl rfl rfl (by omega) (Nat.le_refl _) (Nat.le_refl _) (qX11_finding (d + 1) hT (-1000001) ) ?_
            exact J.iretQ dX11_sheet_60 rfl (Nat.le_refl _) (Nat.le_refl _) h
        · have h := h.2 hc8
          refine J.aload_n dX11_sheet_40 rfl rfl ?_
          refine J.ldcw (v := (-1000008)) dX11_sheet_41 kcX11_305 ?_
          refine J.callVE (k := 0) (as := [.int (-1000008)]) (rest := []) dX11_sheet_44 kX11_finding vX11_finding lX11_65 (hT.k 0 rfl) rfl rfl rfl rfl rfl (by omega) (Nat.le_refl _) (Nat.le_refl _) (qX11_finding (d + 1) hT (-1000008) ) ?_
          exact J.iretQ dX11_sheet_47 rfl (Nat.le_refl _) (Nat.le_refl _) h
      · have h := h.2 hc7
        refine J.iload_n dX11_sheet_17 rfl rfl ?_
        refine J.bipush (v := 16) dX11_sheet_18 (by decide) ?_
        refine J.icmp_eq (tgt := 36) dX11_sheet_20 (by decide) (fun hc12 => ?_) (fun hc12 => ?_)
        · have h := h.1 hc12
          refine J.iload_n dX11_sheet_36 rfl rfl ?_
          refine J.if_ge (tgt := 48) dX11_sheet_37 (by decide) (fun hc13 => ?_) (fun hc13 => ?_)
          · have h := h.1 hc13
            refine J.iload_n dX11_sheet_48 rfl rfl ?_
            refine J.bipush (v := 8) dX11_sheet_49 (by decide) ?_
            refine J.icmp_le (tgt := 61) dX11_sheet_51 (by decide) (fun hc14 => ?_) (fun hc14 => ?_)
            · have h := h.1 hc14
              refine J.aload_n dX11_sheet_61 rfl rfl ?_
              refine J.getR (r := 70) dX11_sheet_62 fX11_56 (hT.k 0 rfl) rfl (hT.r 0 6 rfl rfl) ?_
              refine J.iload_n dX11_sheet_65 rfl rfl ?_
              obtain ⟨hs15, h⟩ := h
              refine J.aald (r := (71 + 2 * a1.toNatClampNeg)) dX11_sheet_66 (hT.k 70 rfl) rfl rfl (hT.l 70 rfl) hs15 (hT.sheetR (vp_lt hs15)) ?_
              refine J.iload_n dX11_sheet_67 rfl rfl ?_
              refine J.iload_n dX11_sheet_68 rfl rfl ?_
              obtain ⟨hp16, h⟩ := h
              refine J.callVE (k := (71 + 2 * a1.toNatClampNeg)) (as := [.int a2, .int a3]) (rest := []) dX11_sheet_69 kX7_begin vX7_begin lX11_306 (hT.sheetK (vp_lt hs15)) rfl rfl rfl rfl rfl (by omega) (Nat.le_refl _) (Nat.le_refl _) (qX7_begin (d + 1) hT a1.toNatClampNeg (vp_lt hs15) a2 a3 hp16) ?_
              exact J.iretQ dX11_sheet_72 rfl (Nat.le_refl _) (Nat.le_refl _) h
            · have h := h.2 hc14
              refine J.aload_n dX11_sheet_54 rfl rfl ?_
              refine J.ldc (v := (-1000001)) dX11_sheet_55 kcX11_64 ?_
              refine J.callVE (k := 0) (as := [.int (-1000001)]) (rest := []) dX11_sheet_57 kX11_finding vX11_finding lX11_65 (hT.k 0 rfl) rfl rfl rfl rfl rfl (by omega) (Nat.le_refl _) (Nat.le_refl _) (qX11_finding (d + 1) hT (-1000001) ) ?_
              exact J.iretQ dX11_sheet_60 rfl (Nat.le_refl _) (Nat.le_refl _) h
          · have h := h.2 hc13
            refine J.aload_n dX11_sheet_40 rfl rfl ?_
            refine J.ldcw (v := (-1000008)) dX11_sheet_41 kcX11_305 ?_
            refine J.callVE (k := 0) (as := [.int (-1000008)]) (rest := []) dX11_sheet_44 kX11_finding vX11_finding lX11_65 (hT.k 0 rfl) rfl rfl rfl rfl rfl (by omega) (Nat.le_refl _) (Nat.le_refl _) (qX11_finding (d + 1) hT (-1000008) ) ?_
            exact J.iretQ dX11_sheet_47 rfl (Nat.le_refl _) (Nat.le_refl _) h
        · have h := h.2 hc12
          refine J.iload_n dX11_sheet_23 rfl rfl ?_
          refine J.bipush (v := 32) dX11_sheet_24 (by decide) ?_
          refine J.icmp_eq (tgt := 36) dX11_sheet_26 (by decide) (fun hc17 => ?_) (fun hc17 => ?_)
          · have h := h.1 hc17
            refine J.iload_n dX11_sheet_36 rfl rfl ?_
            refine J.if_ge (tgt := 48) dX11_sheet_37 (by decide) (fun hc18 => ?_) (fun hc18 => ?_)
            · have h := h.1 hc18
              refine J.iload_n dX11_sheet_48 rfl rfl ?_
              refine J.bipush (v := 8) dX11_sheet_49 (by decide) ?_
              refine J.icmp_le (tgt := 61) dX11_sheet_51 (by decide) (fun hc19 => ?_) (fun hc19 => ?_)
              · have h := h.1 hc19
                refine J.aload_n dX11_sheet_61 rfl rfl ?_
                refine J.getR (r := 70) dX11_sheet_62 fX11_56 (hT.k 0 rfl) rfl (hT.r 0 6 rfl rfl) ?_
                refine J.iload_n dX11_sheet_65 rfl rfl ?_
                obtain ⟨hs20, h⟩ := h
                refine J.aald (r := (71 + 2 * a1.toNatClampNeg)) dX11_sheet_66 (hT.k 70 rfl) rfl rfl (hT.l 70 rfl) hs20 (hT.sheetR (vp_lt hs20)) ?_
                refine J.iload_n dX11_sheet_67 rfl rfl ?_
                refine J.iload_n dX11_sheet_68 rfl rfl ?_
                obtain ⟨hp21, h⟩ := h
                refine J.callVE (k := (71 + 2 * a1.toNatClampNeg)) (as := [.int a2, .int a3]) (rest := []) dX11_sheet_69 kX7_begin vX7_begin lX11_306 (hT.sheetK (vp_lt hs20)) rfl rfl rfl rfl rfl (by omega) (Nat.le_refl _) (Nat.le_refl _) (qX7_begin (d + 1) hT a1.toNatClampNeg (vp_lt hs20) a2 a3 hp21) ?_
                exact J.iretQ dX11_sheet_72 rfl (Nat.le_refl _) (Nat.le_refl _) h
              · have h := h.2 hc19
                refine J.aload_n dX11_sheet_54 rfl rfl ?_
                refine J.ldc (v := (-1000001)) dX11_sheet_55 kcX11_64 ?_
                refine J.callVE (k := 0) (as := [.int (-1000001)]) (rest := []) dX11_sheet_57 kX11_finding vX11_finding lX11_65 (hT.k 0 rfl) rfl rfl rfl rfl rfl (by omega) (Nat.le_refl _) (Nat.le_refl _) (qX11_finding (d + 1) hT (-1000001) ) ?_
                exact J.iretQ dX11_sheet_60 rfl (Nat.le_refl _) (Nat.le_refl _) h
            · have h := h.2 hc18
              refine J.aload_n dX11_sheet_40 rfl rfl ?_
              refine J.ldcw (v := (-1000008)) dX11_sheet_41 kcX11_305 ?_
              refine J.callVE (k := 0) (as := [.int (-1000008)]) (rest := []) dX11_sheet_44 kX11_finding vX11_finding lX11_65 (hT.k 0 rfl) rfl rfl rfl rfl rfl (by omega) (Nat.le_refl _) (Nat.le_refl _) (qX11_finding (d + 1) hT (-1000008) ) ?_
              exact J.iretQ dX11_sheet_47 rfl (Nat.le_refl _) (Nat.le_refl _) h
          · have h := h.2 hc17
            refine J.aload_n dX11_sheet_29 rfl rfl ?_
            refine J.ldc (v := (-1000001)) dX11_sheet_30 kcX11_64 ?_
            refine J.callVE (k := 0) (as := [.int (-1000001)]) (rest := []) dX11_sheet_32 kX11_finding vX11_finding lX11_65 (hT.k 0 rfl) rfl rfl rfl rfl rfl (by omega) (Nat.le_refl _) (Nat.le_refl _) (qX11_finding (d + 1) hT (-1000001) ) ?_
            exact J.iretQ dX11_sheet_35 rfl (Nat.le_refl _) (Nat.le_refl _) h
set_option maxHeartbeats 4000000 in
set_option maxRecDepth 100000 in
theorem wX11_sheet (d : Nat) {T : Topo} (hT : Lay T) (a1 : Int32) (a2 : Int32) (a3 : Int32)   {Q : Int32 → Topo → IM → Prop} {I : IM} (h : fX11_sheet_0 T a1 a2 a3 Q I) : Ct (d + 2) mX11_sheet [.ref 0, .int a1, .int a2, .int a3] T I 0 0 (PI Q) :=
  Ct.ofJ (by decide +kernel) rfl (by intro v hv; revert v hv; simp [Value.category]) rfl (sX11_sheet_0 d hT a1 a2 a3   I h)

def jX11_sheet (I : IM) (a1 : Int32) (a2 : Int32) (a3 : Int32) : Int32 := (if wi a1 0 3 then (if a2 = 0 then (if 0 ≤ a3 then (if a3 ≤ 8 then (jBegin I a1.toNatClampNeg a2 a3).1 else (-1000001)) else (-1000008)) else (if a2 = 8 then (if 0 ≤ a3 then (if a3 ≤ 8 then (jBegin I a1.toNatClampNeg a2 a3).1 else (-1000001)) else (-1000008)) else (if a2 = 16 then (if 0 ≤ a3 then (if a3 ≤ 8 then (jBegin I a1.toNatClampNeg a2 a3).1 else (-1000001)) else (-1000008)) else (if a2 = 32 then (if 0 ≤ a3 then (if a3 ≤ 8 then (jBegin I a1.toNatClampNeg a2 a3).1 else (-1000001)) else (-1000008)) else (-1000001))))) else (-1000001))
def jX11_sheetM (I : IM) (a1 : Int32) (a2 : Int32) (a3 : Int32) : IM := (if wi a1 0 3 then (if a2 = 0 then (if 0 ≤ a3 then (if a3 ≤ 8 then (jBegin I a1.toNatClampNeg a2 a3).2 else (fnd I)) else (fnd I)) else (if a2 = 8 then (if 0 ≤ a3 then (if a3 ≤ 8 then (jBegin I a1.toNatClampNeg a2 a3).2 else (fnd I)) else (fnd I)) else (if a2 = 16 then (if 0 ≤ a3 then (if a3 ≤ 8 then (jBegin I a1.toNatClampNeg a2 a3).2 else (fnd I)) else (fnd I)) else (if a2 = 32 then (if 0 ≤ a3 then (if a3 ≤ 8 then (jBegin I a1.toNatClampNeg a2 a3).2 else (fnd I)) else (fnd I)) else (fnd I))))) else (fnd I))
def jX11_sheetK (I : IM) (a1 : Int32) (a2 : Int32) (a3 : Int32) : Prop := (((¬ (wi a1 0 3)) → True) ∧ ((wi a1 0 3) → (((a2 = 0) → (((0 ≤ a3) → (((a3 ≤ 8) → (vp_in a1 4 ∧ ((jBeginK I a1.toNatClampNeg a2 a3)))) ∧ ((¬ a3 ≤ 8) → True))) ∧ ((¬ 0 ≤ a3) → True))) ∧ ((¬ a2 = 0) → (((a2 = 8) → (((0 ≤ a3) → (((a3 ≤ 8) → (vp_in a1 4 ∧ ((jBeginK I a1.toNatClampNeg a2 a3)))) ∧ ((¬ a3 ≤ 8) → True))) ∧ ((¬ 0 ≤ a3) → True))) ∧ ((¬ a2 = 8) → (((a2 = 16) → (((0 ≤ a3) → (((a3 ≤ 8) → (vp_in a1 4 ∧ ((jBeginK I a1.toNatClampNeg a2 a3)))) ∧ ((¬ a3 ≤ 8) → True))) ∧ ((¬ 0 ≤ a3) → True))) ∧ ((¬ a2 = 16) → (((a2 = 32) → (((0 ≤ a3) → (((a3 ≤ 8) → (vp_in a1 4 ∧ ((jBeginK I a1.toNatClampNeg a2 a3)))) ∧ ((¬ a3 ≤ 8) → True))) ∧ ((¬ 0 ≤ a3) → True))) ∧ ((¬ a2 = 32) → True))))))))))
set_option maxRecDepth 10000 in
theorem qX11_sheet (d : Nat) {T : Topo} {I : IM} (hT : Lay T) (a1 : Int32) (a2 : Int32) (a3 : Int32)  (hp : (jX11_sheetK I a1 a2 a3)) : CtI (d + 2) mX11_sheet [.ref 0, .int a1, .int a2, .int a3] T I (fun x_ J_ => x_ = (jX11_sheet I a1 a2 a3) ∧ J_ = (jX11_sheetM I a1 a2 a3)) :=
  wX11_sheet d hT a1 a2 a3   (by
  unfold fX11_sheet_0
  exact ⟨fun hc1 => ⟨rfl, by unfold jX11_sheet; rw [if_neg hc1], by unfold jX11_sheetM; rw [if_neg hc1]⟩, fun hc1 => ⟨fun hc2 => ⟨fun hc3 => ⟨fun hc4 => ⟨(((((hp).2 hc1).1 hc2).1 hc3).1 hc4).1, ⟨(((((hp).2 hc1).1 hc2).1 hc3).1 hc4).2, ⟨rfl, by unfold jX11_sheet; rw [if_pos hc1, if_pos hc2, if_pos hc3, if_pos hc4], by unfold jX11_sheetM; rw [if_pos hc1, if_pos hc2, if_pos hc3, if_pos hc4]⟩⟩⟩, fun hc4 => ⟨rfl, by unfold jX11_sheet; rw [if_pos hc1, if_pos hc2, if_pos hc3, if_neg hc4], by unfold jX11_sheetM; rw [if_pos hc1, if_pos hc2, if_pos hc3, if_neg hc4]⟩⟩, fun hc3 => ⟨rfl, by unfold jX11_sheet; rw [if_pos hc1, if_pos hc2, if_neg hc3], by unfold jX11_sheetM; rw [if_pos hc1, if_pos hc2, if_neg hc3]⟩⟩, fun hc2 => ⟨fun hc5 => ⟨fun hc6 => ⟨fun hc7 => ⟨((((((hp).2 hc1).2 hc2).1 hc5).1 hc6).1 hc7).1, ⟨((((((hp).2 hc1).2 hc2).1 hc5).1 hc6).1 hc7).2, ⟨rfl, by unfold jX11_sheet; rw [if_pos hc1, if_neg hc2, if_pos hc5, if_pos hc6, if_pos hc7], by unfold jX11_sheetM; rw [if_pos hc1, if_neg hc2, if_pos hc5, if_pos hc6, if_pos hc7]⟩⟩⟩, fun hc7 => ⟨rfl, by unfold jX11_sheet; rw [if_pos hc1, if_neg hc2, if_pos hc5, if_pos hc6, if_neg hc7], by unfold jX11_sheetM; rw [if_pos hc1, if_neg hc2, if_pos hc5, if_pos hc6, if_neg hc7]⟩⟩, fun hc6 => ⟨rfl, by unfold jX11_sheet; rw [if_pos hc1, if_neg hc2, if_pos hc5, if_neg hc6], by unfold jX11_sheetM; rw [if_pos hc1, if_neg hc2, if_pos hc5, if_neg hc6]⟩⟩, fun hc5 => ⟨fun hc8 => ⟨fun hc9 => ⟨fun hc10 => ⟨(((((((hp).2 hc1).2 hc2).2 hc5).1 hc8).1 hc9).1 hc10).1, ⟨(((((((hp).2 hc1).2 hc2).2 hc5).1 hc8).1 hc9).1 hc10).2, ⟨rfl, by unfold jX11_sheet; rw [if_pos hc1, if_neg hc2, if_neg hc5, if_pos hc8, if_pos hc9, if_pos hc10], by unfold jX11_sheetM; rw [if_pos hc1, if_neg hc2, if_neg hc5, if_pos hc8, if_pos hc9, if_pos hc10]⟩⟩⟩, fun hc10 => ⟨rfl, by unfold jX11_sheet; rw [if_pos hc1, if_neg hc2, if_neg hc5, if_pos hc8, if_pos hc9, if_neg hc10], by unfold jX11_sheetM; rw [if_pos hc1, if_neg hc2, if_neg hc5, if_pos hc8, if_pos hc9, if_neg hc10]⟩⟩, fun hc9 => ⟨rfl, by unfold jX11_sheet; rw [if_pos hc1, if_neg hc2, if_neg hc5, if_pos hc8, if_neg hc9], by unfold jX11_sheetM; rw [if_pos hc1, if_neg hc2, if_neg hc5, if_pos hc8, if_neg hc9]⟩⟩, fun hc8 => ⟨fun hc11 => ⟨fun hc12 => ⟨fun hc13 => ⟨((((((((hp).2 hc1).2 hc2).2 hc5).2 hc8).1 hc11).1 hc12).1 hc13).1, ⟨((((((((hp).2 hc1).2 hc2).2 hc5).2 hc8).1 hc11).1 hc12).1 hc13).2, ⟨rfl, by unfold jX11_sheet; rw [if_pos hc1, if_neg hc2, if_neg hc5, if_neg hc8, if_pos hc11, if_pos hc12, if_pos hc13], by unfold jX11_sheetM; rw [if_pos hc1, if_neg hc2, if_neg hc5, if_neg hc8, if_pos hc11, if_pos hc12, if_pos hc13]⟩⟩⟩, fun hc13 => ⟨rfl, by unfold jX11_sheet; rw [if_pos hc1, if_neg hc2, if_neg hc5, if_neg hc8, if_pos hc11, if_pos hc12, if_neg hc13], by unfold jX11_sheetM; rw [if_pos hc1, if_neg hc2, if_neg hc5, if_neg hc8, if_pos hc11, if_pos hc12, if_neg hc13]⟩⟩, fun hc12 => ⟨rfl, by unfold jX11_sheet; rw [if_pos hc1, if_neg hc2, if_neg hc5, if_neg hc8, if_pos hc11, if_neg hc12], by unfold jX11_sheetM; rw [if_pos hc1, if_neg hc2, if_neg hc5, if_neg hc8, if_pos hc11, if_neg hc12]⟩⟩, fun hc11 => ⟨rfl, by unfold jX11_sheet; rw [if_pos hc1, if_neg hc2, if_neg hc5, if_neg hc8, if_neg hc11], by unfold jX11_sheetM; rw [if_pos hc1, if_neg hc2, if_neg hc5, if_neg hc8, if_neg hc11]⟩⟩⟩⟩⟩⟩)

def fX11_write_0 (T : Topo) (a1 : Int32) (a2 : Int32) (a3 : Int32) (Q : Int32 → Topo → IM → Prop)  (I : IM) : Prop :=
  ((((wi a1 0 3) → (vp_in a1 4 ∧ ((((¬ (I (71 + 2 * a1.toNatClampNeg) 1 = 0)) → (vp_in a1 4 ∧ ((((¬ (wi a2 0 ((I (71 + 2 * a1.toNatClampNeg) 2) - 1))) → (Q (-1000001) T (fnd I))) ∧ ((wi a2 0 ((I (71 + 2 * a1.toNatClampNeg) 2) - 1)) → (vp_in a1 4 ∧ (((jPutK a2)) ∧ Q (jPut I a1.toNatClampNeg a2) T (jPutM I a1.toNatClampNeg a2 a3)))))))) ∧ ((I (71 + 2 * a1.toNatClampNeg) 1 = 0) → (Q (-1000007) T (fnd I))))))) ∧ ((¬ (wi a1 0 3)) → (Q (-1000001) T (fnd I)))))
set_option maxHeartbeats 4000000 in
set_option maxRecDepth 100000 in
theorem sX11_write_0 (d : Nat) {T : Topo} (hT : Lay T) (a1 : Int32) (a2 : Int32) (a3 : Int32)    {Q : Int32 → Topo → IM → Prop}   (I : IM) (h : fX11_write_0 T a1 a2 a3 Q  I) : J (d + 2) mX11_write (PI Q) 0 0 0 [some (.ref 0), some (.int a1), some (.int a2), some (.int a3)] [] T I 0 0 := by
  unfold fX11_write_0 at h
  refine J.iload_n dX11_write_0 rfl rfl ?_
  refine J.callSP (as := [.int a1]) (rest := []) dX11_write_1 kX11_isSheet vX11_isSheet lX11_302 rfl rfl rfl (by omega) (Nat.le_refl _) (Nat.le_refl _) (qX11_isSheet (d + 0) hT a1 ) ?_
  refine J.bz_ne (tgt := 14) dX11_write_4 (by decide) (fun hc1 => ?_) (fun hc1 => ?_)
  · have h := h.1 hc1
    refine J.aload_n dX11_write_14 rfl rfl ?_
    refine J.getR (r := 70) dX11_write_15 fX11_56 (hT.k 0 rfl) rfl (hT.r 0 6 rfl rfl) ?_
    refine J.iload_n dX11_write_18 rfl rfl ?_
    obtain ⟨hs2, h⟩ := h
    refine J.aald (r := (71 + 2 * a1.toNatClampNeg)) dX11_write_19 (hT.k 70 rfl) rfl rfl (hT.l 70 rfl) hs2 (hT.sheetR (vp_lt hs2)) ?_
    refine J.callVP (k := (71 + 2 * a1.toNatClampNeg)) (as := []) (rest := []) dX11_write_20 kX7_isMissing vX7_isMissing lX11_308 (hT.sheetK (vp_lt hs2)) rfl rfl rfl rfl rfl (by omega) (Nat.le_refl _) (Nat.le_refl _) (qX7_isMissing (d + 1) hT a1.toNatClampNeg (vp_lt hs2) ) ?_
    refine J.bz_eq (tgt := 34) dX11_write_23 (by decide) (fun hc3 => ?_) (fun hc3 => ?_)
    · have h := h.1 hc3
      refine J.iload_n dX11_write_34 rfl rfl ?_
      refine J.iconst (v := 0) dX11_write_35 (by decide) ?_
      refine J.aload_n dX11_write_36 rfl rfl ?_
      refine J.getR (r := 70) dX11_write_37 fX11_56 (hT.k 0 rfl) rfl (hT.r 0 6 rfl rfl) ?_
      refine J.iload_n dX11_write_40 rfl rfl ?_
      obtain ⟨hs4, h⟩ := h
      refine J.aald (r := (71 + 2 * a1.toNatClampNeg)) dX11_write_41 (hT.k 70 rfl) rfl rfl (hT.l 70 rfl) hs4 (hT.sheetR (vp_lt hs4)) ?_
      refine J.getI dX11_write_42 fX11_312 (hT.sheetK (vp_lt hs4)) rfl ?_
      refine J.iconst (v := 1) dX11_write_45 (by decide) ?_
      refine J.isub dX11_write_46 ?_
      refine J.callSP (as := [.int a2, .int 0, .int ((I (71 + 2 * a1.toNatClampNeg) 2) - 1)]) (rest := []) dX11_write_47 kX11_isWithin vX11_isWithin lX11_60 rfl rfl rfl (by omega) (Nat.le_refl _) (Nat.le_refl _) (qX11_isWithin (d + 1) hT a2 0 ((I (71 + 2 * a1.toNatClampNeg) 2) - 1) ) ?_
      refine J.bz_eq (tgt := 67) dX11_write_50 (by decide) (fun hc5 => ?_) (fun hc5 => ?_)
      · have h := h.1 hc5
        refine J.aload_n dX11_write_67 rfl rfl ?_
        refine J.ldc (v := (-1000001)) dX11_write_68 kcX11_64 ?_
        refine J.callVE (k := 0) (as := [.int (-1000001)]) (rest := []) dX11_write_70 kX11_finding vX11_finding lX11_65 (hT.k 0 rfl) rfl rfl rfl rfl rfl (by omega) (Nat.le_refl _) (Nat.le_refl _) (qX11_finding (d + 1) hT (-1000001) ) ?_
        exact J.iretQ dX11_write_73 rfl (Nat.le_refl _) (Nat.le_refl _) h
      · have h := h.2 hc5
        refine J.aload_n dX11_write_53 rfl rfl ?_
        refine J.getR (r := 70) dX11_write_54 fX11_56 (hT.k 0 rfl) rfl (hT.r 0 6 rfl rfl) ?_
        refine J.iload_n dX11_write_57 rfl rfl ?_
        obtain ⟨hs6, h⟩ := h
        refine J.aald (r := (71 + 2 * a1.toNatClampNeg)) dX11_write_58 (hT.k 70 rfl) rfl rfl (hT.l 70 rfl) hs6 (hT.sheetR (vp_lt hs6)) ?_
        refine J.iload_n dX11_write_59 rfl rfl ?_
        refine J.iload_n dX11_write_60 rfl rfl ?_
        obtain ⟨hp7, h⟩ := h
        refine J.callVE (k := (71 + 2 * a1.toNatClampNeg)) (as := [.int a2, .int a3]) (rest := []) dX11_write_61 kX7_put vX7_put lX11_313 (hT.sheetK (vp_lt hs6)) rfl rfl rfl rfl rfl (by omega) (Nat.le_refl _) (Nat.le_refl _) (qX7_put (d + 0) hT a1.toNatClampNeg (vp_lt hs6) a2 a3 hp7) ?_
        refine J.goto (tgt := 73) dX11_write_64 (by decide) ?_
        exact J.iretQ dX11_write_73 rfl (Nat.le_refl _) (Nat.le_refl _) h
    · have h := h.2 hc3
      refine J.aload_n dX11_write_26 rfl rfl ?_
      refine J.ldcw (v := (-1000007)) dX11_write_27 kcX11_311 ?_
      refine J.callVE (k := 0) (as := [.int (-1000007)]) (rest := []) dX11_write_30 kX11_finding vX11_finding lX11_65 (hT.k 0 rfl) rfl rfl rfl rfl rfl (by omega) (Nat.le_refl _) (Nat.le_refl _) (qX11_finding (d + 1) hT (-1000007) ) ?_
      exact J.iretQ dX11_write_33 rfl (Nat.le_refl _) (Nat.le_refl _) h
  · have h := h.2 hc1
    refine J.aload_n dX11_write_7 rfl rfl ?_
    refine J.ldc (v := (-1000001)) dX11_write_8 kcX11_64 ?_
    refine J.callVE (k := 0) (as := [.int (-1000001)]) (rest := []) dX11_write_10 kX11_finding vX11_finding lX11_65 (hT.k 0 rfl) rfl rfl rfl rfl rfl (by omega) (Nat.le_refl _) (Nat.le_refl _) (qX11_finding (d + 1) hT (-1000001) ) ?_
    exact J.iretQ dX11_write_13 rfl (Nat.le_refl _) (Nat.le_refl _) h
set_option maxHeartbeats 4000000 in
set_option maxRecDepth 100000 in
theorem wX11_write (d : Nat) {T : Topo} (hT : Lay T) (a1 : Int32) (a2 : Int32) (a3 : Int32)   {Q : Int32 → Topo → IM → Prop} {I : IM} (h : fX11_write_0 T a1 a2 a3 Q I) : Ct (d + 2) mX11_write [.ref 0, .int a1, .int a2, .int a3] T I 0 0 (PI Q) :=
  Ct.ofJ (by decide +kernel) rfl (by intro v hv; revert v hv; simp [Value.category]) rfl (sX11_write_0 d hT a1 a2 a3   I h)

def jX11_write (I : IM) (a1 : Int32) (a2 : Int32) : Int32 := (if wi a1 0 3 then (if I (71 + 2 * a1.toNatClampNeg) 1 = 0 then (-1000007) else (if wi a2 0 ((I (71 + 2 * a1.toNatClampNeg) 2) - 1) then (jPut I a1.toNatClampNeg a2) else (-1000001))) else (-1000001))
def jX11_writeM (I : IM) (a1 : Int32) (a2 : Int32) (a3 : Int32) : IM := (if wi a1 0 3 then (if I (71 + 2 * a1.toNatClampNeg) 1 = 0 then (fnd I) else (if wi a2 0 ((I (71 + 2 * a1.toNatClampNeg) 2) - 1) then (jPutM I a1.toNatClampNeg a2 a3) else (fnd I))) else (fnd I))
def jX11_writeK (I : IM) (a1 : Int32) (a2 : Int32) : Prop := (((wi a1 0 3) → (vp_in a1 4 ∧ (((¬ (I (71 + 2 * a1.toNatClampNeg) 1 = 0)) → (vp_in a1 4 ∧ (((¬ (wi a2 0 ((I (71 + 2 * a1.toNatClampNeg) 2) - 1))) → True) ∧ ((wi a2 0 ((I (71 + 2 * a1.toNatClampNeg) 2) - 1)) → (vp_in a1 4 ∧ ((jPutK a2))))))) ∧ ((I (71 + 2 * a1.toNatClampNeg) 1 = 0) → True)))) ∧ ((¬ (wi a1 0 3)) → True))
set_option maxRecDepth 10000 in
theorem qX11_write (d : Nat) {T : Topo} {I : IM} (hT : Lay T) (a1 : Int32) (a2 : Int32) (a3 : Int32)  (hp : (jX11_writeK I a1 a2)) : CtI (d + 2) mX11_write [.ref 0, .int a1, .int a2, .int a3] T I (fun x_ J_ => x_ = (jX11_write I a1 a2) ∧ J_ = (jX11_writeM I a1 a2 a3)) :=
  wX11_write d hT a1 a2 a3   (by
  unfold fX11_write_0
  exact ⟨fun hc1 => ⟨((hp).1 hc1).1, ⟨fun hc2 => ⟨((((hp).1 hc1).2).1 hc2).1, ⟨fun hc3 => ⟨rfl, by unfold jX11_write; rw [if_pos hc1, if_neg hc2, if_neg hc3], by unfold jX11_writeM; rw [if_pos hc1, if_neg hc2, if_neg hc3]⟩, fun hc3 => ⟨((((((hp).1 hc1).2).1 hc2).2).2 hc3).1, ⟨((((((hp).1 hc1).2).1 hc2).2).2 hc3).2, ⟨rfl, by unfold jX11_write; rw [if_pos hc1, if_neg hc2, if_pos hc3], by unfold jX11_writeM; rw [if_pos hc1, if_neg hc2, if_pos hc3]⟩⟩⟩⟩⟩, fun hc2 => ⟨rfl, by unfold jX11_write; rw [if_pos hc1, if_pos hc2], by unfold jX11_writeM; rw [if_pos hc1, if_pos hc2]⟩⟩⟩, fun hc1 => ⟨rfl, by unfold jX11_write; rw [if_neg hc1], by unfold jX11_writeM; rw [if_neg hc1]⟩⟩)

def fX11_copy_0 (T : Topo) (a1 : Int32) (a2 : Int32) (a3 : Int32) (a4 : Int32) (a5 : Int32) (Q : Int32 → Topo → IM → Prop)  (I : IM) : Prop :=
  ((((¬ (wi a1 0 3)) → (Q (-1000001) T (fnd I))) ∧ ((wi a1 0 3) → ((((wi a3 0 3) → (vp_in a1 4 ∧ ((((I (71 + 2 * a1.toNatClampNeg) 1 = 0) → (Q (-1000007) T (fnd I))) ∧ ((¬ (I (71 + 2 * a1.toNatClampNeg) 1 = 0)) → (vp_in a3 4 ∧ ((((¬ (I (71 + 2 * a3.toNatClampNeg) 1 = 0)) → (vp_in a1 4 ∧ (vp_in a3 4 ∧ ((((I (71 + 2 * a1.toNatClampNeg) 1) = (I (71 + 2 * a3.toNatClampNeg) 1)) → (vp_in a1 4 ∧ (((((jHasRun I a1.toNatClampNeg a2 a5) = 0) → (Q (-1000001) T (fnd I))) ∧ ((¬ (jHasRun I a1.toNatClampNeg a2 a5) = 0) → (vp_in a3 4 ∧ ((((¬ (jHasRun I a3.toNatClampNeg a4 a5) = 0) → (vp_in a1 4 ∧ (vp_in a3 4 ∧ ((¬ a2 < 0 ∧ ¬ a4 < 0 ∧ ¬ a5 < 0 ∧ a2.toNatClampNeg + a5.toNatClampNeg ≤ 8 ∧ a4.toNatClampNeg + a5.toNatClampNeg ≤ 8) ∧ Q a5 T (cpy2 I (72 + 2 * a1.toNatClampNeg) (72 + 2 * a3.toNatClampNeg) a2.toNatClampNeg a4.toNatClampNeg a5.toNatClampNeg))))) ∧ (((jHasRun I a3.toNatClampNeg a4 a5) = 0) → (Q (-1000001) T (fnd I))))))))))) ∧ ((¬ (I (71 + 2 * a1.toNatClampNeg) 1) = (I (71 + 2 * a3.toNatClampNeg) 1)) → (Q (-1000004) T (fnd I))))))) ∧ ((I (71 + 2 * a3.toNatClampNeg) 1 = 0) → (Q (-1000007) T (fnd I))))))))))) ∧ ((¬ (wi a3 0 3)) → (Q (-1000001) T (fnd I))))))))
set_option maxHeartbeats 4000000 in
set_option maxRecDepth 100000 in
theorem sX11_copy_0 (d : Nat) {T : Topo} (hT : Lay T) (a1 : Int32) (a2 : Int32) (a3 : Int32) (a4 : Int32) (a5 : Int32)    {Q : Int32 → Topo → IM → Prop}   (I : IM) (h : fX11_copy_0 T a1 a2 a3 a4 a5 Q  I) : J (d + 2) mX11_copy (PI Q) 0 0 0 [some (.ref 0), some (.int a1), some (.int a2), some (.int a3), some (.int a4), some (.int a5)] [] T I 0 0 := by
  unfold fX11_copy_0 at h
  refine J.iload_n dX11_copy_0 rfl rfl ?_
  refine J.callSP (as := [.int a1]) (rest := []) dX11_copy_1 kX11_isSheet vX11_isSheet lX11_302 rfl rfl rfl (by omega) (Nat.le_refl _) (Nat.le_refl _) (qX11_isSheet (d + 0) hT a1 ) ?_
  refine J.bz_eq (tgt := 14) dX11_copy_4 (by decide) (fun hc1 => ?_) (fun hc1 => ?_)
  · have h := h.1 hc1
    refine J.aload_n dX11_copy_14 rfl rfl ?_
    refine J.ldc (v := (-1000001)) dX11_copy_15 kcX11_64 ?_
    refine J.callVE (k := 0) (as := [.int (-1000001)]) (rest := []) dX11_copy_17 kX11_finding vX11_finding lX11_65 (hT.k 0 rfl) rfl rfl rfl rfl rfl (by omega) (Nat.le_refl _) (Nat.le_refl _) (qX11_finding (d + 1) hT (-1000001) ) ?_
    exact J.iretQ dX11_copy_20 rfl (Nat.le_refl _) (Nat.le_refl _) h
  · have h := h.2 hc1
    refine J.iload_n dX11_copy_7 rfl rfl ?_
    refine J.callSP (as := [.int a3]) (rest := []) dX11_copy_8 kX11_isSheet vX11_isSheet lX11_302 rfl rfl rfl (by omega) (Nat.le_refl _) (Nat.le_refl _) (qX11_isSheet (d + 0) hT a3 ) ?_
    refine J.bz_ne (tgt := 21) dX11_copy_11 (by decide) (fun hc2 => ?_) (fun hc2 => ?_)
    · have h := h.1 hc2
      refine J.aload_n dX11_copy_21 rfl rfl ?_
      refine J.getR (r := 70) dX11_copy_22 fX11_56 (hT.k 0 rfl) rfl (hT.r 0 6 rfl rfl) ?_
      refine J.iload_n dX11_copy_25 rfl rfl ?_
      obtain ⟨hs3, h⟩ := h
      refine J.aald (r := (71 + 2 * a1.toNatClampNeg)) dX11_copy_26 (hT.k 70 rfl) rfl rfl (hT.l 70 rfl) hs3 (hT.sheetR (vp_lt hs3)) ?_
      refine J.callVP (k := (71 + 2 * a1.toNatClampNeg)) (as := []) (rest := []) dX11_copy_27 kX7_isMissing vX7_isMissing lX11_308 (hT.sheetK (vp_lt hs3)) rfl rfl rfl rfl rfl (by omega) (Nat.le_refl _) (Nat.le_refl _) (qX7_isMissing (d + 1) hT a1.toNatClampNeg (vp_lt hs3) ) ?_
      refine J.bz_ne (tgt := 45) dX11_copy_30 (by decide) (fun hc4 => ?_) (fun hc4 => ?_)
      · have h := h.1 hc4
        refine J.aload_n dX11_copy_45 rfl rfl ?_
        refine J.ldcw (v := (-1000007)) dX11_copy_46 kcX11_311 ?_
        refine J.callVE (k := 0) (as := [.int (-1000007)]) (rest := []) dX11_copy_49 kX11_finding vX11_finding lX11_65 (hT.k 0 rfl) rfl rfl rfl rfl rfl (by omega) (Nat.le_refl _) (Nat.le_refl _) (qX11_finding (d + 1) hT (-1000007) ) ?_
        exact J.iretQ dX11_copy_52 rfl (Nat.le_refl _) (Nat.le_refl _) h
      · have h := h.2 hc4
        refine J.aload_n dX11_copy_33 rfl rfl ?_
        refine J.getR (r := 70) dX11_copy_34 fX11_56 (hT.k 0 rfl) rfl (hT.r 0 6 rfl rfl) ?_
        refine J.iload_n dX11_copy_37 rfl rfl ?_
        obtain ⟨hs5, h⟩ := h
        refine J.aald (r := (71 + 2 * a3.toNatClampNeg)) dX11_copy_38 (hT.k 70 rfl) rfl rfl (hT.l 70 rfl) hs5 (hT.sheetR (vp_lt hs5)) ?_
        refine J.callVP (k := (71 + 2 * a3.toNatClampNeg)) (as := []) (rest := []) dX11_copy_39 kX7_isMissing vX7_isMissing lX11_308 (hT.sheetK (vp_lt hs5)) rfl rfl rfl rfl rfl (by omega) (Nat.le_refl _) (Nat.le_refl _) (qX7_isMissing (d + 1) hT a3.toNatClampNeg (vp_lt hs5) ) ?_
        refine J.bz_eq (tgt := 53) dX11_copy_42 (by decide) (fun hc6 => ?_) (fun hc6 => ?_)
        · have h := h.1 hc6
          refine J.aload_n dX11_copy_53 rfl rfl ?_
          refine J.getR (r := 70) dX11_copy_54 fX11_56 (hT.k 0 rfl) rfl (hT.r 0 6 rfl rfl) ?_
          refine J.iload_n dX11_copy_57 rfl rfl ?_
          obtain ⟨hs7, h⟩ := h
          refine J.aald (r := (71 + 2 * a1.toNatClampNeg)) dX11_copy_58 (hT.k 70 rfl) rfl rfl (hT.l 70 rfl) hs7 (hT.sheetR (vp_lt hs7)) ?_
          refine J.getI dX11_copy_59 fX11_316 (hT.sheetK (vp_lt hs7)) rfl ?_
          refine J.aload_n dX11_copy_62 rfl rfl ?_
          refine J.getR (r := 70) dX11_copy_63 fX11_56 (hT.k 0 rfl) rfl (hT.r 0 6 rfl rfl) ?_
          refine J.iload_n dX11_copy_66 rfl rfl ?_
          obtain ⟨hs8, h⟩ := h
          refine J.aald (r := (71 + 2 * a3.toNatClampNeg)) dX11_copy_67 (hT.k 70 rfl) rfl rfl (hT.l 70 rfl) hs8 (hT.sheetR (vp_lt hs8)) ?_
          refine J.getI dX11_copy_68 fX11_316 (hT.sheetK (vp_lt hs8)) rfl ?_
          refine J.icmp_eq (tgt := 81) dX11_copy_71 (by decide) (fun hc9 => ?_) (fun hc9 => ?_)
          · have h := h.1 hc9
            refine J.aload_n dX11_copy_81 rfl rfl ?_
            refine J.getR (r := 70) dX11_copy_82 fX11_56 (hT.k 0 rfl) rfl (hT.r 0 6 rfl rfl) ?_
            refine J.iload_n dX11_copy_85 rfl rfl ?_
            obtain ⟨hs10, h⟩ := h
            refine J.aald (r := (71 + 2 * a1.toNatClampNeg)) dX11_copy_86 (hT.k 70 rfl) rfl rfl (hT.l 70 rfl) hs10 (hT.sheetR (vp_lt hs10)) ?_
            refine J.iload_n dX11_copy_87 rfl rfl ?_
            refine J.iload dX11_copy_88 rfl ?_
            refine J.callVP (k := (71 + 2 * a1.toNatClampNeg)) (as := [.int a2, .int a5]) (rest := []) dX11_copy_90 kX7_hasRun vX7_hasRun lX11_319 (hT.sheetK (vp_lt hs10)) rfl rfl rfl rfl rfl (by omega) (Nat.le_refl _) (Nat.le_refl _) (qX7_hasRun (d + 1) hT a1.toNatClampNeg (vp_lt hs10) a2 a5 ) ?_
            refine J.if_eq (tgt := 112) dX11_copy_93 (by decide) (fun hc11 => ?_) (fun hc11 => ?_)
            · have h := h.1 hc11
              refine J.aload_n dX11_copy_112 rfl rfl ?_
              refine J.ldc (v := (-1000001)) dX11_copy_113 kcX11_64 ?_
              refine J.callVE (k := 0) (as := [.int (-1000001)]) (rest := []) dX11_copy_115 kX11_finding vX11_finding lX11_65 (hT.k 0 rfl) rfl rfl rfl rfl rfl (by omega) (Nat.le_refl _) (Nat.le_refl _) (qX11_finding (d + 1) hT (-1000001) ) ?_
              exact J.iretQ dX11_copy_118 rfl (Nat.le_refl _) (Nat.le_refl _) h
            · have h := h.2 hc11
              refine J.aload_n dX11_copy_96 rfl rfl ?_
              refine J.getR (r := 70) dX11_copy_97 fX11_56 (hT.k 0 rfl) rfl (hT.r 0 6 rfl rfl) ?_
              refine J.iload_n dX11_copy_100 rfl rfl ?_
              obtain ⟨hs12, h⟩ := h
              refine J.aald (r := (71 + 2 * a3.toNatClampNeg)) dX11_copy_101 (hT.k 70 rfl) rfl rfl (hT.l 70 rfl) hs12 (hT.sheetR (vp_lt hs12)) ?_
              refine J.iload dX11_copy_102 rfl ?_
              refine J.iload dX11_copy_104 rfl ?_
              refine J.callVP (k := (71 + 2 * a3.toNatClampNeg)) (as := [.int a4, .int a5]) (rest := []) dX11_copy_106 kX7_hasRun vX7_hasRun lX11_319 (hT.sheetK (vp_lt hs12)) rfl rfl rfl rfl rfl (by omega) (Nat.le_refl _) (Nat.le_refl _) (qX7_hasRun (d + 1) hT a3.toNatClampNeg (vp_lt hs12) a4 a5 ) ?_
              refine J.if_ne (tgt := 119) dX11_copy_109 (by decide) (fun hc13 => ?_) (fun hc13 => ?_)
              · have h := h.1 hc13
                refine J.aload_n dX11_copy_119 rfl rfl ?_
                refine J.getR (r := 70) dX11_copy_120 fX11_56 (hT.k 0 rfl) rfl (hT.r 0 6 rfl rfl) ?_
                refine J.iload_n dX11_copy_123 rfl rfl ?_
                obtain ⟨hs14, h⟩ := h
                refine J.aald (r := (71 + 2 * a1.toNatClampNeg)) dX11_copy_124 (hT.k 70 rfl) rfl rfl (hT.l 70 rfl) hs14 (hT.sheetR (vp_lt hs14)) ?_
                refine J.getR (r := (72 + 2 * a1.toNatClampNeg)) dX11_copy_125 fX11_322 (hT.sheetK (vp_lt hs14)) rfl (hT.sheetN (vp_lt hs14)) ?_
                refine J.iload_n dX11_copy_128 rfl rfl ?_
                refine J.aload_n dX11_copy_129 rfl rfl ?_
                refine J.getR (r := 70) dX11_copy_130 fX11_56 (hT.k 0 rfl) rfl (hT.r 0 6 rfl rfl) ?_
                refine J.iload_n dX11_copy_133 rfl rfl ?_
                obtain ⟨hs15, h⟩ := h
                refine J.aald (r := (71 + 2 * a3.toNatClampNeg)) dX11_copy_134 (hT.k 70 rfl) rfl rfl (hT.l 70 rfl) hs15 (hT.sheetR (vp_lt hs15)) ?_
                refine J.getR (r := (72 + 2 * a3.toNatClampNeg)) dX11_copy_135 fX11_322 (hT.sheetK (vp_lt hs15)) rfl (hT.sheetN (vp_lt hs15)) ?_
                refine J.iload dX11_copy_138 rfl ?_
                refine J.iload dX11_copy_140 rfl ?_
                obtain ⟨hs16, h⟩ := h
                refine J.acopy dX11_copy_142 acX11_326 ac_nat ac_stat ac_ini (hT.sheetA (vp_lt hs14)) (hT.sheetA (vp_lt hs15)) hs16.1 hs16.2.1 hs16.2.2.1 (by rw [(hT.sheetL (vp_lt hs14))]; exact hs16.2.2.2.1) (by rw [(hT.sheetL (vp_lt hs15))]; exact hs16.2.2.2.2) rfl (by omega) ?_
                refine J.iload dX11_copy_145 rfl ?_
                exact J.iretQ dX11_copy_147 rfl (Nat.le_refl _) (Nat.le_refl _) h
              · have h := h.2 hc13
                refine J.aload_n dX11_copy_112 rfl rfl ?_
                refine J.ldc (v := (-1000001)) dX11_copy_113 kcX11_64 ?_
                refine J.callVE (k := 0) (as := [.int (-1000001)]) (rest := []) dX11_copy_115 kX11_finding vX11_finding lX11_65 (hT.k 0 rfl) rfl rfl rfl rfl rfl (by omega) (Nat.le_refl _) (Nat.le_refl _) (qX11_finding (d + 1) hT (-1000001) ) ?_
                exact J.iretQ dX11_copy_118 rfl (Nat.le_refl _) (Nat.le_refl _) h
          · have h := h.2 hc9
            refine J.aload_n dX11_copy_74 rfl rfl ?_
            refine J.ldc (v := (-1000004)) dX11_copy_75 kcX11_163 ?_
            refine J.callVE (k := 0) (as := [.int (-1000004)]) (rest := []) dX11_copy_77 kX11_finding vX11_finding lX11_65 (hT.k 0 rfl) rfl rfl rfl rfl rfl (by omega) (Nat.le_refl _) (Nat.le_refl _) (qX11_finding (d + 1) hT (-1000004) ) ?_
            exact J.iretQ dX11_copy_80 rfl (Nat.le_refl _) (Nat.le_refl _) h
        · have h := h.2 hc6
          refine J.aload_n dX11_copy_45 rfl rfl ?_
          refine J.ldcw (v := (-1000007)) dX11_copy_46 kcX11_311 ?_
          refine J.callVE (k := 0) (as := [.int (-1000007)]) (rest := []) dX11_copy_49 kX11_finding vX11_finding lX11_65 (hT.k 0 rfl) rfl rfl rfl rfl rfl (by omega) (Nat.le_refl _) (Nat.le_refl _) (qX11_finding (d + 1) hT (-1000007) ) ?_
          exact J.iretQ dX11_copy_52 rfl (Nat.le_refl _) (Nat.le_refl _) h
    · have h := h.2 hc2
      refine J.aload_n dX11_copy_14 rfl rfl ?_
      refine J.ldc (v := (-1000001)) dX11_copy_15 kcX11_64 ?_
      refine J.callVE (k := 0) (as := [.int (-1000001)]) (rest := []) dX11_copy_17 kX11_finding vX11_finding lX11_65 (hT.k 0 rfl) rfl rfl rfl rfl rfl (by omega) (Nat.le_refl _) (Nat.le_refl _) (qX11_finding (d + 1) hT (-1000001) ) ?_
      exact J.iretQ dX11_copy_20 rfl (Nat.le_refl _) (Nat.le_refl _) h
set_option maxHeartbeats 4000000 in
set_option maxRecDepth 100000 in
theorem wX11_copy (d : Nat) {T : Topo} (hT : Lay T) (a1 : Int32) (a2 : Int32) (a3 : Int32) (a4 : Int32) (a5 : Int32)   {Q : Int32 → Topo → IM → Prop} {I : IM} (h : fX11_copy_0 T a1 a2 a3 a4 a5 Q I) : Ct (d + 2) mX11_copy [.ref 0, .int a1, .int a2, .int a3, .int a4, .int a5] T I 0 0 (PI Q) :=
  Ct.ofJ (by decide +kernel) rfl (by intro v hv; revert v hv; simp [Value.category]) rfl (sX11_copy_0 d hT a1 a2 a3 a4 a5   I h)

def jX11_copy (I : IM) (a1 : Int32) (a2 : Int32) (a3 : Int32) (a4 : Int32) (a5 : Int32) : Int32 := (if wi a1 0 3 then (if wi a3 0 3 then (if I (71 + 2 * a1.toNatClampNeg) 1 = 0 then (-1000007) else (if I (71 + 2 * a3.toNatClampNeg) 1 = 0 then (-1000007) else (if (I (71 + 2 * a1.toNatClampNeg) 1) = (I (71 + 2 * a3.toNatClampNeg) 1) then (if (jHasRun I a1.toNatClampNeg a2 a5) = 0 then (-1000001) else (if (jHasRun I a3.toNatClampNeg a4 a5) = 0 then (-1000001) else a5)) else (-1000004)))) else (-1000001)) else (-1000001))
def jX11_copyM (I : IM) (a1 : Int32) (a2 : Int32) (a3 : Int32) (a4 : Int32) (a5 : Int32) : IM := (if wi a1 0 3 then (if wi a3 0 3 then (if I (71 + 2 * a1.toNatClampNeg) 1 = 0 then (fnd I) else (if I (71 + 2 * a3.toNatClampNeg) 1 = 0 then (fnd I) else (if (I (71 + 2 * a1.toNatClampNeg) 1) = (I (71 + 2 * a3.toNatClampNeg) 1) then (if (jHasRun I a1.toNatClampNeg a2 a5) = 0 then (fnd I) else (if (jHasRun I a3.toNatClampNeg a4 a5) = 0 then (fnd I) else (cpy2 I (72 + 2 * a1.toNatClampNeg) (72 + 2 * a3.toNatClampNeg) a2.toNatClampNeg a4.toNatClampNeg a5.toNatClampNeg))) else (fnd I)))) else (fnd I)) else (fnd I))
def jX11_copyK (I : IM) (a1 : Int32) (a2 : Int32) (a3 : Int32) (a4 : Int32) (a5 : Int32) : Prop := (((¬ (wi a1 0 3)) → True) ∧ ((wi a1 0 3) → (((wi a3 0 3) → (vp_in a1 4 ∧ (((I (71 + 2 * a1.toNatClampNeg) 1 = 0) → True) ∧ ((¬ (I (71 + 2 * a1.toNatClampNeg) 1 = 0)) → (vp_in a3 4 ∧ (((¬ (I (71 + 2 * a3.toNatClampNeg) 1 = 0)) → (vp_in a1 4 ∧ (vp_in a3 4 ∧ ((((I (71 + 2 * a1.toNatClampNeg) 1) = (I (71 + 2 * a3.toNatClampNeg) 1)) → (vp_in a1 4 ∧ ((((jHasRun I a1.toNatClampNeg a2 a5) = 0) → True) ∧ ((¬ (jHasRun I a1.toNatClampNeg a2 a5) = 0) → (vp_in a3 4 ∧ (((¬ (jHasRun I a3.toNatClampNeg a4 a5) = 0) → (vp_in a1 4 ∧ (vp_in a3 4 ∧ (¬ a2 < 0 ∧ ¬ a4 < 0 ∧ ¬ a5 < 0 ∧ a2.toNatClampNeg + a5.toNatClampNeg ≤ 8 ∧ a4.toNatClampNeg + a5.toNatClampNeg ≤ 8)))) ∧ (((jHasRun I a3.toNatClampNeg a4 a5) = 0) → True))))))) ∧ ((¬ (I (71 + 2 * a1.toNatClampNeg) 1) = (I (71 + 2 * a3.toNatClampNeg) 1)) → True))))) ∧ ((I (71 + 2 * a3.toNatClampNeg) 1 = 0) → True))))))) ∧ ((¬ (wi a3 0 3)) → True))))
set_option maxRecDepth 10000 in
theorem qX11_copy (d : Nat) {T : Topo} {I : IM} (hT : Lay T) (a1 : Int32) (a2 : Int32) (a3 : Int32) (a4 : Int32) (a5 : Int32)  (hp : (jX11_copyK I a1 a2 a3 a4 a5)) : CtI (d + 2) mX11_copy [.ref 0, .int a1, .int a2, .int a3, .int a4, .int a5] T I (fun x_ J_ => x_ = (jX11_copy I a1 a2 a3 a4 a5) ∧ J_ = (jX11_copyM I a1 a2 a3 a4 a5)) :=
  wX11_copy d hT a1 a2 a3 a4 a5   (by
  unfold fX11_copy_0
  exact ⟨fun hc1 => ⟨rfl, by unfold jX11_copy; rw [if_neg hc1], by unfold jX11_copyM; rw [if_neg hc1]⟩, fun hc1 => ⟨fun hc2 => ⟨(((hp).2 hc1).1 hc2).1, ⟨fun hc3 => ⟨rfl, by unfold jX11_copy; rw [if_pos hc1, if_pos hc2, if_pos hc3], by unfold jX11_copyM; rw [if_pos hc1, if_pos hc2, if_pos hc3]⟩, fun hc3 => ⟨(((((hp).2 hc1).1 hc2).2).2 hc3).1, ⟨fun hc4 => ⟨(((((((hp).2 hc1).1 hc2).2).2 hc3).2).1 hc4).1, ⟨((((((((hp).2 hc1).1 hc2).2).2 hc3).2).1 hc4).2).1, ⟨fun hc5 => ⟨((((((((((hp).2 hc1).1 hc2).2).2 hc3).2).1 hc4).2).2).1 hc5).1, ⟨fun hc6 => ⟨rfl, by unfold jX11_copy; rw [if_pos hc1, if_pos hc2, if_neg hc3, if_neg hc4, if_pos hc5, if_pos hc6], by unfold jX11_copyM; rw [if_pos hc1, if_pos hc2, if_neg hc3, if_neg hc4, if_pos hc5, if_pos hc6]⟩, fun hc6 => ⟨((((((((((((hp).2 hc1).1 hc2).2).2 hc3).2).1 hc4).2).2).1 hc5).2).2 hc6).1, ⟨fun hc7 => ⟨((((((((((((((hp).2 hc1).1 hc2).2).2 hc3).2).1 hc4).2).2).1 hc5).2).2 hc6).2).1 hc7).1, ⟨(((((((((((((((hp).2 hc1).1 hc2).2).2 hc3).2).1 hc4).2).2).1 hc5).2).2 hc6).2).1 hc7).2).1, ⟨(((((((((((((((hp).2 hc1).1 hc2).2).2 hc3).2).1 hc4).2).2).1 hc5).2).2 hc6).2).1 hc7).2).2, ⟨rfl, by unfold jX11_copy; rw [if_pos hc1, if_pos hc2, if_neg hc3, if_neg hc4, if_pos hc5, if_neg hc6, if_neg hc7], by unfold jX11_copyM; rw [if_pos hc1, if_pos hc2, if_neg hc3, if_neg hc4, if_pos hc5, if_neg hc6, if_neg hc7]⟩⟩⟩⟩, fun hc7 => ⟨rfl, by unfold jX11_copy; rw [if_pos hc1, if_pos hc2, if_neg hc3, if_neg hc4, if_pos hc5, if_neg hc6, if_pos hc7], by unfold jX11_copyM; rw [if_pos hc1, if_pos hc2, if_neg hc3, if_neg hc4, if_pos hc5, if_neg hc6, if_pos hc7]⟩⟩⟩⟩⟩, fun hc5 => ⟨rfl, by unfold jX11_copy; rw [if_pos hc1, if_pos hc2, if_neg hc3, if_neg hc4, if_neg hc5], by unfold jX11_copyM; rw [if_pos hc1, if_pos hc2, if_neg hc3, if_neg hc4, if_neg hc5]⟩⟩⟩⟩, fun hc4 => ⟨rfl, by unfold jX11_copy; rw [if_pos hc1, if_pos hc2, if_neg hc3, if_pos hc4], by unfold jX11_copyM; rw [if_pos hc1, if_pos hc2, if_neg hc3, if_pos hc4]⟩⟩⟩⟩⟩, fun hc2 => ⟨rfl, by unfold jX11_copy; rw [if_pos hc1, if_neg hc2], by unfold jX11_copyM; rw [if_pos hc1, if_neg hc2]⟩⟩⟩)

def fX11_read_0 (T : Topo) (a1 : Int32) (Q : Int32 → Topo → IM → Prop)  (I : IM) : Prop :=
  ((((wi a1 0 3) → (vp_in a1 4 ∧ ((((¬ (I (71 + 2 * a1.toNatClampNeg) 1 = 0)) → ((((I 15 1) < (I (71 + 2 * a1.toNatClampNeg) 2)) → (Q (-1000001) T (fnd I))) ∧ ((¬ (I 15 1) < (I (71 + 2 * a1.toNatClampNeg) 2)) → (((jAboveK I a1.toNatClampNeg 100)) ∧ ((((jAbove I a1.toNatClampNeg 100) = 0) → (((jX9_wouldOverflowK I a1.toNatClampNeg)) ∧ ((((jX9_wouldOverflow I a1.toNatClampNeg) = 0) → (((jX9_offerAllK I a1.toNatClampNeg)) ∧ Q ((jX9_offerAll I a1.toNatClampNeg).1) T (jX9_offerAll I a1.toNatClampNeg).2)) ∧ ((¬ (jX9_wouldOverflow I a1.toNatClampNeg) = 0) → (Q (-1000002) T (fnd I)))))) ∧ ((¬ (jAbove I a1.toNatClampNeg 100) = 0) → (Q (-1000001) T (fnd I)))))))) ∧ ((I (71 + 2 * a1.toNatClampNeg) 1 = 0) → (Q (-1000007) T (fnd I))))))) ∧ ((¬ (wi a1 0 3)) → (Q (-1000001) T (fnd I)))))
set_option maxHeartbeats 4000000 in
set_option maxRecDepth 100000 in
theorem sX11_read_0 (d : Nat) {T : Topo} (hT : Lay T) (a1 : Int32)    {Q : Int32 → Topo → IM → Prop}   (I : IM) (h : fX11_read_0 T a1 Q  I) : J (d + 3) mX11_read (PI Q) 0 0 0 [some (.ref 0), some (.int a1), none] [] T I 0 0 := by
  unfold fX11_read_0 at h
  refine J.iload_n dX11_read_0 rfl rfl ?_
  refine J.callSP (as := [.int a1]) (rest := []) dX11_read_1 kX11_isSheet vX11_isSheet lX11_302 rfl rfl rfl (by omega) (Nat.le_refl _) (Nat.le_refl _) (qX11_isSheet (d + 1) hT a1 ) ?_
  refine J.bz_ne (tgt := 14) dX11_read_4 (by decide) (fun hc1 => ?_) (fun hc1 => ?_)
  · have h := h.1 hc1
    refine J.aload_n dX11_read_14 rfl rfl ?_
    refine J.getR (r := 70) dX11_read_15 fX11_56 (hT.k 0 rfl) rfl (hT.r 0 6 rfl rfl) ?_
    refine J.iload_n dX11_read_18 rfl rfl ?_
    obtain ⟨hs2, h⟩ := h
    refine J.aald (r := (71 + 2 * a1.toNatClampNeg)) dX11_read_19 (hT.k 70 rfl) rfl rfl (hT.l 70 rfl) hs2 (hT.sheetR (vp_lt hs2)) ?_
    refine J.astore_n (ls' := [some (.ref 0), some (.int a1), some (.ref (71 + 2 * a1.toNatClampNeg))]) dX11_read_20 rfl rfl rfl ?_
    refine J.aload_n dX11_read_21 rfl rfl ?_
    refine J.callVP (k := (71 + 2 * a1.toNatClampNeg)) (as := []) (rest := []) dX11_read_22 kX7_isMissing vX7_isMissing lX11_308 (hT.sheetK (vp_lt hs2)) rfl rfl rfl rfl rfl (by omega) (Nat.le_refl _) (Nat.le_refl _) (qX7_isMissing (d + 2) hT a1.toNatClampNeg (vp_lt hs2) ) ?_
    refine J.bz_eq (tgt := 36) dX11_read_25 (by decide) (fun hc3 => ?_) (fun hc3 => ?_)
    · have h := h.1 hc3
      refine J.aload_n dX11_read_36 rfl rfl ?_
      refine J.getI dX11_read_37 fX11_312 (hT.sheetK (vp_lt hs2)) rfl ?_
      refine J.aload_n dX11_read_40 rfl rfl ?_
      refine J.getR (r := 15) dX11_read_41 fX11_19 (hT.k 0 rfl) rfl (hT.r 0 1 rfl rfl) ?_
      refine J.getI dX11_read_44 fX11_132 (hT.k 15 rfl) rfl ?_
      refine J.icmp_gt (tgt := 59) dX11_read_47 (by decide) (fun hc4 => ?_) (fun hc4 => ?_)
      · have h := h.1 hc4
        refine J.aload_n dX11_read_59 rfl rfl ?_
        refine J.ldc (v := (-1000001)) dX11_read_60 kcX11_64 ?_
        refine J.callVE (k := 0) (as := [.int (-1000001)]) (rest := []) dX11_read_62 kX11_finding vX11_finding lX11_65 (hT.k 0 rfl) rfl rfl rfl rfl rfl (by omega) (Nat.le_refl _) (Nat.le_refl _) (qX11_finding (d + 2) hT (-1000001) ) ?_
        exact J.iretQ dX11_read_65 rfl (Nat.le_refl _) (Nat.le_refl _) h
      · have h := h.2 hc4
        refine J.aload_n dX11_read_50 rfl rfl ?_
        refine J.bipush (v := 100) dX11_read_51 (by decide) ?_
        obtain ⟨hp5, h⟩ := h
        refine J.callVP (k := (71 + 2 * a1.toNatClampNeg)) (as := [.int 100]) (rest := []) dX11_read_53 kX7_hasAbove vX7_hasAbove lX11_332 (hT.sheetK (vp_lt hs2)) rfl rfl rfl rfl rfl (by omega) (Nat.le_refl _) (Nat.le_refl _) (qX7_hasAbove (d + 2) hT a1.toNatClampNeg (vp_lt hs2) 100 hp5) ?_
        refine J.if_eq (tgt := 66) dX11_read_56 (by decide) (fun hc6 => ?_) (fun hc6 => ?_)
        · have h := h.1 hc6
          refine J.aload_n dX11_read_66 rfl rfl ?_
          refine J.getR (r := 15) dX11_read_67 fX11_19 (hT.k 0 rfl) rfl (hT.r 0 1 rfl rfl) ?_
          refine J.aload_n dX11_read_70 rfl rfl ?_
          obtain ⟨hp7, h⟩ := h
          refine J.callVP (k := 15) (as := [.ref (71 + 2 * a1.toNatClampNeg)]) (rest := []) dX11_read_71 kX9_wouldOverflow vX9_wouldOverflow lX11_335 (hT.k 15 rfl) rfl rfl rfl rfl rfl (by omega) (Nat.le_refl _) (Nat.le_refl _) (qX9_wouldOverflow (d + 0) hT a1.toNatClampNeg (vp_lt hs2) hp7) ?_
          refine J.if_eq (tgt := 86) dX11_read_74 (by decide) (fun hc8 => ?_) (fun hc8 => ?_)
          · have h := h.1 hc8
            refine J.aload_n dX11_read_86 rfl rfl ?_
            refine J.getR (r := 15) dX11_read_87 fX11_19 (hT.k 0 rfl) rfl (hT.r 0 1 rfl rfl) ?_
            refine J.aload_n dX11_read_90 rfl rfl ?_
            obtain ⟨hp9, h⟩ := h
            refine J.callVE (k := 15) (as := [.ref (71 + 2 * a1.toNatClampNeg)]) (rest := []) dX11_read_91 kX9_offerAll vX9_offerAll lX11_339 (hT.k 15 rfl) rfl rfl rfl rfl rfl (by omega) (Nat.le_refl _) (Nat.le_refl _) (qX9_offerAll (d + 0) hT a1.toNatClampNeg (vp_lt hs2) hp9) ?_
            exact J.iretQ dX11_read_94 rfl (Nat.le_refl _) (Nat.le_refl _) h
          · have h := h.2 hc8
            refine J.aload_n dX11_read_77 rfl rfl ?_
            refine J.ldc (v := (-1000002)) dX11_read_78 kcX11_73 ?_
            refine J.callVE (k := 0) (as := [.int (-1000002)]) (rest := []) dX11_read_80 kX11_finding vX11_finding lX11_65 (hT.k 0 rfl) rfl rfl rfl rfl rfl (by omega) (Nat.le_refl _) (Nat.le_refl _) (qX11_finding (d + 2) hT (-1000002) ) ?_
            refine J.goto (tgt := 94) dX11_read_83 (by decide) ?_
            exact J.iretQ dX11_read_94 rfl (Nat.le_refl _) (Nat.le_refl _) h
        · have h := h.2 hc6
          refine J.aload_n dX11_read_59 rfl rfl ?_
          refine J.ldc (v := (-1000001)) dX11_read_60 kcX11_64 ?_
          refine J.callVE (k := 0) (as := [.int (-1000001)]) (rest := []) dX11_read_62 kX11_finding vX11_finding lX11_65 (hT.k 0 rfl) rfl rfl rfl rfl rfl (by omega) (Nat.le_refl _) (Nat.le_refl _) (qX11_finding (d + 2) hT (-1000001) ) ?_
          exact J.iretQ dX11_read_65 rfl (Nat.le_refl _) (Nat.le_refl _) h
    · have h := h.2 hc3
      refine J.aload_n dX11_read_28 rfl rfl ?_
      refine J.ldcw (v := (-1000007)) dX11_read_29 kcX11_311 ?_
      refine J.callVE (k := 0) (as := [.int (-1000007)]) (rest := []) dX11_read_32 kX11_finding vX11_finding lX11_65 (hT.k 0 rfl) rfl rfl rfl rfl rfl (by omega) (Nat.le_refl _) (Nat.le_refl _) (qX11_finding (d + 2) hT (-1000007) ) ?_
      exact J.iretQ dX11_read_35 rfl (Nat.le_refl _) (Nat.le_refl _) h
  · have h := h.2 hc1
    refine J.aload_n dX11_read_7 rfl rfl ?_
    refine J.ldc (v := (-1000001)) dX11_read_8 kcX11_64 ?_
    refine J.callVE (k := 0) (as := [.int (-1000001)]) (rest := []) dX11_read_10 kX11_finding vX11_finding lX11_65 (hT.k 0 rfl) rfl rfl rfl rfl rfl (by omega) (Nat.le_refl _) (Nat.le_refl _) (qX11_finding (d + 2) hT (-1000001) ) ?_
    exact J.iretQ dX11_read_13 rfl (Nat.le_refl _) (Nat.le_refl _) h
set_option maxHeartbeats 4000000 in
set_option maxRecDepth 100000 in
theorem wX11_read (d : Nat) {T : Topo} (hT : Lay T) (a1 : Int32)   {Q : Int32 → Topo → IM → Prop} {I : IM} (h : fX11_read_0 T a1 Q I) : Ct (d + 3) mX11_read [.ref 0, .int a1] T I 0 0 (PI Q) :=
  Ct.ofJ (by decide +kernel) rfl (by intro v hv; revert v hv; simp [Value.category]) rfl (sX11_read_0 d hT a1   I h)

def jX11_read (I : IM) (a1 : Int32) : Int32 := (if wi a1 0 3 then (if I (71 + 2 * a1.toNatClampNeg) 1 = 0 then (-1000007) else (if (I 15 1) < (I (71 + 2 * a1.toNatClampNeg) 2) then (-1000001) else (if (jAbove I a1.toNatClampNeg 100) = 0 then (if (jX9_wouldOverflow I a1.toNatClampNeg) = 0 then (jX9_offerAll I a1.toNatClampNeg).1 else (-1000002)) else (-1000001)))) else (-1000001))
def jX11_readM (I : IM) (a1 : Int32) : IM := (if wi a1 0 3 then (if I (71 + 2 * a1.toNatClampNeg) 1 = 0 then (fnd I) else (if (I 15 1) < (I (71 + 2 * a1.toNatClampNeg) 2) then (fnd I) else (if (jAbove I a1.toNatClampNeg 100) = 0 then (if (jX9_wouldOverflow I a1.toNatClampNeg) = 0 then (jX9_offerAll I a1.toNatClampNeg).2 else (fnd I)) else (fnd I)))) else (fnd I))
def jX11_readK (I : IM) (a1 : Int32) : Prop := (((wi a1 0 3) → (vp_in a1 4 ∧ (((¬ (I (71 + 2 * a1.toNatClampNeg) 1 = 0)) → ((((I 15 1) < (I (71 + 2 * a1.toNatClampNeg) 2)) → True) ∧ ((¬ (I 15 1) < (I (71 + 2 * a1.toNatClampNeg) 2)) → (((jAboveK I a1.toNatClampNeg 100)) ∧ ((((jAbove I a1.toNatClampNeg 100) = 0) → (((jX9_wouldOverflowK I a1.toNatClampNeg)) ∧ ((((jX9_wouldOverflow I a1.toNatClampNeg) = 0) → ((jX9_offerAllK I a1.toNatClampNeg))) ∧ ((¬ (jX9_wouldOverflow I a1.toNatClampNeg) = 0) → True)))) ∧ ((¬ (jAbove I a1.toNatClampNeg 100) = 0) → True)))))) ∧ ((I (71 + 2 * a1.toNatClampNeg) 1 = 0) → True)))) ∧ ((¬ (wi a1 0 3)) → True))
set_option maxRecDepth 10000 in
theorem qX11_read (d : Nat) {T : Topo} {I : IM} (hT : Lay T) (a1 : Int32)  (hp : (jX11_readK I a1)) : CtI (d + 3) mX11_read [.ref 0, .int a1] T I (fun x_ J_ => x_ = (jX11_read I a1) ∧ J_ = (jX11_readM I a1)) :=
  wX11_read d hT a1   (by
  unfold fX11_read_0
  exact ⟨fun hc1 => ⟨((hp).1 hc1).1, ⟨fun hc2 => ⟨fun hc3 => ⟨rfl, by unfold jX11_read; rw [if_pos hc1, if_neg hc2, if_pos hc3], by unfold jX11_readM; rw [if_pos hc1, if_neg hc2, if_pos hc3]⟩, fun hc3 => ⟨(((((hp).1 hc1).2).1 hc2).2 hc3).1, ⟨fun hc4 => ⟨(((((((hp).1 hc1).2).1 hc2).2 hc3).2).1 hc4).1, ⟨fun hc5 => ⟨((((((((hp).1 hc1).2).1 hc2).2 hc3).2).1 hc4).2).1 hc5, ⟨rfl, by unfold jX11_read; rw [if_pos hc1, if_neg hc2, if_neg hc3, if_pos hc4, if_pos hc5], by unfold jX11_readM; rw [if_pos hc1, if_neg hc2, if_neg hc3, if_pos hc4, if_pos hc5]⟩⟩, fun hc5 => ⟨rfl, by unfold jX11_read; rw [if_pos hc1, if_neg hc2, if_neg hc3, if_pos hc4, if_neg hc5], by unfold jX11_readM; rw [if_pos hc1, if_neg hc2, if_neg hc3, if_pos hc4, if_neg hc5]⟩⟩⟩, fun hc4 => ⟨rfl, by unfold jX11_read; rw [if_pos hc1, if_neg hc2, if_neg hc3, if_neg hc4], by unfold jX11_readM; rw [if_pos hc1, if_neg hc2, if_neg hc3, if_neg hc4]⟩⟩⟩⟩, fun hc2 => ⟨rfl, by unfold jX11_read; rw [if_pos hc1, if_pos hc2], by unfold jX11_readM; rw [if_pos hc1, if_pos hc2]⟩⟩⟩, fun hc1 => ⟨rfl, by unfold jX11_read; rw [if_neg hc1], by unfold jX11_readM; rw [if_neg hc1]⟩⟩)

def fX11_told_0 (T : Topo) (a1 : Int32) (Q : Int32 → Topo → IM → Prop)  (I : IM) : Prop :=
  ((a1 = 0 → Q (I 1 3) T I) ∧ (a1 = 1 → Q (I 1 4) T I) ∧ (a1 = 2 → Q (I 15 1) T I) ∧ (a1 = 3 → (((jX9_countInK I)) ∧ Q (jX9_countIn I) T I)) ∧ (a1 = 4 → Q (I 69 3) T I) ∧ (a1 = 5 → Q (I 0 7) T I) ∧ (a1 = 6 → Q (I 69 4) T I) ∧ (a1 = 7 → Q (I 69 5) T I) ∧ ((a1.toInt < 0 ∨ 7 < a1.toInt) → (Q (-1000001) T (fnd I))))
set_option maxHeartbeats 4000000 in
set_option maxRecDepth 100000 in
theorem sX11_told_0 (d : Nat) {T : Topo} (hT : Lay T) (a1 : Int32)    {Q : Int32 → Topo → IM → Prop}   (I : IM) (h : fX11_told_0 T a1 Q  I) : J (d + 2) mX11_told (PI Q) 0 0 0 [some (.ref 0), some (.int a1)] [] T I 0 0 := by
  unfold fX11_told_0 at h
  refine J.iload_n dX11_told_0 rfl rfl ?_
  obtain ⟨h0_, h1_, h2_, h3_, h4_, h5_, h6_, h7_, hdf⟩ := h
  rcases sw_0_7 a1 with e | e | e | e | e | e | e | e | e
  · refine J.tableIn (off := 47) (tgt := 48) dX11_told_1 (by rw [e]; decide) (by rw [e]; decide) (by rw [e]; decide) (by decide) ?_
    have h := h0_ e
    refine J.aload_n dX11_told_48 rfl rfl ?_
    refine J.getR (r := 1) dX11_told_49 fX11_15 (hT.k 0 rfl) rfl (hT.r 0 0 rfl rfl) ?_
    refine J.getI dX11_told_52 fX11_69 (hT.k 1 rfl) rfl ?_
    exact J.iretQ dX11_told_55 rfl (Nat.le_refl _) (Nat.le_refl _) h
  · refine J.tableIn (off := 55) (tgt := 56) dX11_told_1 (by rw [e]; decide) (by rw [e]; decide) (by rw [e]; decide) (by decide) ?_
    have h := h1_ e
    refine J.aload_n dX11_told_56 rfl rfl ?_
    refine J.getR (r := 1) dX11_told_57 fX11_15 (hT.k 0 rfl) rfl (hT.r 0 0 rfl rfl) ?_
    refine J.getI dX11_told_60 fX11_81 (hT.k 1 rfl) rfl ?_
    exact J.iretQ dX11_told_63 rfl (Nat.le_refl _) (Nat.le_refl _) h
  · refine J.tableIn (off := 63) (tgt := 64) dX11_told_1 (by rw [e]; decide) (by rw [e]; decide) (by rw [e]; decide) (by decide) ?_
    have h := h2_ e
    refine J.aload_n dX11_told_64 rfl rfl ?_
    refine J.getR (r := 15) dX11_told_65 fX11_19 (hT.k 0 rfl) rfl (hT.r 0 1 rfl rfl) ?_
    refine J.getI dX11_told_68 fX11_132 (hT.k 15 rfl) rfl ?_
    exact J.iretQ dX11_told_71 rfl (Nat.le_refl _) (Nat.le_refl _) h
  · refine J.tableIn (off := 71) (tgt := 72) dX11_told_1 (by rw [e]; decide) (by rw [e]; decide) (by rw [e]; decide) (by decide) ?_
    have h := h3_ e
    refine J.aload_n dX11_told_72 rfl rfl ?_
    refine J.getR (r := 15) dX11_told_73 fX11_19 (hT.k 0 rfl) rfl (hT.r 0 1 rfl rfl) ?_
    obtain ⟨hp1, h⟩ := h
    refine J.callVP (k := 15) (as := []) (rest := []) dX11_told_76 kX9_countIn vX9_countIn lX11_343 (hT.k 15 rfl) rfl rfl rfl rfl rfl (by omega) (Nat.le_refl _) (Nat.le_refl _) (qX9_countIn (d + 0) hT  hp1) ?_
    exact J.iretQ dX11_told_79 rfl (Nat.le_refl _) (Nat.le_refl _) h
  · refine J.tableIn (off := 79) (tgt := 80) dX11_told_1 (by rw [e]; decide) (by rw [e]; decide) (by rw [e]; decide) (by decide) ?_
    have h := h4_ e
    refine J.aload_n dX11_told_80 rfl rfl ?_
    refine J.getR (r := 69) dX11_told_81 fX11_49 (hT.k 0 rfl) rfl (hT.r 0 5 rfl rfl) ?_
    refine J.getI dX11_told_84 fX11_346 (hT.k 69 rfl) rfl ?_
    exact J.iretQ dX11_told_87 rfl (Nat.le_refl _) (Nat.le_refl _) h
  · refine J.tableIn (off := 87) (tgt := 88) dX11_told_1 (by rw [e]; decide) (by rw [e]; decide) (by rw [e]; decide) (by decide) ?_
    have h := h5_ e
    refine J.aload_n dX11_told_88 rfl rfl ?_
    refine J.getI dX11_told_89 fX11_349 (hT.k 0 rfl) rfl ?_
    exact J.iretQ dX11_told_92 rfl (Nat.le_refl _) (Nat.le_refl _) h
  · refine J.tableIn (off := 92) (tgt := 93) dX11_told_1 (by rw [e]; decide) (by rw [e]; decide) (by rw [e]; decide) (by decide) ?_
    have h := h6_ e
    refine J.aload_n dX11_told_93 rfl rfl ?_
    refine J.getR (r := 69) dX11_told_94 fX11_49 (hT.k 0 rfl) rfl (hT.r 0 5 rfl rfl) ?_
    refine J.getI dX11_told_97 fX11_288 (hT.k 69 rfl) rfl ?_
    exact J.iretQ dX11_told_100 rfl (Nat.le_refl _) (Nat.le_refl _) h
  · refine J.tableIn (off := 100) (tgt := 101) dX11_told_1 (by rw [e]; decide) (by rw [e]; decide) (by rw [e]; decide) (by decide) ?_
    have h := h7_ e
    refine J.aload_n dX11_told_101 rfl rfl ?_
    refine J.getR (r := 69) dX11_told_102 fX11_49 (hT.k 0 rfl) rfl (hT.r 0 5 rfl rfl) ?_
    refine J.getI dX11_told_105 fX11_352 (hT.k 69 rfl) rfl ?_
    exact J.iretQ dX11_told_108 rfl (Nat.le_refl _) (Nat.le_refl _) h
  · refine J.tableOut (tgt := 109) dX11_told_1 e (by decide) ?_
    have h := hdf e
    refine J.aload_n dX11_told_109 rfl rfl ?_
    refine J.ldc (v := (-1000001)) dX11_told_110 kcX11_64 ?_
    refine J.callVE (k := 0) (as := [.int (-1000001)]) (rest := []) dX11_told_112 kX11_finding vX11_finding lX11_65 (hT.k 0 rfl) rfl rfl rfl rfl rfl (by omega) (Nat.le_refl _) (Nat.le_refl _) (qX11_finding (d + 1) hT (-1000001) ) ?_
    exact J.iretQ dX11_told_115 rfl (Nat.le_refl _) (Nat.le_refl _) h
set_option maxHeartbeats 4000000 in
set_option maxRecDepth 100000 in
theorem wX11_told (d : Nat) {T : Topo} (hT : Lay T) (a1 : Int32)   {Q : Int32 → Topo → IM → Prop} {I : IM} (h : fX11_told_0 T a1 Q I) : Ct (d + 2) mX11_told [.ref 0, .int a1] T I 0 0 (PI Q) :=
  Ct.ofJ (by decide +kernel) rfl (by intro v hv; revert v hv; simp [Value.category]) rfl (sX11_told_0 d hT a1   I h)

def jX11_told (I : IM) (a1 : Int32) : Int32 := (if a1 = 0 then (I 1 3) else (if a1 = 1 then (I 1 4) else (if a1 = 2 then (I 15 1) else (if a1 = 3 then (jX9_countIn I) else (if a1 = 4 then (I 69 3) else (if a1 = 5 then (I 0 7) else (if a1 = 6 then (I 69 4) else (if a1 = 7 then (I 69 5) else (-1000001)))))))))
def jX11_toldM (I : IM) (a1 : Int32) : IM := (if a1 = 0 then I else (if a1 = 1 then I else (if a1 = 2 then I else (if a1 = 3 then I else (if a1 = 4 then I else (if a1 = 5 then I else (if a1 = 6 then I else (if a1 = 7 then I else (fnd I)))))))))
def jX11_toldK (I : IM) (a1 : Int32) : Prop := ((a1 = 0 → True) ∧ (a1 = 1 → True) ∧ (a1 = 2 → True) ∧ (a1 = 3 → ((jX9_countInK I))) ∧ (a1 = 4 → True) ∧ (a1 = 5 → True) ∧ (a1 = 6 → True) ∧ (a1 = 7 → True) ∧ ((a1.toInt < 0 ∨ 7 < a1.toInt) → True))
set_option maxRecDepth 10000 in
theorem qX11_told (d : Nat) {T : Topo} {I : IM} (hT : Lay T) (a1 : Int32)  (hp : (jX11_toldK I a1)) : CtI (d + 2) mX11_told [.ref 0, .int a1] T I (fun x_ J_ => x_ = (jX11_told I a1) ∧ J_ = (jX11_toldM I a1)) :=
  wX11_told d hT a1   (by
  unfold fX11_told_0
  exact ⟨fun hw1 => ⟨rfl, by unfold jX11_told; rw [if_pos hw1], by unfold jX11_toldM; rw [if_pos hw1]⟩, fun hw1 => ⟨rfl, by unfold jX11_told; rw [if_neg (show ¬ a1 = 0 by rw [hw1]; decide), if_pos hw1], by unfold jX11_toldM; rw [if_neg (show ¬ a1 = 0 by rw [hw1]; decide), if_pos hw1]⟩, fun hw1 => ⟨rfl, by unfold jX11_told; rw [if_neg (show ¬ a1 = 0 by rw [hw1]; decide), if_neg (show ¬ a1 = 1 by rw [hw1]; decide), if_pos hw1], by unfold jX11_toldM; rw [if_neg (show ¬ a1 = 0 by rw [hw1]; decide), if_neg (show ¬ a1 = 1 by rw [hw1]; decide), if_pos hw1]⟩, fun hw1 => ⟨((hp).2.2.2.1) hw1, ⟨rfl, by unfold jX11_told; rw [if_neg (show ¬ a1 = 0 by rw [hw1]; decide), if_neg (show ¬ a1 = 1 by rw [hw1]; decide), if_neg (show ¬ a1 = 2 by rw [hw1]; decide), if_pos hw1], by unfold jX11_toldM; rw [if_neg (show ¬ a1 = 0 by rw [hw1]; decide), if_neg (show ¬ a1 = 1 by rw [hw1]; decide), if_neg (show ¬ a1 = 2 by rw [hw1]; decide), if_pos hw1]⟩⟩, fun hw1 => ⟨rfl, by unfold jX11_told; rw [if_neg (show ¬ a1 = 0 by rw [hw1]; decide), if_neg (show ¬ a1 = 1 by rw [hw1]; decide), if_neg (show ¬ a1 = 2 by rw [hw1]; decide), if_neg (show ¬ a1 = 3 by rw [hw1]; decide), if_pos hw1], by unfold jX11_toldM; rw [if_neg (show ¬ a1 = 0 by rw [hw1]; decide), if_neg (show ¬ a1 = 1 by rw [hw1]; decide), if_neg (show ¬ a1 = 2 by rw [hw1]; decide), if_neg (show ¬ a1 = 3 by rw [hw1]; decide), if_pos hw1]⟩, fun hw1 => ⟨rfl, by unfold jX11_told; rw [if_neg (show ¬ a1 = 0 by rw [hw1]; decide), if_neg (show ¬ a1 = 1 by rw [hw1]; decide), if_neg (show ¬ a1 = 2 by rw [hw1]; decide), if_neg (show ¬ a1 = 3 by rw [hw1]; decide), if_neg (show ¬ a1 = 4 by rw [hw1]; decide), if_pos hw1], by unfold jX11_toldM; rw [if_neg (show ¬ a1 = 0 by rw [hw1]; decide), if_neg (show ¬ a1 = 1 by rw [hw1]; decide), if_neg (show ¬ a1 = 2 by rw [hw1]; decide), if_neg (show ¬ a1 = 3 by rw [hw1]; decide), if_neg (show ¬ a1 = 4 by rw [hw1]; decide), if_pos hw1]⟩, fun hw1 => ⟨rfl, by unfold jX11_told; rw [if_neg (show ¬ a1 = 0 by rw [hw1]; decide), if_neg (show ¬ a1 = 1 by rw [hw1]; decide), if_neg (show ¬ a1 = 2 by rw [hw1]; decide), if_neg (show ¬ a1 = 3 by rw [hw1]; decide), if_neg (show ¬ a1 = 4 by rw [hw1]; decide), if_neg (show ¬ a1 = 5 by rw [hw1]; decide), if_pos hw1], by unfold jX11_toldM; rw [if_neg (show ¬ a1 = 0 by rw [hw1]; decide), if_neg (show ¬ a1 = 1 by rw [hw1]; decide), if_neg (show ¬ a1 = 2 by rw [hw1]; decide), if_neg (show ¬ a1 = 3 by rw [hw1]; decide), if_neg (show ¬ a1 = 4 by rw [hw1]; decide), if_neg (show ¬ a1 = 5 by rw [hw1]; decide), if_pos hw1]⟩, fun hw1 => ⟨rfl, by unfold jX11_told; rw [if_neg (show ¬ a1 = 0 by rw [hw1]; decide), if_neg (show ¬ a1 = 1 by rw [hw1]; decide), if_neg (show ¬ a1 = 2 by rw [hw1]; decide), if_neg (show ¬ a1 = 3 by rw [hw1]; decide), if_neg (show ¬ a1 = 4 by rw [hw1]; decide), if_neg (show ¬ a1 = 5 by rw [hw1]; decide), if_neg (show ¬ a1 = 6 by rw [hw1]; decide), if_pos hw1], by unfold jX11_toldM; rw [if_neg (show ¬ a1 = 0 by rw [hw1]; decide), if_neg (show ¬ a1 = 1 by rw [hw1]; decide), if_neg (show ¬ a1 = 2 by rw [hw1]; decide), if_neg (show ¬ a1 = 3 by rw [hw1]; decide), if_neg (show ¬ a1 = 4 by rw [hw1]; decide), if_neg (show ¬ a1 = 5 by rw [hw1]; decide), if_neg (show ¬ a1 = 6 by rw [hw1]; decide), if_pos hw1]⟩, fun hw1 => ⟨rfl, by unfold jX11_told; rw [if_neg (swd_0_7 hw1).1, if_neg (swd_0_7 hw1).2.1, if_neg (swd_0_7 hw1).2.2.1, if_neg (swd_0_7 hw1).2.2.2.1, if_neg (swd_0_7 hw1).2.2.2.2.1, if_neg (swd_0_7 hw1).2.2.2.2.2.1, if_neg (swd_0_7 hw1).2.2.2.2.2.2.1, if_neg (swd_0_7 hw1).2.2.2.2.2.2.2], by unfold jX11_toldM; rw [if_neg (swd_0_7 hw1).1, if_neg (swd_0_7 hw1).2.1, if_neg (swd_0_7 hw1).2.2.1, if_neg (swd_0_7 hw1).2.2.2.1, if_neg (swd_0_7 hw1).2.2.2.2.1, if_neg (swd_0_7 hw1).2.2.2.2.2.1, if_neg (swd_0_7 hw1).2.2.2.2.2.2.1, if_neg (swd_0_7 hw1).2.2.2.2.2.2.2]⟩⟩)

def fX11_out_0 (T : Topo) (a1 : Int32) (Q : Int32 → Topo → IM → Prop)  (I : IM) : Prop :=
  ((((hSl I a1) → ((vp_in a1 8) ∧ ((((inS I (a1).toNatClampNeg) → (((jX11_goOutK I (a1).toNatClampNeg)) ∧ Q 1 T (jX11_goOutM I (a1).toNatClampNeg))) ∧ ((¬ (inS I (a1).toNatClampNeg)) → (Q (-1000003) T (fnd I))))))) ∧ ((¬ (hSl I a1)) → (Q (-1000001) T (fnd I)))))
set_option maxHeartbeats 4000000 in
set_option maxRecDepth 100000 in
theorem sX11_out_0 (d : Nat) {T : Topo} (hT : Lay T) (a1 : Int32)    {Q : Int32 → Topo → IM → Prop}   (I : IM) (h : fX11_out_0 T a1 Q  I) : J (d + 5) mX11_out (PI Q) 0 0 0 [some (.ref 0), some (.int a1), none] [] T I 0 0 := by
  unfold fX11_out_0 at h
  refine J.aload_n dX11_out_0 rfl rfl ?_
  refine J.getR (r := 15) dX11_out_1 fX11_19 (hT.k 0 rfl) rfl (hT.r 0 1 rfl rfl) ?_
  refine J.iload_n dX11_out_4 rfl rfl ?_
  refine J.callVP (k := 15) (as := [.int a1]) (rest := []) dX11_out_5 kX9_hasSlice vX9_hasSlice lX11_136 (hT.k 15 rfl) rfl rfl rfl rfl rfl (by omega) (Nat.le_refl _) (Nat.le_refl _) (qX9_hasSlice (d + 4) hT a1 ) ?_
  refine J.bz_ne (tgt := 18) dX11_out_8 (by decide) (fun hc1 => ?_) (fun hc1 => ?_)
  · have h := h.1 hc1
    refine J.aload_n dX11_out_18 rfl rfl ?_
    refine J.getR (r := 15) dX11_out_19 fX11_19 (hT.k 0 rfl) rfl (hT.r 0 1 rfl rfl) ?_
    refine J.iload_n dX11_out_22 rfl rfl ?_
    obtain ⟨hp2, h⟩ := h
    refine J.callVF (r := (17 + 4 * (a1).toNatClampNeg)) (k := 15) (as := [.int a1]) (rest := []) dX11_out_23 kX9_at vX9_at lX11_139 (hT.k 15 rfl) rfl rfl rfl rfl rfl (by omega) (Nat.le_refl _) (Nat.le_refl _) (qX9_at (d + 4) hT a1 hp2) ?_
    refine J.astore_n (ls' := [some (.ref 0), some (.int a1), some (.ref (17 + 4 * (a1).toNatClampNeg))]) dX11_out_26 rfl rfl rfl ?_
    refine J.aload_n dX11_out_27 rfl rfl ?_
    refine J.callVP (k := (17 + 4 * (a1).toNatClampNeg)) (as := []) (rest := []) dX11_out_28 kX8_isIn vX8_isIn lX11_148 (hT.sliceK (vp_lt hp2)) rfl rfl rfl rfl rfl (by omega) (Nat.le_refl _) (Nat.le_refl _) (qX8_isIn (d + 4) hT (a1).toNatClampNeg (vp_lt hp2) ) ?_
    refine J.bz_ne (tgt := 41) dX11_out_31 (by decide) (fun hc3 => ?_) (fun hc3 => ?_)
    · have h := h.1 hc3
      refine J.aload_n dX11_out_41 rfl rfl ?_
      refine J.aload_n dX11_out_42 rfl rfl ?_
      obtain ⟨hp4, h⟩ := h
      refine J.callVD (k := 0) (as := [.ref (17 + 4 * (a1).toNatClampNeg)]) (rest := []) dX11_out_43 kX11_goOut vX11_goOut lX11_211 (hT.k 0 rfl) rfl rfl rfl rfl rfl (by omega) (Nat.le_refl _) (Nat.le_refl _) (qX11_goOut (d + 0) hT (a1).toNatClampNeg (vp_lt hp2) hp4) ?_
      refine J.iconst (v := 1) dX11_out_46 (by decide) ?_
      exact J.iretQ dX11_out_47 rfl (Nat.le_refl _) (Nat.le_refl _) h
    · have h := h.2 hc3
      refine J.aload_n dX11_out_34 rfl rfl ?_
      refine J.ldc (v := (-1000003)) dX11_out_35 kcX11_152 ?_
      refine J.callVE (k := 0) (as := [.int (-1000003)]) (rest := []) dX11_out_37 kX11_finding vX11_finding lX11_65 (hT.k 0 rfl) rfl rfl rfl rfl rfl (by omega) (Nat.le_refl _) (Nat.le_refl _) (qX11_finding (d + 4) hT (-1000003) ) ?_
      exact J.iretQ dX11_out_40 rfl (Nat.le_refl _) (Nat.le_refl _) h
  · have h := h.2 hc1
    refine J.aload_n dX11_out_11 rfl rfl ?_
    refine J.ldc (v := (-1000001)) dX11_out_12 kcX11_64 ?_
    refine J.callVE (k := 0) (as := [.int (-1000001)]) (rest := []) dX11_out_14 kX11_finding vX11_finding lX11_65 (hT.k 0 rfl) rfl rfl rfl rfl rfl (by omega) (Nat.le_refl _) (Nat.le_refl _) (qX11_finding (d + 4) hT (-1000001) ) ?_
    exact J.iretQ dX11_out_17 rfl (Nat.le_refl _) (Nat.le_refl _) h
set_option maxHeartbeats 4000000 in
set_option maxRecDepth 100000 in
theorem wX11_out (d : Nat) {T : Topo} (hT : Lay T) (a1 : Int32)   {Q : Int32 → Topo → IM → Prop} {I : IM} (h : fX11_out_0 T a1 Q I) : Ct (d + 5) mX11_out [.ref 0, .int a1] T I 0 0 (PI Q) :=
  Ct.ofJ (by decide +kernel) rfl (by intro v hv; revert v hv; simp [Value.category]) rfl (sX11_out_0 d hT a1   I h)

def jX11_out (I : IM) (a1 : Int32) : Int32 := (if hSl I a1 then (if inS I (a1).toNatClampNeg then 1 else (-1000003)) else (-1000001))
def jX11_outM (I : IM) (a1 : Int32) : IM := (if hSl I a1 then (if inS I (a1).toNatClampNeg then (jX11_goOutM I (a1).toNatClampNeg) else (fnd I)) else (fnd I))
def jX11_outK (I : IM) (a1 : Int32) : Prop := (((hSl I a1) → ((vp_in a1 8) ∧ (((inS I (a1).toNatClampNeg) → ((jX11_goOutK I (a1).toNatClampNeg))) ∧ ((¬ (inS I (a1).toNatClampNeg)) → True)))) ∧ ((¬ (hSl I a1)) → True))
set_option maxRecDepth 10000 in
theorem qX11_out (d : Nat) {T : Topo} {I : IM} (hT : Lay T) (a1 : Int32)  (hp : (jX11_outK I a1)) : CtI (d + 5) mX11_out [.ref 0, .int a1] T I (fun x_ J_ => x_ = (jX11_out I a1) ∧ J_ = (jX11_outM I a1)) :=
  wX11_out d hT a1   (by
  unfold fX11_out_0
  exact ⟨fun hc1 => ⟨((hp).1 hc1).1, ⟨fun hc2 => ⟨(((hp).1 hc1).2).1 hc2, ⟨rfl, by unfold jX11_out; rw [if_pos hc1, if_pos hc2], by unfold jX11_outM; rw [if_pos hc1, if_pos hc2]⟩⟩, fun hc2 => ⟨rfl, by unfold jX11_out; rw [if_pos hc1, if_neg hc2], by unfold jX11_outM; rw [if_pos hc1, if_neg hc2]⟩⟩⟩, fun hc1 => ⟨rfl, by unfold jX11_out; rw [if_neg hc1], by unfold jX11_outM; rw [if_neg hc1]⟩⟩)

end
