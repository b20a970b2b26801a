noncomputable section
def fX12_start_0 (T : Topo) (a1 : Int32) (Q : Topo → IM → Prop)  (I : IM) : Prop :=
  (vp_in a1 8 ∧ (vp_in a1 8 ∧ (((jX12_gatherK I a1 (I 91 a1.toNatClampNeg) (I 92 a1.toNatClampNeg))) ∧ (vp_in a1 8 ∧ (vp_in a1 8 ∧ (vp_in a1 8 ∧ (vp_in a1 8 ∧ Q T (up2 (up2 (up2 (up2 (jX12_gather I a1 (I 91 a1.toNatClampNeg) (I 92 a1.toNatClampNeg)) 124 a1.toNatClampNeg 0) 125 a1.toNatClampNeg 0) 126 a1.toNatClampNeg (-1)) 127 a1.toNatClampNeg (-1)))))))))
set_option maxHeartbeats 4000000 in
set_option maxRecDepth 100000 in
theorem sX12_start_0 (d : Nat) {T : Topo} (hT : Lay T) (a1 : Int32)    {Q : Topo → IM → Prop}   (I : IM) (h : fX12_start_0 T a1 Q  I) : J (d + 3) mX12_start (PV Q) 0 0 0 [some (.ref 79), some (.int a1)] [] T I 0 0 := by
  unfold fX12_start_0 at h
  refine J.aload_n dX12_start_0 rfl rfl ?_
  refine J.iload_n dX12_start_1 rfl rfl ?_
  refine J.aload_n dX12_start_2 rfl rfl ?_
  refine J.getR (r := 91) dX12_start_3 fX12_48 (hT.k 79 rfl) rfl (hT.r 79 20 rfl rfl) ?_
  refine J.iload_n dX12_start_6 rfl rfl ?_
  obtain ⟨hs1, h⟩ := h
  refine J.iald dX12_start_7 (hT.k 91 rfl) (hT.l 91 rfl) hs1 ?_
  refine J.aload_n dX12_start_8 rfl rfl ?_
  refine J.getR (r := 92) dX12_start_9 fX12_51 (hT.k 79 rfl) rfl (hT.r 79 21 rfl rfl) ?_
  refine J.iload_n dX12_start_12 rfl rfl ?_
  obtain ⟨hs2, h⟩ := h
  refine J.iald dX12_start_13 (hT.k 92 rfl) (hT.l 92 rfl) hs2 ?_
  obtain ⟨hp3, h⟩ := h
  refine J.callVD (k := 79) (as := [.int a1, .int (I 91 a1.toNatClampNeg), .int (I 92 a1.toNatClampNeg)]) (rest := []) dX12_start_14 kX12_gather vX12_gather lX12_227 (hT.k 79 rfl) rfl rfl rfl rfl rfl (by omega) (Nat.le_refl _) (Nat.le_refl _) (qX12_gather (d + 0) hT a1 (I 91 a1.toNatClampNeg) (I 92 a1.toNatClampNeg) hp3) ?_
  refine J.aload_n dX12_start_17 rfl rfl ?_
  refine J.getR (r := 124) dX12_start_18 fX12_147 (hT.k 79 rfl) rfl (hT.r 79 55 rfl rfl) ?_
  refine J.iload_n dX12_start_21 rfl rfl ?_
  refine J.iconst (v := 0) dX12_start_22 (by decide) ?_
  obtain ⟨hs4, h⟩ := h
  refine J.iast dX12_start_23 (hT.k 124 rfl) (hT.l 124 rfl) hs4 ?_
  refine J.aload_n dX12_start_24 rfl rfl ?_
  refine J.getR (r := 125) dX12_start_25 fX12_150 (hT.k 79 rfl) rfl (hT.r 79 56 rfl rfl) ?_
  refine J.iload_n dX12_start_28 rfl rfl ?_
  refine J.iconst (v := 0) dX12_start_29 (by decide) ?_
  obtain ⟨hs5, h⟩ := h
  refine J.iast dX12_start_30 (hT.k 125 rfl) (hT.l 125 rfl) hs5 ?_
  refine J.aload_n dX12_start_31 rfl rfl ?_
  refine J.getR (r := 126) dX12_start_32 fX12_153 (hT.k 79 rfl) rfl (hT.r 79 57 rfl rfl) ?_
  refine J.iload_n dX12_start_35 rfl rfl ?_
  refine J.iconst (v := (-1)) dX12_start_36 (by decide) ?_
  obtain ⟨hs6, h⟩ := h
  refine J.iast dX12_start_37 (hT.k 126 rfl) (hT.l 126 rfl) hs6 ?_
  refine J.aload_n dX12_start_38 rfl rfl ?_
  refine J.getR (r := 127) dX12_start_39 fX12_156 (hT.k 79 rfl) rfl (hT.r 79 58 rfl rfl) ?_
  refine J.iload_n dX12_start_42 rfl rfl ?_
  refine J.iconst (v := (-1)) dX12_start_43 (by decide) ?_
  obtain ⟨hs7, h⟩ := h
  refine J.iast dX12_start_44 (hT.k 127 rfl) (hT.l 127 rfl) hs7 ?_
  exact J.vretQ dX12_start_45 rfl (Nat.le_refl _) (Nat.le_refl _) h
set_option maxHeartbeats 4000000 in
set_option maxRecDepth 100000 in
theorem wX12_start (d : Nat) {T : Topo} (hT : Lay T) (a1 : Int32)   {Q : Topo → IM → Prop} {I : IM} (h : fX12_start_0 T a1 Q I) : Ct (d + 3) mX12_start [.ref 79, .int a1] T I 0 0 (PV Q) :=
  Ct.ofJ (by decide +kernel) rfl (by intro v hv; revert v hv; simp [Value.category]) rfl (sX12_start_0 d hT a1   I h)

def jX12_startM (I : IM) (a1 : Int32) : IM := (up2 (up2 (up2 (up2 (jX12_gather I a1 (I 91 a1.toNatClampNeg) (I 92 a1.toNatClampNeg)) 124 a1.toNatClampNeg 0) 125 a1.toNatClampNeg 0) 126 a1.toNatClampNeg (-1)) 127 a1.toNatClampNeg (-1))
def jX12_startK (I : IM) (a1 : Int32) : Prop := (vp_in a1 8 ∧ (vp_in a1 8 ∧ (((jX12_gatherK I a1 (I 91 a1.toNatClampNeg) (I 92 a1.toNatClampNeg))) ∧ (vp_in a1 8 ∧ (vp_in a1 8 ∧ (vp_in a1 8 ∧ vp_in a1 8))))))
set_option maxRecDepth 10000 in
theorem qX12_start (d : Nat) {T : Topo} {I : IM} (hT : Lay T) (a1 : Int32)  (hp : (jX12_startK I a1)) : CtV (d + 3) mX12_start [.ref 79, .int a1] T I (fun J_ => J_ = (jX12_startM I a1)) :=
  wX12_start d hT a1   (by
  unfold fX12_start_0
  exact ⟨(hp).1, ⟨((hp).2).1, ⟨(((hp).2).2).1, ⟨((((hp).2).2).2).1, ⟨(((((hp).2).2).2).2).1, ⟨((((((hp).2).2).2).2).2).1, ⟨((((((hp).2).2).2).2).2).2, ⟨rfl, by unfold jX12_startM; rfl⟩⟩⟩⟩⟩⟩⟩⟩)

def fX12_advance_0 (T : Topo) (a1 : Int32) (Q : Int32 → Topo → IM → Prop) (K26 : Int32 → IM → Prop) (K191 : Int32 → Int32 → Int32 → IM → Prop) (I : IM) : Prop :=
  (vp_in a1 8 ∧ (((¬ (I 90 a1.toNatClampNeg) = 1) → (vp_in a1 8 ∧ (vp_in a1 8 ∧ K26 0 (up2 I 126 a1.toNatClampNeg ((I 126 a1.toNatClampNeg) + 1))))) ∧ (((I 90 a1.toNatClampNeg) = 1) → (vp_in a1 8 ∧ (vp_in a1 8 ∧ K26 1 (up2 I 126 a1.toNatClampNeg ((I 126 a1.toNatClampNeg) + 1)))))))
def fX12_advance_26 (T : Topo) (a1 : Int32) (Q : Int32 → Topo → IM → Prop) (K26 : Int32 → IM → Prop) (K191 : Int32 → Int32 → Int32 → IM → Prop) (v2 : Int32) (I : IM) : Prop :=
  (vp_in a1 8 ∧ (vp_in a1 9 ∧ ((((I 115 a1.toNatClampNeg) ≤ (I 124 a1.toNatClampNeg)) → Q 0 T I) ∧ ((¬ (I 115 a1.toNatClampNeg) ≤ (I 124 a1.toNatClampNeg)) → (vp_in a1 8 ∧ (vp_in ((256 * a1) + (I 124 a1.toNatClampNeg)) 2304 ∧ (vp_in a1 8 ∧ ((((I 94 a1.toNatClampNeg) < (I 118 ((256 * a1) + (I 124 a1.toNatClampNeg)).toNatClampNeg)) → Q 0 T I) ∧ ((¬ (I 94 a1.toNatClampNeg) < (I 118 ((256 * a1) + (I 124 a1.toNatClampNeg)).toNatClampNeg)) → (vp_in a1 8 ∧ (vp_in a1 8 ∧ (((v2 = 0) → (vp_in ((256 * a1) + (I 124 a1.toNatClampNeg)) 2304 ∧ K191 v2 1 (I 120 ((256 * a1) + (I 124 a1.toNatClampNeg)).toNatClampNeg) I)) ∧ ((¬ v2 = 0) → (vp_in a1 8 ∧ (vp_in a1 9 ∧ ((((I 115 a1.toNatClampNeg) ≤ (I 125 a1.toNatClampNeg)) → (vp_in ((256 * a1) + (I 124 a1.toNatClampNeg)) 2304 ∧ K191 v2 0 (I 120 ((256 * a1) + (I 124 a1.toNatClampNeg)).toNatClampNeg) I)) ∧ ((¬ (I 115 a1.toNatClampNeg) ≤ (I 125 a1.toNatClampNeg)) → (vp_in ((256 * a1) + (I 125 a1.toNatClampNeg)) 2304 ∧ (vp_in a1 8 ∧ ((((I 94 a1.toNatClampNeg) < (I 118 ((256 * a1) + (I 125 a1.toNatClampNeg)).toNatClampNeg)) → (vp_in ((256 * a1) + (I 124 a1.toNatClampNeg)) 2304 ∧ K191 v2 0 (I 120 ((256 * a1) + (I 124 a1.toNatClampNeg)).toNatClampNeg) I)) ∧ ((¬ (I 94 a1.toNatClampNeg) < (I 118 ((256 * a1) + (I 125 a1.toNatClampNeg)).toNatClampNeg)) → (vp_in ((256 * a1) + (I 124 a1.toNatClampNeg)) 2304 ∧ (vp_in ((256 * a1) + (I 125 a1.toNatClampNeg)) 2304 ∧ (((((I 119 ((256 * a1) + (I 124 a1.toNatClampNeg)).toNatClampNeg) &&& (I 119 ((256 * a1) + (I 125 a1.toNatClampNeg)).toNatClampNeg)) = 0) → (vp_in ((256 * a1) + (I 124 a1.toNatClampNeg)) 2304 ∧ (vp_in ((256 * a1) + (I 125 a1.toNatClampNeg)) 2304 ∧ K191 v2 1 ((I 120 ((256 * a1) + (I 124 a1.toNatClampNeg)).toNatClampNeg) &&& (I 120 ((256 * a1) + (I 125 a1.toNatClampNeg)).toNatClampNeg)) I))) ∧ ((¬ ((I 119 ((256 * a1) + (I 124 a1.toNatClampNeg)).toNatClampNeg) &&& (I 119 ((256 * a1) + (I 125 a1.toNatClampNeg)).toNatClampNeg)) = 0) → K191 v2 1 0 I)))))))))))))))))))))))))
def fX12_advance_191 (T : Topo) (a1 : Int32) (Q : Int32 → Topo → IM → Prop) (K26 : Int32 → IM → Prop) (K191 : Int32 → Int32 → Int32 → IM → Prop) (v2 v5 v6 : Int32) (I : IM) : Prop :=
  (((v5 = 0) → (vp_in a1 8 ∧ (((v2 = 0) → (vp_in a1 8 ∧ (vp_in a1 8 ∧ (vp_in a1 8 ∧ K26 v2 (up2 (up2 (up2 I 126 a1.toNatClampNeg 0) 124 a1.toNatClampNeg ((I 124 a1.toNatClampNeg) + 1)) 125 a1.toNatClampNeg 0))))) ∧ ((¬ v2 = 0) → (vp_in a1 8 ∧ (vp_in a1 8 ∧ (vp_in a1 8 ∧ K26 v2 (up2 (up2 (up2 I 126 a1.toNatClampNeg 0) 124 a1.toNatClampNeg ((I 124 a1.toNatClampNeg) + 1)) 125 a1.toNatClampNeg 0)))))))) ∧ ((¬ v5 = 0) → (vp_in a1 8 ∧ (((6 ≤ (I 126 a1.toNatClampNeg)) → (vp_in a1 8 ∧ (vp_in a1 8 ∧ (((v2 = 0) → (vp_in a1 8 ∧ (vp_in a1 8 ∧ (vp_in a1 8 ∧ K26 v2 (up2 (up2 (up2 I 126 a1.toNatClampNeg 0) 124 a1.toNatClampNeg ((I 124 a1.toNatClampNeg) + 1)) 125 a1.toNatClampNeg 0))))) ∧ ((¬ v2 = 0) → (vp_in a1 8 ∧ (vp_in a1 8 ∧ K26 v2 (up2 (up2 I 126 a1.toNatClampNeg 0) 125 a1.toNatClampNeg ((I 125 a1.toNatClampNeg) + 1))))))))) ∧ ((¬ 6 ≤ (I 126 a1.toNatClampNeg)) → (vp_in a1 8 ∧ ((((hs v6 (I 126 a1.toNatClampNeg)) → (vp_in a1 8 ∧ (vp_in a1 8 ∧ (vp_in a1 8 ∧ Q 1 T (up2 I 127 a1.toNatClampNeg ((I 127 a1.toNatClampNeg) + 1)))))) ∧ ((¬ (hs v6 (I 126 a1.toNatClampNeg))) → (vp_in a1 8 ∧ (vp_in a1 8 ∧ K191 v2 v5 v6 (up2 I 126 a1.toNatClampNeg ((I 126 a1.toNatClampNeg) + 1)))))))))))))
set_option maxHeartbeats 4000000 in
set_option maxRecDepth 100000 in
theorem sX12_advance_0 (d : Nat) {T : Topo} (hT : Lay T) (a1 : Int32)    {Q : Int32 → Topo → IM → Prop} {K26 : Int32 → IM → Prop} {K191 : Int32 → Int32 → Int32 → IM → Prop} (hK26 : ∀ (v2 : Int32) (I : IM), K26 v2 I → J (d + 1) mX12_advance (PI Q) 0 0 26 [some (.ref 79), some (.int a1), some (.int v2), none, none, none, none] [] T I 0 0) (hK191 : ∀ (v2 v5 v6 : Int32) (I : IM), K191 v2 v5 v6 I → J (d + 1) mX12_advance (PI Q) 0 0 191 [some (.ref 79), some (.int a1), some (.int v2), none, none, some (.int v5), some (.int v6)] [] T I 0 0) (I : IM) (h : fX12_advance_0 T a1 Q K26 K191 I) : J (d + 1) mX12_advance (PI Q) 0 0 0 [some (.ref 79), some (.int a1), none, none, none, none, none] [] T I 0 0 := by
  unfold fX12_advance_0 at h
  refine J.aload_n dX12_advance_0 rfl rfl ?_
  refine J.getR (r := 90) dX12_advance_1 fX12_45 (hT.k 79 rfl) rfl (hT.r 79 19 rfl rfl) ?_
  refine J.iload_n dX12_advance_4 rfl rfl ?_
  obtain ⟨hs1, h⟩ := h
  refine J.iald dX12_advance_5 (hT.k 90 rfl) (hT.l 90 rfl) hs1 ?_
  refine J.iconst (v := 1) dX12_advance_6 (by decide) ?_
  refine J.icmp_ne (tgt := 14) dX12_advance_7 (by decide) (fun hc2 => ?_) (fun hc2 => ?_)
  · have h := h.1 hc2
    refine J.iconst (v := 0) dX12_advance_14 (by decide) ?_
    refine J.istore_n (ls' := [some (.ref 79), some (.int a1), some (.int 0), none, none, none, none]) dX12_advance_15 rfl rfl rfl ?_
    refine J.aload_n dX12_advance_16 rfl rfl ?_
    refine J.getR (r := 126) dX12_advance_17 fX12_153 (hT.k 79 rfl) rfl (hT.r 79 57 rfl rfl) ?_
    refine J.iload_n dX12_advance_20 rfl rfl ?_
    refine J.dup2 dX12_advance_21 rfl rfl ?_
    obtain ⟨hs3, h⟩ := h
    refine J.iald dX12_advance_22 (hT.k 126 rfl) (hT.l 126 rfl) hs3 ?_
    refine J.iconst (v := 1) dX12_advance_23 (by decide) ?_
    refine J.iadd dX12_advance_24 ?_
    obtain ⟨hs4, h⟩ := h
    refine J.iast dX12_advance_25 (hT.k 126 rfl) (hT.l 126 rfl) hs4 ?_
    exact J.weaken (ls' := [some (.ref 79), some (.int a1), some (.int 0), none, none, none, none]) (And.intro rfl (And.intro rfl (And.intro rfl trivial))) (hK26 0 (up2 I 126 a1.toNatClampNeg ((I 126 a1.toNatClampNeg) + 1)) h)
  · have h := h.2 hc2
    refine J.iconst (v := 1) dX12_advance_10 (by decide) ?_
    refine J.goto (tgt := 15) dX12_advance_11 (by decide) ?_
    refine J.istore_n (ls' := [some (.ref 79), some (.int a1), some (.int 1), none, none, none, none]) dX12_advance_15 rfl rfl rfl ?_
    refine J.aload_n dX12_advance_16 rfl rfl ?_
    refine J.getR (r := 126) dX12_advance_17 fX12_153 (hT.k 79 rfl) rfl (hT.r 79 57 rfl rfl) ?_
    refine J.iload_n dX12_advance_20 rfl rfl ?_
    refine J.dup2 dX12_advance_21 rfl rfl ?_
    refine J.atpc (pc' := 22) rfl ?_
    obtain ⟨hs5, h⟩ := h
    refine J.iald dX12_advance_22 (hT.k 126 rfl) (hT.l 126 rfl) hs5 ?_
    refine J.iconst (v := 1) dX12_advance_23 (by decide) ?_
    refine J.iadd dX12_advance_24 ?_
    obtain ⟨hs6, h⟩ := h
    refine J.iast dX12_advance_25 (hT.k 126 rfl) (hT.l 126 rfl) hs6 ?_
    exact J.weaken (ls' := [some (.ref 79), some (.int a1), some (.int 1), none, none, none, none]) (And.intro rfl (And.intro rfl (And.intro rfl trivial))) (hK26 1 (up2 I 126 a1.toNatClampNeg ((I 126 a1.toNatClampNeg) + 1)) h)
set_option maxHeartbeats 4000000 in
set_option maxRecDepth 100000 in
theorem sX12_advance_26 (d : Nat) {T : Topo} (hT : Lay T) (a1 : Int32)    {Q : Int32 → Topo → IM → Prop} {K26 : Int32 → IM → Prop} {K191 : Int32 → Int32 → Int32 → IM → Prop} (hK26 : ∀ (v2 : Int32) (I : IM), K26 v2 I → J (d + 1) mX12_advance (PI Q) 0 0 26 [some (.ref 79), some (.int a1), some (.int v2), none, none, none, none] [] T I 0 0) (hK191 : ∀ (v2 v5 v6 : Int32) (I : IM), K191 v2 v5 v6 I → J (d + 1) mX12_advance (PI Q) 0 0 191 [some (.ref 79), some (.int a1), some (.int v2), none, none, some (.int v5), some (.int v6)] [] T I 0 0) (v2 : Int32) (I : IM) (h : fX12_advance_26 T a1 Q K26 K191 v2 I) : J (d + 1) mX12_advance (PI Q) 0 0 26 [some (.ref 79), some (.int a1), some (.int v2), none, none, none, none] [] T I 0 0 := by
  unfold fX12_advance_26 at h
  refine J.aload_n dX12_advance_26 rfl rfl ?_
  refine J.getR (r := 124) dX12_advance_27 fX12_147 (hT.k 79 rfl) rfl (hT.r 79 55 rfl rfl) ?_
  refine J.iload_n dX12_advance_30 rfl rfl ?_
  obtain ⟨hs1, h⟩ := h
  refine J.iald dX12_advance_31 (hT.k 124 rfl) (hT.l 124 rfl) hs1 ?_
  refine J.aload_n dX12_advance_32 rfl rfl ?_
  refine J.getR (r := 115) dX12_advance_33 fX12_120 (hT.k 79 rfl) rfl (hT.r 79 44 rfl rfl) ?_
  refine J.iload_n dX12_advance_36 rfl rfl ?_
  obtain ⟨hs2, h⟩ := h
  refine J.iald dX12_advance_37 (hT.k 115 rfl) (hT.l 115 rfl) hs2 ?_
  refine J.icmp_ge (tgt := 311) dX12_advance_38 (by decide) (fun hc3 => ?_) (fun hc3 => ?_)
  · have h := h.1 hc3
    refine J.iconst (v := 0) dX12_advance_311 (by decide) ?_
    exact J.zretQ dX12_advance_312 rfl (Or.inl rfl) (Nat.le_refl _) (Nat.le_refl _) h
  · have h := h.2 hc3
    refine J.aload_n dX12_advance_41 rfl rfl ?_
    refine J.getR (r := 118) dX12_advance_42 fX12_129 (hT.k 79 rfl) rfl (hT.r 79 47 rfl rfl) ?_
    refine J.sipush (v := 256) dX12_advance_45 (by decide) ?_
    refine J.iload_n dX12_advance_48 rfl rfl ?_
    refine J.imul dX12_advance_49 ?_
    refine J.aload_n dX12_advance_50 rfl rfl ?_
    refine J.getR (r := 124) dX12_advance_51 fX12_147 (hT.k 79 rfl) rfl (hT.r 79 55 rfl rfl) ?_
    refine J.atpc (pc' := 54) rfl ?_
    refine J.iload_n dX12_advance_54 rfl rfl ?_
    obtain ⟨hs4, h⟩ := h
    refine J.iald dX12_advance_55 (hT.k 124 rfl) (hT.l 124 rfl) hs4 ?_
    refine J.iadd dX12_advance_56 ?_
    obtain ⟨hs5, h⟩ := h
    refine J.iald dX12_advance_57 (hT.k 118 rfl) (hT.l 118 rfl) hs5 ?_
    refine J.aload_n dX12_advance_58 rfl rfl ?_
    refine J.getR (r := 94) dX12_advance_59 fX12_57 (hT.k 79 rfl) rfl (hT.r 79 23 rfl rfl) ?_
    refine J.iload_n dX12_advance_62 rfl rfl ?_
    obtain ⟨hs6, h⟩ := h
    refine J.iald dX12_advance_63 (hT.k 94 rfl) (hT.l 94 rfl) hs6 ?_
    refine J.icmp_gt (tgt := 311) dX12_advance_64 (by decide) (fun hc7 => ?_) (fun hc7 => ?_)
    · have h := h.1 hc7
      refine J.iconst (v := 0) dX12_advance_311 (by decide) ?_
      exact J.zretQ dX12_advance_312 rfl (Or.inl rfl) (Nat.le_refl _) (Nat.le_refl _) h
    · have h := h.2 hc7
      refine J.sipush (v := 256) dX12_advance_67 (by decide) ?_
      refine J.iload_n dX12_advance_70 rfl rfl ?_
      refine J.imul dX12_advance_71 ?_
      refine J.aload_n dX12_advance_72 rfl rfl ?_
      refine J.getR (r := 124) dX12_advance_73 fX12_147 (hT.k 79 rfl) rfl (hT.r 79 55 rfl rfl) ?_
      refine J.iload_n dX12_advance_76 rfl rfl ?_
      obtain ⟨hs8, h⟩ := h
      refine J.iald dX12_advance_77 (hT.k 124 rfl) (hT.l 124 rfl) hs8 ?_
      refine J.iadd dX12_advance_78 ?_
      refine J.istore_n (ls' := [some (.ref 79), some (.int a1), some (.int v2), some (.int ((256 * a1) + (I 124 a1.toNatClampNeg))), none, none, none]) dX12_advance_79 rfl rfl rfl ?_
      refine J.sipush (v := 256) dX12_advance_80 (by decide) ?_
      refine J.iload_n dX12_advance_83 rfl rfl ?_
      refine J.imul dX12_advance_84 ?_
      refine J.aload_n dX12_advance_85 rfl rfl ?_
      refine J.getR (r := 125) dX12_advance_86 fX12_150 (hT.k 79 rfl) rfl (hT.r 79 56 rfl rfl) ?_
      refine J.atpc (pc' := 89) rfl ?_
      refine J.iload_n dX12_advance_89 rfl rfl ?_
      obtain ⟨hs9, h⟩ := h
      refine J.iald dX12_advance_90 (hT.k 125 rfl) (hT.l 125 rfl) hs9 ?_
      refine J.iadd dX12_advance_91 ?_
      refine J.istore (ls' := [some (.ref 79), some (.int a1), some (.int v2), some (.int ((256 * a1) + (I 124 a1.toNatClampNeg))), some (.int ((256 * a1) + (I 125 a1.toNatClampNeg))), none, none]) dX12_advance_92 rfl rfl ?_
      refine J.iload_n dX12_advance_94 rfl rfl ?_
      refine J.if_eq (tgt := 129) dX12_advance_95 (by decide) (fun hc10 => ?_) (fun hc10 => ?_)
      · have h := h.1 hc10
        refine J.iconst (v := 1) dX12_advance_129 (by decide) ?_
        refine J.goto (tgt := 134) dX12_advance_130 (by decide) ?_
        refine J.istore (ls' := [some (.ref 79), some (.int a1), some (.int v2), some (.int ((256 * a1) + (I 124 a1.toNatClampNeg))), some (.int ((256 * a1) + (I 125 a1.toNatClampNeg))), some (.int 1), none]) dX12_advance_134 rfl rfl ?_
        refine J.iload_n dX12_advance_136 rfl rfl ?_
        refine J.if_eq (tgt := 183) dX12_advance_137 (by decide) (fun hc => ?_) (fun hc => absurd hc10 hc)
        refine J.aload_n dX12_advance_183 rfl rfl ?_
        refine J.getR (r := 120) dX12_advance_184 fX12_135 (hT.k 79 rfl) rfl (hT.r 79 49 rfl rfl) ?_
        refine J.atpc (pc' := 187) rfl ?_
        refine J.iload_n dX12_advance_187 rfl rfl ?_
        obtain ⟨hs11, h⟩ := h
        refine J.iald dX12_advance_188 (hT.k 120 rfl) (hT.l 120 rfl) hs11 ?_
        refine J.istore (ls' := [some (.ref 79), some (.int a1), some (.int v2), some (.int ((256 * a1) + (I 124 a1.toNatClampNeg))), some (.int ((256 * a1) + (I 125 a1.toNatClampNeg))), some (.int 1), some (.int (I 120 ((256 * a1) + (I 124 a1.toNatClampNeg)).toNatClampNeg))]) dX12_advance_189 rfl rfl ?_
        exact J.weaken (ls' := [some (.ref 79), some (.int a1), some (.int v2), none, none, some (.int 1), some (.int (I 120 ((256 * a1) + (I 124 a1.toNatClampNeg)).toNatClampNeg))]) (And.intro rfl (And.intro rfl (And.intro rfl (And.intro rfl (And.intro rfl trivial))))) (hK191 v2 1 (I 120 ((256 * a1) + (I 124 a1.toNatClampNeg)).toNatClampNeg) I h)
      · have h := h.2 hc10
        refine J.aload_n dX12_advance_98 rfl rfl ?_
        refine J.getR (r := 125) dX12_advance_99 fX12_150 (hT.k 79 rfl) rfl (hT.r 79 56 rfl rfl) ?_
        refine J.iload_n dX12_advance_102 rfl rfl ?_
        obtain ⟨hs12, h⟩ := h
        refine J.iald dX12_advance_103 (hT.k 125 rfl) (hT.l 125 rfl) hs12 ?_
        refine J.aload_n dX12_advance_104 rfl rfl ?_
        refine J.getR (r := 115) dX12_advance_105 fX12_120 (hT.k 79 rfl) rfl (hT.r 79 44 rfl rfl) ?_
        refine J.iload_n dX12_advance_108 rfl rfl ?_
        obtain ⟨hs13, h⟩ := h
        refine J.iald dX12_advance_109 (hT.k 115 rfl) (hT.l 115 rfl) hs13 ?_
        refine J.icmp_ge (tgt := 133) dX12_advance_110 (by decide) (fun hc14 => ?_) (fun hc14 => ?_)
        · have h := h.1 hc14
          refine J.iconst (v := 0) dX12_advance_133 (by decide) ?_
          refine J.istore (ls' := [some (.ref 79), some (.int a1), some (.int v2), some (.int ((256 * a1) + (I 124 a1.toNatClampNeg))), some (.int ((256 * a1) + (I 125 a1.toNatClampNeg))), some (.int 0), none]) dX12_advance_134 rfl rfl ?_
          refine J.iload_n dX12_advance_136 rfl rfl ?_
          refine J.if_eq (tgt := 183) dX12_advance_137 (by decide) (fun hc => absurd hc hc10) (fun hc => ?_)
          refine J.iload dX12_advance_140 rfl ?_
          refine J.if_eq (tgt := 183) dX12_advance_142 (by decide) (fun hc => ?_) (fun hc => absurd (by decide) hc)
          refine J.aload_n dX12_advance_183 rfl rfl ?_
          refine J.atpc (pc' := 184) rfl ?_
          refine J.getR (r := 120) dX12_advance_184 fX12_135 (hT.k 79 rfl) rfl (hT.r 79 49 rfl rfl) ?_
          refine J.iload_n dX12_advance_187 rfl rfl ?_
          obtain ⟨hs15, h⟩ := h
          refine J.iald dX12_advance_188 (hT.k 120 rfl) (hT.l 120 rfl) hs15 ?_
          refine J.istore (ls' := [some (.ref 79), some (.int a1), some (.int v2), some (.int ((256 * a1) + (I 124 a1.toNatClampNeg))), some (.int ((256 * a1) + (I 125 a1.toNatClampNeg))), some (.int 0), some (.int (I 120 ((256 * a1) + (I 124 a1.toNatClampNeg)).toNatClampNeg))]) dX12_advance_189 rfl rfl ?_
          exact J.weaken (ls' := [some (.ref 79), some (.int a1), some (.int v2), none, none, some (.int 0), some (.int (I 120 ((256 * a1) + (I 124 a1.toNatClampNeg)).toNatClampNeg))]) (And.intro rfl (And.intro rfl (And.intro rfl (And.intro rfl (And.intro rfl trivial))))) (hK191 v2 0 (I 120 ((256 * a1) + (I 124 a1.toNatClampNeg)).toNatClampNeg) I h)
        · have h := h.2 hc14
          refine J.aload_n dX12_advance_113 rfl rfl ?_
          refine J.getR (r := 118) dX12_advance_114 fX12_129 (hT.k 79 rfl) rfl (hT.r 79 47 rfl rfl) ?_
          refine J.iload dX12_advance_117 rfl ?_
          obtain ⟨hs16, h⟩ := h
          refine J.iald dX12_advance_119 (hT.k 118 rfl) (hT.l 118 rfl) hs16 ?_
          refine J.aload_n dX12_advance_120 rfl rfl ?_
          refine J.getR (r := 94) dX12_advance_121 fX12_57 (hT.k 79 rfl) rfl (hT.r 79 23 rfl rfl) ?_
          refine J.iload_n dX12_advance_124 rfl rfl ?_
          obtain ⟨hs17, h⟩ := h
          refine J.iald dX12_advance_125 (hT.k 94 rfl) (hT.l 94 rfl) hs17 ?_
          refine J.icmp_gt (tgt := 133) dX12_advance_126 (by decide) (fun hc18 => ?_) (fun hc18 => ?_)
          · have h := h.1 hc18
            refine J.iconst (v := 0) dX12_advance_133 (by decide) ?_
            refine J.istore (ls' := [some (.ref 79), some (.int a1), some (.int v2), some (.int ((256 * a1) + (I 124 a1.toNatClampNeg))), some (.int ((256 * a1) + (I 125 a1.toNatClampNeg))), some (.int 0), none]) dX12_advance_134 rfl rfl ?_
            refine J.iload_n dX12_advance_136 rfl rfl ?_
            refine J.if_eq (tgt := 183) dX12_advance_137 (by decide) (fun hc => absurd hc hc10) (fun hc => ?_)
            refine J.iload dX12_advance_140 rfl ?_
            refine J.if_eq (tgt := 183) dX12_advance_142 (by decide) (fun hc => ?_) (fun hc => absurd (by decide) hc)
            refine J.aload_n dX12_advance_183 rfl rfl ?_
            refine J.atpc (pc' := 184) rfl ?_
            refine J.getR (r := 120) dX12_advance_184 fX12_135 (hT.k 79 rfl) rfl (hT.r 79 49 rfl rfl) ?_
            refine J.iload_n dX12_advance_187 rfl rfl ?_
            obtain ⟨hs19, h⟩ := h
            refine J.iald dX12_advance_188 (hT.k 120 rfl) (hT.l 120 rfl) hs19 ?_
            refine J.istore (ls' := [some (.ref 79), some (.int a1), some (.int v2), some (.int ((256 * a1) + (I 124 a1.toNatClampNeg))), some (.int ((256 * a1) + (I 125 a1.toNatClampNeg))), some (.int 0), some (.int (I 120 ((256 * a1) + (I 124 a1.toNatClampNeg)).toNatClampNeg))]) dX12_advance_189 rfl rfl ?_
            exact J.weaken (ls' := [some (.ref 79), some (.int a1), some (.int v2), none, none, some (.int 0), some (.int (I 120 ((256 * a1) + (I 124 a1.toNatClampNeg)).toNatClampNeg))]) (And.intro rfl (And.intro rfl (And.intro rfl (And.intro rfl (And.intro rfl trivial))))) (hK191 v2 0 (I 120 ((256 * a1) + (I 124 a1.toNatClampNeg)).toNatClampNeg) I h)
          · have h := h.2 hc18
            refine J.iconst (v := 1) dX12_advance_129 (by decide) ?_
            refine J.goto (tgt := 134) dX12_advance_130 (by decide) ?_
            refine J.istore (ls' := [some (.ref 79), some (.int a1), some (.int v2), some (.int ((256 * a1) + (I 124 a1.toNatClampNeg))), some (.int ((256 * a1) + (I 125 a1.toNatClampNeg))), some (.int 1), none]) dX12_advance_134 rfl rfl ?_
            refine J.iload_n dX12_advance_136 rfl rfl ?_
            refine J.if_eq (tgt := 183) dX12_advance_137 (by decide) (fun hc => absurd hc hc10) (fun hc => ?_)
            refine J.iload dX12_advance_140 rfl ?_
            refine J.if_eq (tgt := 183) dX12_advance_142 (by decide) (fun hc => absurd hc (by decide)) (fun hc => ?_)
            refine J.atpc (pc' := 145) rfl ?_
            refine J.aload_n dX12_advance_145 rfl rfl ?_
            refine J.getR (r := 119) dX12_advance_146 fX12_132 (hT.k 79 rfl) rfl (hT.r 79 48 rfl rfl) ?_
            refine J.iload_n dX12_advance_149 rfl rfl ?_
            obtain ⟨hs20, h⟩ := h
            refine J.iald dX12_advance_150 (hT.k 119 rfl) (hT.l 119 rfl) hs20 ?_
            refine J.aload_n dX12_advance_151 rfl rfl ?_
            refine J.getR (r := 119) dX12_advance_152 fX12_132 (hT.k 79 rfl) rfl (hT.r 79 48 rfl rfl) ?_
            refine J.iload dX12_advance_155 rfl ?_
            obtain ⟨hs21, h⟩ := h
            refine J.iald dX12_advance_157 (hT.k 119 rfl) (hT.l 119 rfl) hs21 ?_
            refine J.iand dX12_advance_158 ?_
            refine J.if_eq (tgt := 166) dX12_advance_159 (by decide) (fun hc22 => ?_) (fun hc22 => ?_)
            · have h := h.1 hc22
              refine J.aload_n dX12_advance_166 rfl rfl ?_
              refine J.getR (r := 120) dX12_advance_167 fX12_135 (hT.k 79 rfl) rfl (hT.r 79 49 rfl rfl) ?_
              refine J.iload_n dX12_advance_170 rfl rfl ?_
              obtain ⟨hs23, h⟩ := h
              refine J.iald dX12_advance_171 (hT.k 120 rfl) (hT.l 120 rfl) hs23 ?_
              refine J.aload_n dX12_advance_172 rfl rfl ?_
              refine J.getR (r := 120) dX12_advance_173 fX12_135 (hT.k 79 rfl) rfl (hT.r 79 49 rfl rfl) ?_
              refine J.iload dX12_advance_176 rfl ?_
              obtain ⟨hs24, h⟩ := h
              refine J.iald dX12_advance_178 (hT.k 120 rfl) (hT.l 120 rfl) hs24 ?_
              refine J.iand dX12_advance_179 ?_
              refine J.goto (tgt := 189) dX12_advance_180 (by decide) ?_
              refine J.istore (ls' := [some (.ref 79), some (.int a1), some (.int v2), some (.int ((256 * a1) + (I 124 a1.toNatClampNeg))), some (.int ((256 * a1) + (I 125 a1.toNatClampNeg))), some (.int 1), some (.int ((I 120 ((256 * a1) + (I 124 a1.toNatClampNeg)).toNatClampNeg) &&& (I 120 ((256 * a1) + (I 125 a1.toNatClampNeg)).toNatClampNeg)))]) dX12_advance_189 rfl rfl ?_
              exact J.weaken (ls' := [some (.ref 79), some (.int a1), some (.int v2), none, none, some (.int 1), some (.int ((I 120 ((256 * a1) + (I 124 a1.toNatClampNeg)).toNatClampNeg) &&& (I 120 ((256 * a1) + (I 125 a1.toNatClampNeg)).toNatClampNeg)))]) (And.intro rfl (And.intro rfl (And.intro rfl (And.intro rfl (And.intro rfl trivial))))) (hK191 v2 1 ((I 120 ((256 * a1) + (I 124 a1.toNatClampNeg)).toNatClampNeg) &&& (I 120 ((256 * a1) + (I 125 a1.toNatClampNeg)).toNatClampNeg)) I h)
            · have h := h.2 hc22
              refine J.iconst (v := 0) dX12_advance_162 (by decide) ?_
              refine J.goto (tgt := 189) dX12_advance_163 (by decide) ?_
              refine J.istore (ls' := [some (.ref 79), some (.int a1), some (.int v2), some (.int ((256 * a1) + (I 124 a1.toNatClampNeg))), some (.int ((256 * a1) + (I 125 a1.toNatClampNeg))), some (.int 1), some (.int 0)]) dX12_advance_189 rfl rfl ?_
              exact J.weaken (ls' := [some (.ref 79), some (.int a1), some (.int v2), none, none, some (.int 1), some (.int 0)]) (And.intro rfl (And.intro rfl (And.intro rfl (And.intro rfl (And.intro rfl trivial))))) (hK191 v2 1 0 I h)
set_option maxHeartbeats 4000000 in
set_option maxRecDepth 100000 in
theorem sX12_advance_191 (d : Nat) {T : Topo} (hT : Lay T) (a1 : Int32)    {Q : Int32 → Topo → IM → Prop} {K26 : Int32 → IM → Prop} {K191 : Int32 → Int32 → Int32 → IM → Prop} (hK26 : ∀ (v2 : Int32) (I : IM), K26 v2 I → J (d + 1) mX12_advance (PI Q) 0 0 26 [some (.ref 79), some (.int a1), some (.int v2), none, none, none, none] [] T I 0 0) (hK191 : ∀ (v2 v5 v6 : Int32) (I : IM), K191 v2 v5 v6 I → J (d + 1) mX12_advance (PI Q) 0 0 191 [some (.ref 79), some (.int a1), some (.int v2), none, none, some (.int v5), some (.int v6)] [] T I 0 0) (v2 v5 v6 : Int32) (I : IM) (h : fX12_advance_191 T a1 Q K26 K191 v2 v5 v6 I) : J (d + 1) mX12_advance (PI Q) 0 0 191 [some (.ref 79), some (.int a1), some (.int v2), none, none, some (.int v5), some (.int v6)] [] T I 0 0 := by
  unfold fX12_advance_191 at h
  refine J.iload dX12_advance_191 rfl ?_
  refine J.if_eq (tgt := 234) dX12_advance_193 (by decide) (fun hc1 => ?_) (fun hc1 => ?_)
  · have h := h.1 hc1
    refine J.iload dX12_advance_234 rfl ?_
    refine J.if_eq (tgt := 262) dX12_advance_236 (by decide) (fun hc => ?_) (fun hc => absurd hc1 hc)
    refine J.aload_n dX12_advance_262 rfl rfl ?_
    refine J.getR (r := 126) dX12_advance_263 fX12_153 (hT.k 79 rfl) rfl (hT.r 79 57 rfl rfl) ?_
    refine J.iload_n dX12_advance_266 rfl rfl ?_
    refine J.iconst (v := 0) dX12_advance_267 (by decide) ?_
    obtain ⟨hs2, h⟩ := h
    refine J.iast dX12_advance_268 (hT.k 126 rfl) (hT.l 126 rfl) hs2 ?_
    refine J.iload_n dX12_advance_269 rfl rfl ?_
    refine J.if_eq (tgt := 291) dX12_advance_270 (by decide) (fun hc3 => ?_) (fun hc3 => ?_)
    · have h := h.1 hc3
      refine J.aload_n dX12_advance_291 rfl rfl ?_
      refine J.getR (r := 124) dX12_advance_292 fX12_147 (hT.k 79 rfl) rfl (hT.r 79 55 rfl rfl) ?_
      refine J.iload_n dX12_advance_295 rfl rfl ?_
      refine J.dup2 dX12_advance_296 rfl rfl ?_
      obtain ⟨hs4, h⟩ := h
      refine J.iald dX12_advance_297 (hT.k 124 rfl) (hT.l 124 rfl) hs4 ?_
      refine J.topEq (y := (I 124 a1.toNatClampNeg)) (up2_o _ _ _ _ (by decide)) ?_
      refine J.iconst (v := 1) dX12_advance_298 (by decide) ?_
      refine J.iadd dX12_advance_299 ?_
      obtain ⟨hs5, h⟩ := h
      refine J.iast dX12_advance_300 (hT.k 124 rfl) (hT.l 124 rfl) hs5 ?_
      refine J.aload_n dX12_advance_301 rfl rfl ?_
      refine J.getR (r := 125) dX12_advance_302 fX12_150 (hT.k 79 rfl) rfl (hT.r 79 56 rfl rfl) ?_
      refine J.iload_n dX12_advance_305 rfl rfl ?_
      refine J.iconst (v := 0) dX12_advance_306 (by decide) ?_
      obtain ⟨hs6, h⟩ := h
      refine J.iast dX12_advance_307 (hT.k 125 rfl) (hT.l 125 rfl) hs6 ?_
      refine J.goto (tgt := 26) dX12_advance_308 (by decide) ?_
      exact J.weaken (ls' := [some (.ref 79), some (.int a1), some (.int v2), none, none, none, none]) (And.intro rfl (And.intro rfl (And.intro rfl trivial))) (hK26 v2 (up2 (up2 (up2 I 126 a1.toNatClampNeg 0) 124 a1.toNatClampNeg ((I 124 a1.toNatClampNeg) + 1)) 125 a1.toNatClampNeg 0) h)
    · have h := h.2 hc3
      refine J.iload dX12_advance_273 rfl ?_
      refine J.if_eq (tgt := 291) dX12_advance_275 (by decide) (fun hc => ?_) (fun hc => absurd hc1 hc)
      refine J.aload_n dX12_advance_291 rfl rfl ?_
      refine J.getR (r := 124) dX12_advance_292 fX12_147 (hT.k 79 rfl) rfl (hT.r 79 55 rfl rfl) ?_
      refine J.iload_n dX12_advance_295 rfl rfl ?_
      refine J.dup2 dX12_advance_296 rfl rfl ?_
      obtain ⟨hs7, h⟩ := h
      refine J.iald dX12_advance_297 (hT.k 124 rfl) (hT.l 124 rfl) hs7 ?_
      refine J.topEq (y := (I 124 a1.toNatClampNeg)) (up2_o _ _ _ _ (by decide)) ?_
      refine J.iconst (v := 1) dX12_advance_298 (by decide) ?_
      refine J.iadd dX12_advance_299 ?_
      obtain ⟨hs8, h⟩ := h
      refine J.iast dX12_advance_300 (hT.k 124 rfl) (hT.l 124 rfl) hs8 ?_
      refine J.aload_n dX12_advance_301 rfl rfl ?_
      refine J.getR (r := 125) dX12_advance_302 fX12_150 (hT.k 79 rfl) rfl (hT.r 79 56 rfl rfl) ?_
      refine J.iload_n dX12_advance_305 rfl rfl ?_
      refine J.iconst (v := 0) dX12_advance_306 (by decide) ?_
      obtain ⟨hs9, h⟩ := h
      refine J.iast dX12_advance_307 (hT.k 125 rfl) (hT.l 125 rfl) hs9 ?_
      refine J.goto (tgt := 26) dX12_advance_308 (by decide) ?_
      exact J.weaken (ls' := [some (.ref 79), some (.int a1), some (.int v2), none, none, none, none]) (And.intro rfl (And.intro rfl (And.intro rfl trivial))) (hK26 v2 (up2 (up2 (up2 I 126 a1.toNatClampNeg 0) 124 a1.toNatClampNeg ((I 124 a1.toNatClampNeg) + 1)) 125 a1.toNatClampNeg 0) h)
  · have h := h.2 hc1
    refine J.aload_n dX12_advance_196 rfl rfl ?_
    refine J.getR (r := 126) dX12_advance_197 fX12_153 (hT.k 79 rfl) rfl (hT.r 79 57 rfl rfl) ?_
    refine J.iload_n dX12_advance_200 rfl rfl ?_
    obtain ⟨hs10, h⟩ := h
    refine J.iald dX12_advance_201 (hT.k 126 rfl) (hT.l 126 rfl) hs10 ?_
    refine J.bipush (v := 6) dX12_advance_202 (by decide) ?_
    refine J.icmp_ge (tgt := 234) dX12_advance_204 (by decide) (fun hc11 => ?_) (fun hc11 => ?_)
    · have h := h.1 hc11
      refine J.iload dX12_advance_234 rfl ?_
      refine J.if_eq (tgt := 262) dX12_advance_236 (by decide) (fun hc => absurd hc hc1) (fun hc => ?_)
      refine J.aload_n dX12_advance_239 rfl rfl ?_
      refine J.getR (r := 126) dX12_advance_240 fX12_153 (hT.k 79 rfl) rfl (hT.r 79 57 rfl rfl) ?_
      refine J.iload_n dX12_advance_243 rfl rfl ?_
      obtain ⟨hs12, h⟩ := h
      refine J.iald dX12_advance_244 (hT.k 126 rfl) (hT.l 126 rfl) hs12 ?_
      refine J.bipush (v := 6) dX12_advance_245 (by decide) ?_
      refine J.icmp_ge (tgt := 262) dX12_advance_247 (by decide) (fun hc => ?_) (fun hc => absurd hc11 hc)
      refine J.aload_n dX12_advance_262 rfl rfl ?_
      refine J.getR (r := 126) dX12_advance_263 fX12_153 (hT.k 79 rfl) rfl (hT.r 79 57 rfl rfl) ?_
      refine J.iload_n dX12_advance_266 rfl rfl ?_
      refine J.iconst (v := 0) dX12_advance_267 (by decide) ?_
      obtain ⟨hs13, h⟩ := h
      refine J.iast dX12_advance_268 (hT.k 126 rfl) (hT.l 126 rfl) hs13 ?_
      refine J.iload_n dX12_advance_269 rfl rfl ?_
      refine J.if_eq (tgt := 291) dX12_advance_270 (by decide) (fun hc14 => ?_) (fun hc14 => ?_)
      · have h := h.1 hc14
        refine J.aload_n dX12_advance_291 rfl rfl ?_
        refine J.getR (r := 124) dX12_advance_292 fX12_147 (hT.k 79 rfl) rfl (hT.r 79 55 rfl rfl) ?_
        refine J.iload_n dX12_advance_295 rfl rfl ?_
        refine J.dup2 dX12_advance_296 rfl rfl ?_
        obtain ⟨hs15, h⟩ := h
        refine J.iald dX12_advance_297 (hT.k 124 rfl) (hT.l 124 rfl) hs15 ?_
        refine J.topEq (y := (I 124 a1.toNatClampNeg)) (up2_o _ _ _ _ (by decide)) ?_
        refine J.iconst (v := 1) dX12_advance_298 (by decide) ?_
        refine J.iadd dX12_advance_299 ?_
        obtain ⟨hs16, h⟩ := h
        refine J.iast dX12_advance_300 (hT.k 124 rfl) (hT.l 124 rfl) hs16 ?_
        refine J.aload_n dX12_advance_301 rfl rfl ?_
        refine J.getR (r := 125) dX12_advance_302 fX12_150 (hT.k 79 rfl) rfl (hT.r 79 56 rfl rfl) ?_
        refine J.iload_n dX12_advance_305 rfl rfl ?_
        refine J.iconst (v := 0) dX12_advance_306 (by decide) ?_
        obtain ⟨hs17, h⟩ := h
        refine J.iast dX12_advance_307 (hT.k 125 rfl) (hT.l 125 rfl) hs17 ?_
        refine J.goto (tgt := 26) dX12_advance_308 (by decide) ?_
        exact J.weaken (ls' := [some (.ref 79), some (.int a1), some (.int v2), none, none, none, none]) (And.intro rfl (And.intro rfl (And.intro rfl trivial))) (hK26 v2 (up2 (up2 (up2 I 126 a1.toNatClampNeg 0) 124 a1.toNatClampNeg ((I 124 a1.toNatClampNeg) + 1)) 125 a1.toNatClampNeg 0) h)
      · have h := h.2 hc14
        refine J.iload dX12_advance_273 rfl ?_
        refine J.if_eq (tgt := 291) dX12_advance_275 (by decide) (fun hc => absurd hc hc1) (fun hc => ?_)
        refine J.aload_n dX12_advance_278 rfl rfl ?_
        refine J.getR (r := 125) dX12_advance_279 fX12_150 (hT.k 79 rfl) rfl (hT.r 79 56 rfl rfl) ?_
        refine J.iload_n dX12_advance_282 rfl rfl ?_
        refine J.dup2 dX12_advance_283 rfl rfl ?_
        obtain ⟨hs18, h⟩ := h
        refine J.iald dX12_advance_284 (hT.k 125 rfl) (hT.l 125 rfl) hs18 ?_
        refine J.topEq (y := (I 125 a1.toNatClampNeg)) (up2_o _ _ _ _ (by decide)) ?_
        refine J.iconst (v := 1) dX12_advance_285 (by decide) ?_
        refine J.iadd dX12_advance_286 ?_
        obtain ⟨hs19, h⟩ := h
        refine J.iast dX12_advance_287 (hT.k 125 rfl) (hT.l 125 rfl) hs19 ?_
        refine J.goto (tgt := 308) dX12_advance_288 (by decide) ?_
        refine J.goto (tgt := 26) dX12_advance_308 (by decide) ?_
        exact J.weaken (ls' := [some (.ref 79), some (.int a1), some (.int v2), none, none, none, none]) (And.intro rfl (And.intro rfl (And.intro rfl trivial))) (hK26 v2 (up2 (up2 I 126 a1.toNatClampNeg 0) 125 a1.toNatClampNeg ((I 125 a1.toNatClampNeg) + 1)) h)
    · have h := h.2 hc11
      refine J.iload dX12_advance_207 rfl ?_
      refine J.aload_n dX12_advance_209 rfl rfl ?_
      refine J.getR (r := 126) dX12_advance_210 fX12_153 (hT.k 79 rfl) rfl (hT.r 79 57 rfl rfl) ?_
      refine J.iload_n dX12_advance_213 rfl rfl ?_
      obtain ⟨hs20, h⟩ := h
      refine J.iald dX12_advance_214 (hT.k 126 rfl) (hT.l 126 rfl) hs20 ?_
      refine J.callSP (as := [.int v6, .int (I 126 a1.toNatClampNeg)]) (rest := []) dX12_advance_215 kX12_has vX12_has lX12_212 rfl rfl rfl (by omega) (Nat.le_refl _) (Nat.le_refl _) (qX12_has (d + 0) hT v6 (I 126 a1.toNatClampNeg) ) ?_
      refine J.bz_ne (tgt := 234) dX12_advance_218 (by decide) (fun hc21 => ?_) (fun hc21 => ?_)
      · have h := h.1 hc21
        refine J.iload dX12_advance_234 rfl ?_
        refine J.if_eq (tgt := 262) dX12_advance_236 (by decide) (fun hc => absurd hc hc1) (fun hc => ?_)
        refine J.aload_n dX12_advance_239 rfl rfl ?_
        refine J.getR (r := 126) dX12_advance_240 fX12_153 (hT.k 79 rfl) rfl (hT.r 79 57 rfl rfl) ?_
        refine J.iload_n dX12_advance_243 rfl rfl ?_
        obtain ⟨hs22, h⟩ := h
        refine J.iald dX12_advance_244 (hT.k 126 rfl) (hT.l 126 rfl) hs22 ?_
        refine J.bipush (v := 6) dX12_advance_245 (by decide) ?_
        refine J.icmp_ge (tgt := 262) dX12_advance_247 (by decide) (fun hc => absurd hc hc11) (fun hc => ?_)
        refine J.aload_n dX12_advance_250 rfl rfl ?_
        refine J.getR (r := 127) dX12_advance_251 fX12_156 (hT.k 79 rfl) rfl (hT.r 79 58 rfl rfl) ?_
        refine J.iload_n dX12_advance_254 rfl rfl ?_
        refine J.dup2 dX12_advance_255 rfl rfl ?_
        obtain ⟨hs23, h⟩ := h
        refine J.iald dX12_advance_256 (hT.k 127 rfl) (hT.l 127 rfl) hs23 ?_
        refine J.iconst (v := 1) dX12_advance_257 (by decide) ?_
        refine J.iadd dX12_advance_258 ?_
        obtain ⟨hs24, h⟩ := h
        refine J.iast dX12_advance_259 (hT.k 127 rfl) (hT.l 127 rfl) hs24 ?_
        refine J.iconst (v := 1) dX12_advance_260 (by decide) ?_
        exact J.zretQ dX12_advance_261 rfl (Or.inr rfl) (Nat.le_refl _) (Nat.le_refl _) h
      · have h := h.2 hc21
        refine J.aload_n dX12_advance_221 rfl rfl ?_
        refine J.getR (r := 126) dX12_advance_222 fX12_153 (hT.k 79 rfl) rfl (hT.r 79 57 rfl rfl) ?_
        refine J.iload_n dX12_advance_225 rfl rfl ?_
        refine J.dup2 dX12_advance_226 rfl rfl ?_
        obtain ⟨hs25, h⟩ := h
        refine J.iald dX12_advance_227 (hT.k 126 rfl) (hT.l 126 rfl) hs25 ?_
        refine J.iconst (v := 1) dX12_advance_228 (by decide) ?_
        refine J.iadd dX12_advance_229 ?_
        obtain ⟨hs26, h⟩ := h
        refine J.iast dX12_advance_230 (hT.k 126 rfl) (hT.l 126 rfl) hs26 ?_
        refine J.goto (tgt := 191) dX12_advance_231 (by decide) ?_
        exact J.weaken (ls' := [some (.ref 79), some (.int a1), some (.int v2), none, none, some (.int v5), some (.int v6)]) (And.intro rfl (And.intro rfl (And.intro rfl (And.intro rfl (And.intro rfl trivial))))) (hK191 v2 v5 v6 (up2 I 126 a1.toNatClampNeg ((I 126 a1.toNatClampNeg) + 1)) h)
set_option maxHeartbeats 4000000 in
set_option maxRecDepth 100000 in
theorem wX12_advance (d : Nat) {T : Topo} (hT : Lay T) (a1 : Int32)   {Q : Int32 → Topo → IM → Prop} (V26 : Int32 → IM → Prop) (μ26 : Int32 → IM → Nat) (V191 : Int32 → Int32 → Int32 → IM → Prop) (μ191 : Int32 → Int32 → Int32 → IM → Nat) (vc26 : ∀ (v2 : Int32) (I : IM), V26 v2 I → fX12_advance_26 T a1 Q (fun w2 I_ => V26 w2 I_ ∧ μ26 w2 I_ < μ26 v2 I) (fun w2 w5 w6 I_ => V191 w2 w5 w6 I_ ∧ μ191 w2 w5 w6 I_ < μ26 v2 I) v2 I) (vc191 : ∀ (v2 v5 v6 : Int32) (I : IM), V191 v2 v5 v6 I → fX12_advance_191 T a1 Q (fun w2 I_ => V26 w2 I_ ∧ μ26 w2 I_ < μ191 v2 v5 v6 I) (fun w2 w5 w6 I_ => V191 w2 w5 w6 I_ ∧ μ191 w2 w5 w6 I_ < μ191 v2 v5 v6 I) v2 v5 v6 I) {I : IM} (h : fX12_advance_0 T a1 Q V26 V191 I) : Ct (d + 1) mX12_advance [.ref 79, .int a1] T I 0 0 (PI Q) := by
  have all : ∀ n : Nat, (∀ (v2 : Int32) (I : IM), V26 v2 I → μ26 v2 I < n → J (d + 1) mX12_advance (PI Q) 0 0 26 [some (.ref 79), some (.int a1), some (.int v2), none, none, none, none] [] T I 0 0) ∧ (∀ (v2 v5 v6 : Int32) (I : IM), V191 v2 v5 v6 I → μ191 v2 v5 v6 I < n → J (d + 1) mX12_advance (PI Q) 0 0 191 [some (.ref 79), some (.int a1), some (.int v2), none, none, some (.int v5), some (.int v6)] [] T I 0 0) := by
    intro n
    induction n with
    | zero => exact ⟨fun _ _ _ hn => absurd hn (Nat.not_lt_zero _), fun _ _ _ _ _ hn => absurd hn (Nat.not_lt_zero _)⟩
    | succ n ih =>
      exact ⟨fun v2 I hv hn => sX12_advance_26 d hT a1   (fun w2 I_ hw => ih.1 w2 I_ hw.1 (by have := hw.2; omega)) (fun w2 w5 w6 I_ hw => ih.2 w2 w5 w6 I_ hw.1 (by have := hw.2; omega)) v2 I (vc26 v2 I hv), fun v2 v5 v6 I hv hn => sX12_advance_191 d hT a1   (fun w2 I_ hw => ih.1 w2 I_ hw.1 (by have := hw.2; omega)) (fun w2 w5 w6 I_ hw => ih.2 w2 w5 w6 I_ hw.1 (by have := hw.2; omega)) v2 v5 v6 I (vc191 v2 v5 v6 I hv)⟩
  exact Ct.ofJ (by decide +kernel) rfl (by intro v hv; revert v hv; simp [Value.category]) rfl (sX12_advance_0 d hT a1   (fun w2 I_ hw => (all (μ26 w2 I_ + 1)).1 w2 I_ hw (Nat.lt_succ_self _)) (fun w2 w5 w6 I_ hw => (all (μ191 w2 w5 w6 I_ + 1)).2 w2 w5 w6 I_ hw (Nat.lt_succ_self _)) I h)

def jX12_advanceB26 (a1 : Int32) (F : (Nat → Int32 → Int32 → Int32 → IM → Int32 × IM)) (v2 v5 v6 : Int32) (I : IM) : Int32 × IM := (if (I 115 a1.toNatClampNeg) ≤ (I 124 a1.toNatClampNeg) then (0, I) else (if (I 94 a1.toNatClampNeg) < (I 118 ((256 * a1) + (I 124 a1.toNatClampNeg)).toNatClampNeg) then (0, I) else (if v2 = 0 then (F 1 v2 1 (I 120 ((256 * a1) + (I 124 a1.toNatClampNeg)).toNatClampNeg) I) else (if (I 115 a1.toNatClampNeg) ≤ (I 125 a1.toNatClampNeg) then (F 1 v2 0 (I 120 ((256 * a1) + (I 124 a1.toNatClampNeg)).toNatClampNeg) I) else (if (I 94 a1.toNatClampNeg) < (I 118 ((256 * a1) + (I 125 a1.toNatClampNeg)).toNatClampNeg) then (F 1 v2 0 (I 120 ((256 * a1) + (I 124 a1.toNatClampNeg)).toNatClampNeg) I) else (if ((I 119 ((256 * a1) + (I 124 a1.toNatClampNeg)).toNatClampNeg) &&& (I 119 ((256 * a1) + (I 125 a1.toNatClampNeg)).toNatClampNeg)) = 0 then (F 1 v2 1 ((I 120 ((256 * a1) + (I 124 a1.toNatClampNeg)).toNatClampNeg) &&& (I 120 ((256 * a1) + (I 125 a1.toNatClampNeg)).toNatClampNeg)) I) else (F 1 v2 1 0 I)))))))
def jX12_advanceC26 (a1 : Int32) (F : (Nat → Int32 → Int32 → Int32 → IM → Prop)) (v2 v5 v6 : Int32) (I : IM) : Prop := (vp_in a1 8 ∧ (vp_in a1 9 ∧ ((((I 115 a1.toNatClampNeg) ≤ (I 124 a1.toNatClampNeg)) → True) ∧ ((¬ (I 115 a1.toNatClampNeg) ≤ (I 124 a1.toNatClampNeg)) → (vp_in a1 8 ∧ (vp_in ((256 * a1) + (I 124 a1.toNatClampNeg)) 2304 ∧ (vp_in a1 8 ∧ ((((I 94 a1.toNatClampNeg) < (I 118 ((256 * a1) + (I 124 a1.toNatClampNeg)).toNatClampNeg)) → True) ∧ ((¬ (I 94 a1.toNatClampNeg) < (I 118 ((256 * a1) + (I 124 a1.toNatClampNeg)).toNatClampNeg)) → (vp_in a1 8 ∧ (vp_in a1 8 ∧ (((v2 = 0) → (vp_in ((256 * a1) + (I 124 a1.toNatClampNeg)) 2304 ∧ (F 1 v2 1 (I 120 ((256 * a1) + (I 124 a1.toNatClampNeg)).toNatClampNeg) I))) ∧ ((¬ v2 = 0) → (vp_in a1 8 ∧ (vp_in a1 9 ∧ ((((I 115 a1.toNatClampNeg) ≤ (I 125 a1.toNatClampNeg)) → (vp_in ((256 * a1) + (I 124 a1.toNatClampNeg)) 2304 ∧ (F 1 v2 0 (I 120 ((256 * a1) + (I 124 a1.toNatClampNeg)).toNatClampNeg) I))) ∧ ((¬ (I 115 a1.toNatClampNeg) ≤ (I 125 a1.toNatClampNeg)) → (vp_in ((256 * a1) + (I 125 a1.toNatClampNeg)) 2304 ∧ (vp_in a1 8 ∧ ((((I 94 a1.toNatClampNeg) < (I 118 ((256 * a1) + (I 125 a1.toNatClampNeg)).toNatClampNeg)) → (vp_in ((256 * a1) + (I 124 a1.toNatClampNeg)) 2304 ∧ (F 1 v2 0 (I 120 ((256 * a1) + (I 124 a1.toNatClampNeg)).toNatClampNeg) I))) ∧ ((¬ (I 94 a1.toNatClampNeg) < (I 118 ((256 * a1) + (I 125 a1.toNatClampNeg)).toNatClampNeg)) → (vp_in ((256 * a1) + (I 124 a1.toNatClampNeg)) 2304 ∧ (vp_in ((256 * a1) + (I 125 a1.toNatClampNeg)) 2304 ∧ (((((I 119 ((256 * a1) + (I 124 a1.toNatClampNeg)).toNatClampNeg) &&& (I 119 ((256 * a1) + (I 125 a1.toNatClampNeg)).toNatClampNeg)) = 0) → (vp_in ((256 * a1) + (I 124 a1.toNatClampNeg)) 2304 ∧ (vp_in ((256 * a1) + (I 125 a1.toNatClampNeg)) 2304 ∧ (F 1 v2 1 ((I 120 ((256 * a1) + (I 124 a1.toNatClampNeg)).toNatClampNeg) &&& (I 120 ((256 * a1) + (I 125 a1.toNatClampNeg)).toNatClampNeg)) I)))) ∧ ((¬ ((I 119 ((256 * a1) + (I 124 a1.toNatClampNeg)).toNatClampNeg) &&& (I 119 ((256 * a1) + (I 125 a1.toNatClampNeg)).toNatClampNeg)) = 0) → (F 1 v2 1 0 I))))))))))))))))))))))))))
def jX12_advanceB191 (a1 : Int32) (F : (Nat → Int32 → Int32 → Int32 → IM → Int32 × IM)) (v2 v5 v6 : Int32) (I : IM) : Int32 × IM := (if v5 = 0 then (F 0 v2 0 0 (up2 (up2 (up2 I 126 a1.toNatClampNeg 0) 124 a1.toNatClampNeg ((I 124 a1.toNatClampNeg) + 1)) 125 a1.toNatClampNeg 0)) else (if 6 ≤ (I 126 a1.toNatClampNeg) then (if v2 = 0 then (F 0 v2 0 0 (up2 (up2 (up2 I 126 a1.toNatClampNeg 0) 124 a1.toNatClampNeg ((I 124 a1.toNatClampNeg) + 1)) 125 a1.toNatClampNeg 0)) else (F 0 v2 0 0 (up2 (up2 I 126 a1.toNatClampNeg 0) 125 a1.toNatClampNeg ((I 125 a1.toNatClampNeg) + 1)))) else (if hs v6 (I 126 a1.toNatClampNeg) then (1, (up2 I 127 a1.toNatClampNeg ((I 127 a1.toNatClampNeg) + 1))) else (F 1 v2 v5 v6 (up2 I 126 a1.toNatClampNeg ((I 126 a1.toNatClampNeg) + 1))))))
def jX12_advanceC191 (a1 : Int32) (F : (Nat → Int32 → Int32 → Int32 → IM → Prop)) (v2 v5 v6 : Int32) (I : IM) : Prop := (((v5 = 0) → (vp_in a1 8 ∧ (((v2 = 0) → (vp_in a1 8 ∧ (vp_in a1 8 ∧ (vp_in a1 8 ∧ (F 0 v2 0 0 (up2 (up2 (up2 I 126 a1.toNatClampNeg 0) 124 a1.toNatClampNeg ((I 124 a1.toNatClampNeg) + 1)) 125 a1.toNatClampNeg 0)))))) ∧ ((¬ v2 = 0) → (vp_in a1 8 ∧ (vp_in a1 8 ∧ (vp_in a1 8 ∧ (F 0 v2 0 0 (up2 (up2 (up2 I 126 a1.toNatClampNeg 0) 124 a1.toNatClampNeg ((I 124 a1.toNatClampNeg) + 1)) 125 a1.toNatClampNeg 0))))))))) ∧ ((¬ v5 = 0) → (vp_in a1 8 ∧ (((6 ≤ (I 126 a1.toNatClampNeg)) → (vp_in a1 8 ∧ (vp_in a1 8 ∧ (((v2 = 0) → (vp_in a1 8 ∧ (vp_in a1 8 ∧ (vp_in a1 8 ∧ (F 0 v2 0 0 (up2 (up2 (up2 I 126 a1.toNatClampNeg 0) 124 a1.toNatClampNeg ((I 124 a1.toNatClampNeg) + 1)) 125 a1.toNatClampNeg 0)))))) ∧ ((¬ v2 = 0) → (vp_in a1 8 ∧ (vp_in a1 8 ∧ (F 0 v2 0 0 (up2 (up2 I 126 a1.toNatClampNeg 0) 125 a1.toNatClampNeg ((I 125 a1.toNatClampNeg) + 1)))))))))) ∧ ((¬ 6 ≤ (I 126 a1.toNatClampNeg)) → (vp_in a1 8 ∧ (((hs v6 (I 126 a1.toNatClampNeg)) → (vp_in a1 8 ∧ (vp_in a1 8 ∧ vp_in a1 8))) ∧ ((¬ (hs v6 (I 126 a1.toNatClampNeg))) → (vp_in a1 8 ∧ (vp_in a1 8 ∧ (F 1 v2 v5 v6 (up2 I 126 a1.toNatClampNeg ((I 126 a1.toNatClampNeg) + 1)))))))))))))
def jX12_advanceI (a1 : Int32) : Nat → Nat → Int32 → Int32 → Int32 → IM → Int32 × IM
  | 0 => fun _ _ _ _ I => (0, I)
  | n + 1 => fun tg v2 v5 v6 I => (if tg = 0 then jX12_advanceB26 a1 (jX12_advanceI a1 n) v2 v5 v6 I else (if tg = 1 then jX12_advanceB191 a1 (jX12_advanceI a1 n) v2 v5 v6 I else (0, I)))
def jX12_advanceO (a1 : Int32) : Nat → Nat → Int32 → Int32 → Int32 → IM → Prop
  | 0 => fun _ _ _ _ _ => False
  | n + 1 => fun tg v2 v5 v6 I => (if tg = 0 then jX12_advanceC26 a1 (jX12_advanceO a1 n) v2 v5 v6 I else (if tg = 1 then jX12_advanceC191 a1 (jX12_advanceO a1 n) v2 v5 v6 I else True))
theorem jX12_advanceI_26 (a1 : Int32) (n : Nat) (v2 v5 v6 : Int32) (I : IM) : jX12_advanceI a1 (n + 1) 0 v2 v5 v6 I = (if (I 115 a1.toNatClampNeg) ≤ (I 124 a1.toNatClampNeg) then (0, I) else (if (I 94 a1.toNatClampNeg) < (I 118 ((256 * a1) + (I 124 a1.toNatClampNeg)).toNatClampNeg) then (0, I) else (if v2 = 0 then (jX12_advanceI a1 n 1 v2 1 (I 120 ((256 * a1) + (I 124 a1.toNatClampNeg)).toNatClampNeg) I) else (if (I 115 a1.toNatClampNeg) ≤ (I 125 a1.toNatClampNeg) then (jX12_advanceI a1 n 1 v2 0 (I 120 ((256 * a1) + (I 124 a1.toNatClampNeg)).toNatClampNeg) I) else (if (I 94 a1.toNatClampNeg) < (I 118 ((256 * a1) + (I 125 a1.toNatClampNeg)).toNatClampNeg) then (jX12_advanceI a1 n 1 v2 0 (I 120 ((256 * a1) + (I 124 a1.toNatClampNeg)).toNatClampNeg) I) else (if ((I 119 ((256 * a1) + (I 124 a1.toNatClampNeg)).toNatClampNeg) &&& (I 119 ((256 * a1) + (I 125 a1.toNatClampNeg)).toNatClampNeg)) = 0 then (jX12_advanceI a1 n 1 v2 1 ((I 120 ((256 * a1) + (I 124 a1.toNatClampNeg)).toNatClampNeg) &&& (I 120 ((256 * a1) + (I 125 a1.toNatClampNeg)).toNatClampNeg)) I) else (jX12_advanceI a1 n 1 v2 1 0 I))))))) := by
  show (if (0 : Nat) = 0 then jX12_advanceB26 a1 (jX12_advanceI a1 n) v2 v5 v6 I else (if (0 : Nat) = 1 then jX12_advanceB191 a1 (jX12_advanceI a1 n) v2 v5 v6 I else (0, I))) = _
  rw [if_pos rfl]; rfl
theorem jX12_advanceO_26 (a1 : Int32) (n : Nat) (v2 v5 v6 : Int32) (I : IM) : jX12_advanceO a1 (n + 1) 0 v2 v5 v6 I = (vp_in a1 8 ∧ (vp_in a1 9 ∧ ((((I 115 a1.toNatClampNeg) ≤ (I 124 a1.toNatClampNeg)) → True) ∧ ((¬ (I 115 a1.toNatClampNeg) ≤ (I 124 a1.toNatClampNeg)) → (vp_in a1 8 ∧ (vp_in ((256 * a1) + (I 124 a1.toNatClampNeg)) 2304 ∧ (vp_in a1 8 ∧ ((((I 94 a1.toNatClampNeg) < (I 118 ((256 * a1) + (I 124 a1.toNatClampNeg)).toNatClampNeg)) → True) ∧ ((¬ (I 94 a1.toNatClampNeg) < (I 118 ((256 * a1) + (I 124 a1.toNatClampNeg)).toNatClampNeg)) → (vp_in a1 8 ∧ (vp_in a1 8 ∧ (((v2 = 0) → (vp_in ((256 * a1) + (I 124 a1.toNatClampNeg)) 2304 ∧ (jX12_advanceO a1 n 1 v2 1 (I 120 ((256 * a1) + (I 124 a1.toNatClampNeg)).toNatClampNeg) I))) ∧ ((¬ v2 = 0) → (vp_in a1 8 ∧ (vp_in a1 9 ∧ ((((I 115 a1.toNatClampNeg) ≤ (I 125 a1.toNatClampNeg)) → (vp_in ((256 * a1) + (I 124 a1.toNatClampNeg)) 2304 ∧ (jX12_advanceO a1 n 1 v2 0 (I 120 ((256 * a1) + (I 124 a1.toNatClampNeg)).toNatClampNeg) I))) ∧ ((¬ (I 115 a1.toNatClampNeg) ≤ (I 125 a1.toNatClampNeg)) → (vp_in ((256 * a1) + (I 125 a1.toNatClampNeg)) 2304 ∧ (vp_in a1 8 ∧ ((((I 94 a1.toNatClampNeg) < (I 118 ((256 * a1) + (I 125 a1.toNatClampNeg)).toNatClampNeg)) → (vp_in ((256 * a1) + (I 124 a1.toNatClampNeg)) 2304 ∧ (jX12_advanceO a1 n 1 v2 0 (I 120 ((256 * a1) + (I 124 a1.toNatClampNeg)).toNatClampNeg) I))) ∧ ((¬ (I 94 a1.toNatClampNeg) < (I 118 ((256 * a1) + (I 125 a1.toNatClampNeg)).toNatClampNeg)) → (vp_in ((256 * a1) + (I 124 a1.toNatClampNeg)) 2304 ∧ (vp_in ((256 * a1) + (I 125 a1.toNatClampNeg)) 2304 ∧ (((((I 119 ((256 * a1) + (I 124 a1.toNatClampNeg)).toNatClampNeg) &&& (I 119 ((256 * a1) + (I 125 a1.toNatClampNeg)).toNatClampNeg)) = 0) → (vp_in ((256 * a1) + (I 124 a1.toNatClampNeg)) 2304 ∧ (vp_in ((256 * a1) + (I 125 a1.toNatClampNeg)) 2304 ∧ (jX12_advanceO a1 n 1 v2 1 ((I 120 ((256 * a1) + (I 124 a1.toNatClampNeg)).toNatClampNeg) &&& (I 120 ((256 * a1) + (I 125 a1.toNatClampNeg)).toNatClampNeg)) I)))) ∧ ((¬ ((I 119 ((256 * a1) + (I 124 a1.toNatClampNeg)).toNatClampNeg) &&& (I 119 ((256 * a1) + (I 125 a1.toNatClampNeg)).toNatClampNeg)) = 0) → (jX12_advanceO a1 n 1 v2 1 0 I)))))))))))))))))))))))))) := by
  show (if (0 : Nat) = 0 then jX12_advanceC26 a1 (jX12_advanceO a1 n) v2 v5 v6 I else (if (0 : Nat) = 1 then jX12_advanceC191 a1 (jX12_advanceO a1 n) v2 v5 v6 I else True)) = _
  rw [if_pos rfl]; rfl
theorem jX12_advanceI_191 (a1 : Int32) (n : Nat) (v2 v5 v6 : Int32) (I : IM) : jX12_advanceI a1 (n + 1) 1 v2 v5 v6 I = (if v5 = 0 then (jX12_advanceI a1 n 0 v2 0 0 (up2 (up2 (up2 I 126 a1.toNatClampNeg 0) 124 a1.toNatClampNeg ((I 124 a1.toNatClampNeg) + 1)) 125 a1.toNatClampNeg 0)) else (if 6 ≤ (I 126 a1.toNatClampNeg) then (if v2 = 0 then (jX12_advanceI a1 n 0 v2 0 0 (up2 (up2 (up2 I 126 a1.toNatClampNeg 0) 124 a1.toNatClampNeg ((I 124 a1.toNatClampNeg) + 1)) 125 a1.toNatClampNeg 0)) else (jX12_advanceI a1 n 0 v2 0 0 (up2 (up2 I 126 a1.toNatClampNeg 0) 125 a1.toNatClampNeg ((I 125 a1.toNatClampNeg) + 1)))) else (if hs v6 (I 126 a1.toNatClampNeg) then (1, (up2 I 127 a1.toNatClampNeg ((I 127 a1.toNatClampNeg) + 1))) else (jX12_advanceI a1 n 1 v2 v5 v6 (up2 I 126 a1.toNatClampNeg ((I 126 a1.toNatClampNeg) + 1)))))) := by
  show (if (1 : Nat) = 0 then jX12_advanceB26 a1 (jX12_advanceI a1 n) v2 v5 v6 I else (if (1 : Nat) = 1 then jX12_advanceB191 a1 (jX12_advanceI a1 n) v2 v5 v6 I else (0, I))) = _
  rw [if_neg (by decide), if_pos rfl]; rfl
theorem jX12_advanceO_191 (a1 : Int32) (n : Nat) (v2 v5 v6 : Int32) (I : IM) : jX12_advanceO a1 (n + 1) 1 v2 v5 v6 I = (((v5 = 0) → (vp_in a1 8 ∧ (((v2 = 0) → (vp_in a1 8 ∧ (vp_in a1 8 ∧ (vp_in a1 8 ∧ (jX12_advanceO a1 n 0 v2 0 0 (up2 (up2 (up2 I 126 a1.toNatClampNeg 0) 124 a1.toNatClampNeg ((I 124 a1.toNatClampNeg) + 1)) 125 a1.toNatClampNeg 0)))))) ∧ ((¬ v2 = 0) → (vp_in a1 8 ∧ (vp_in a1 8 ∧ (vp_in a1 8 ∧ (jX12_advanceO a1 n 0 v2 0 0 (up2 (up2 (up2 I 126 a1.toNatClampNeg 0) 124 a1.toNatClampNeg ((I 124 a1.toNatClampNeg) + 1)) 125 a1.toNatClampNeg 0))))))))) ∧ ((¬ v5 = 0) → (vp_in a1 8 ∧ (((6 ≤ (I 126 a1.toNatClampNeg)) → (vp_in a1 8 ∧ (vp_in a1 8 ∧ (((v2 = 0) → (vp_in a1 8 ∧ (vp_in a1 8 ∧ (vp_in a1 8 ∧ (jX12_advanceO a1 n 0 v2 0 0 (up2 (up2 (up2 I 126 a1.toNatClampNeg 0) 124 a1.toNatClampNeg ((I 124 a1.toNatClampNeg) + 1)) 125 a1.toNatClampNeg 0)))))) ∧ ((¬ v2 = 0) → (vp_in a1 8 ∧ (vp_in a1 8 ∧ (jX12_advanceO a1 n 0 v2 0 0 (up2 (up2 I 126 a1.toNatClampNeg 0) 125 a1.toNatClampNeg ((I 125 a1.toNatClampNeg) + 1)))))))))) ∧ ((¬ 6 ≤ (I 126 a1.toNatClampNeg)) → (vp_in a1 8 ∧ (((hs v6 (I 126 a1.toNatClampNeg)) → (vp_in a1 8 ∧ (vp_in a1 8 ∧ vp_in a1 8))) ∧ ((¬ (hs v6 (I 126 a1.toNatClampNeg))) → (vp_in a1 8 ∧ (vp_in a1 8 ∧ (jX12_advanceO a1 n 1 v2 v5 v6 (up2 I 126 a1.toNatClampNeg ((I 126 a1.toNatClampNeg) + 1))))))))))))) := by
  show (if (1 : Nat) = 0 then jX12_advanceC26 a1 (jX12_advanceO a1 n) v2 v5 v6 I else (if (1 : Nat) = 1 then jX12_advanceC191 a1 (jX12_advanceO a1 n) v2 v5 v6 I else True)) = _
  rw [if_neg (by decide), if_pos rfl]; rfl
def jX12_advance (I : IM) (a1 : Int32) : Int32 × IM := (if (I 90 a1.toNatClampNeg) = 1 then (jX12_advanceI a1 FU 0 1 0 0 (up2 I 126 a1.toNatClampNeg ((I 126 a1.toNatClampNeg) + 1))) else (jX12_advanceI a1 FU 0 0 0 0 (up2 I 126 a1.toNatClampNeg ((I 126 a1.toNatClampNeg) + 1))))
def jX12_advanceK (I : IM) (a1 : Int32) : Prop := (vp_in a1 8 ∧ (((¬ (I 90 a1.toNatClampNeg) = 1) → (vp_in a1 8 ∧ (vp_in a1 8 ∧ (jX12_advanceO a1 FU 0 0 0 0 (up2 I 126 a1.toNatClampNeg ((I 126 a1.toNatClampNeg) + 1)))))) ∧ (((I 90 a1.toNatClampNeg) = 1) → (vp_in a1 8 ∧ (vp_in a1 8 ∧ (jX12_advanceO a1 FU 0 1 0 0 (up2 I 126 a1.toNatClampNeg ((I 126 a1.toNatClampNeg) + 1))))))))
set_option maxRecDepth 10000 in
set_option maxHeartbeats 1000000 in
theorem uX12_advance (d : Nat) {T : Topo} (hT : Lay T) (a1 : Int32)   {R : Int32 × IM} : ∀ n : Nat, (∀ (v2 : Int32) (I : IM), jX12_advanceO a1 n 0 v2 0 0 I → jX12_advanceI a1 n 0 v2 0 0 I = R → J (d + 1) mX12_advance (PI (fun x T' I' => T' = T ∧ x = R.1 ∧ I' = R.2)) 0 0 26 [some (.ref 79), some (.int a1), some (.int v2), none, none, none, none] [] T I 0 0) ∧ (∀ (v2 v5 v6 : Int32) (I : IM), jX12_advanceO a1 n 1 v2 v5 v6 I → jX12_advanceI a1 n 1 v2 v5 v6 I = R → J (d + 1) mX12_advance (PI (fun x T' I' => T' = T ∧ x = R.1 ∧ I' = R.2)) 0 0 191 [some (.ref 79), some (.int a1), some (.int v2), none, none, some (.int v5), some (.int v6)] [] T I 0 0) := by
  intro n
  induction n with
  | zero => exact ⟨fun _ _ hz => hz.elim, fun _ _ _ _ hz => hz.elim⟩
  | succ n ih =>
    refine ⟨?_, ?_⟩
    · exact fun v2 I hok hit => by
        rw [jX12_advanceO_26] at hok
        exact sX12_advance_26 d hT a1   (K26 := fun w2 I_ => (jX12_advanceO a1 n 0 w2 0 0 I_ ∧ jX12_advanceI a1 n 0 w2 0 0 I_ = R)) (K191 := fun w2 w5 w6 I_ => (jX12_advanceO a1 n 1 w2 w5 w6 I_ ∧ jX12_advanceI a1 n 1 w2 w5 w6 I_ = R)) (fun w2 I_ hw => ih.1 w2 I_ hw.1 hw.2) (fun w2 w5 w6 I_ hw => ih.2 w2 w5 w6 I_ hw.1 hw.2) v2 I (by
          unfold fX12_advance_26
          exact ⟨(hok).1, ⟨((hok).2).1, ⟨fun hc1 => (by rw [jX12_advanceI_26, if_pos hc1] at hit; exact ⟨rfl, by rw [← hit], by rw [← hit]⟩), fun hc1 => ⟨((((hok).2).2).2 hc1).1, ⟨(((((hok).2).2).2 hc1).2).1, ⟨((((((hok).2).2).2 hc1).2).2).1, ⟨fun hc2 => (by rw [jX12_advanceI_26, if_neg hc1, if_pos hc2] at hit; exact ⟨rfl, by rw [← hit], by rw [← hit]⟩), fun hc2 => ⟨((((((((hok).2).2).2 hc1).2).2).2).2 hc2).1, ⟨(((((((((hok).2).2).2 hc1).2).2).2).2 hc2).2).1, ⟨fun hc3 => ⟨(((((((((((hok).2).2).2 hc1).2).2).2).2 hc2).2).2).1 hc3).1, ⟨(((((((((((hok).2).2).2 hc1).2).2).2).2 hc2).2).2).1 hc3).2, by rw [jX12_advanceI_26, if_neg hc1, if_neg hc2, if_pos hc3] at hit; exact hit⟩⟩, fun hc3 => ⟨(((((((((((hok).2).2).2 hc1).2).2).2).2 hc2).2).2).2 hc3).1, ⟨((((((((((((hok).2).2).2 hc1).2).2).2).2 hc2).2).2).2 hc3).2).1, ⟨fun hc4 => ⟨((((((((((((((hok).2).2).2 hc1).2).2).2).2 hc2).2).2).2 hc3).2).2).1 hc4).1, ⟨((((((((((((((hok).2).2).2 hc1).2).2).2).2 hc2).2).2).2 hc3).2).2).1 hc4).2, by rw [jX12_advanceI_26, if_neg hc1, if_neg hc2, if_neg hc3, if_pos hc4] at hit; exact hit⟩⟩, fun hc4 => ⟨((((((((((((((hok).2).2).2 hc1).2).2).2).2 hc2).2).2).2 hc3).2).2).2 hc4).1, ⟨(((((((((((((((hok).2).2).2 hc1).2).2).2).2 hc2).2).2).2 hc3).2).2).2 hc4).2).1, ⟨fun hc5 => ⟨(((((((((((((((((hok).2).2).2 hc1).2).2).2).2 hc2).2).2).2 hc3).2).2).2 hc4).2).2).1 hc5).1, ⟨(((((((((((((((((hok).2).2).2 hc1).2).2).2).2 hc2).2).2).2 hc3).2).2).2 hc4).2).2).1 hc5).2, by rw [jX12_advanceI_26, if_neg hc1, if_neg hc2, if_neg hc3, if_neg hc4, if_pos hc5] at hit; exact hit⟩⟩, fun hc5 => ⟨(((((((((((((((((hok).2).2).2 hc1).2).2).2).2 hc2).2).2).2 hc3).2).2).2 hc4).2).2).2 hc5).1, ⟨((((((((((((((((((hok).2).2).2 hc1).2).2).2).2 hc2).2).2).2 hc3).2).2).2 hc4).2).2).2 hc5).2).1, ⟨fun hc6 => ⟨((((((((((((((((((((hok).2).2).2 hc1).2).2).2).2 hc2).2).2).2 hc3).2).2).2 hc4).2).2).2 hc5).2).2).1 hc6).1, ⟨(((((((((((((((((((((hok).2).2).2 hc1).2).2).2).2 hc2).2).2).2 hc3).2).2).2 hc4).2).2).2 hc5).2).2).1 hc6).2).1, ⟨(((((((((((((((((((((hok).2).2).2 hc1).2).2).2).2 hc2).2).2).2 hc3).2).2).2 hc4).2).2).2 hc5).2).2).1 hc6).2).2, by rw [jX12_advanceI_26, if_neg hc1, if_neg hc2, if_neg hc3, if_neg hc4, if_neg hc5, if_pos hc6] at hit; exact hit⟩⟩⟩, fun hc6 => ⟨(((((((((((((((((((hok).2).2).2 hc1).2).2).2).2 hc2).2).2).2 hc3).2).2).2 hc4).2).2).2 hc5).2).2).2 hc6, by rw [jX12_advanceI_26, if_neg hc1, if_neg hc2, if_neg hc3, if_neg hc4, if_neg hc5, if_neg hc6] at hit; exact hit⟩⟩⟩⟩⟩⟩⟩⟩⟩⟩⟩⟩⟩⟩⟩⟩⟩⟩⟩⟩)
    · exact fun v2 v5 v6 I hok hit => by
        rw [jX12_advanceO_191] at hok
        exact sX12_advance_191 d hT a1   (K26 := fun w2 I_ => (jX12_advanceO a1 n 0 w2 0 0 I_ ∧ jX12_advanceI a1 n 0 w2 0 0 I_ = R)) (K191 := fun w2 w5 w6 I_ => (jX12_advanceO a1 n 1 w2 w5 w6 I_ ∧ jX12_advanceI a1 n 1 w2 w5 w6 I_ = R)) (fun w2 I_ hw => ih.1 w2 I_ hw.1 hw.2) (fun w2 w5 w6 I_ hw => ih.2 w2 w5 w6 I_ hw.1 hw.2) v2 v5 v6 I (by
          unfold fX12_advance_191
          exact ⟨fun hc1 => ⟨((hok).1 hc1).1, ⟨fun hc2 => ⟨((((hok).1 hc1).2).1 hc2).1, ⟨(((((hok).1 hc1).2).1 hc2).2).1, ⟨((((((hok).1 hc1).2).1 hc2).2).2).1, ⟨((((((hok).1 hc1).2).1 hc2).2).2).2, by rw [jX12_advanceI_191, if_pos hc1] at hit; exact hit⟩⟩⟩⟩, fun hc2 => ⟨((((hok).1 hc1).2).2 hc2).1, ⟨(((((hok).1 hc1).2).2 hc2).2).1, ⟨((((((hok).1 hc1).2).2 hc2).2).2).1, ⟨((((((hok).1 hc1).2).2 hc2).2).2).2, by rw [jX12_advanceI_191, if_pos hc1] at hit; exact hit⟩⟩⟩⟩⟩⟩, fun hc1 => ⟨((hok).2 hc1).1, ⟨fun hc3 => ⟨((((hok).2 hc1).2).1 hc3).1, ⟨(((((hok).2 hc1).2).1 hc3).2).1, ⟨fun hc4 => ⟨(((((((hok).2 hc1).2).1 hc3).2).2).1 hc4).1, ⟨((((((((hok).2 hc1).2).1 hc3).2).2).1 hc4).2).1, ⟨(((((((((hok).2 hc1).2).1 hc3).2).2).1 hc4).2).2).1, ⟨(((((((((hok).2 hc1).2).1 hc3).2).2).1 hc4).2).2).2, by rw [jX12_advanceI_191, if_neg hc1, if_pos hc3, if_pos hc4] at hit; exact hit⟩⟩⟩⟩, fun hc4 => ⟨(((((((hok).2 hc1).2).1 hc3).2).2).2 hc4).1, ⟨((((((((hok).2 hc1).2).1 hc3).2).2).2 hc4).2).1, ⟨((((((((hok).2 hc1).2).1 hc3).2).2).2 hc4).2).2, by rw [jX12_advanceI_191, if_neg hc1, if_pos hc3, if_neg hc4] at hit; exact hit⟩⟩⟩⟩⟩⟩, fun hc3 => ⟨((((hok).2 hc1).2).2 hc3).1, ⟨fun hc5 => ⟨((((((hok).2 hc1).2).2 hc3).2).1 hc5).1, ⟨(((((((hok).2 hc1).2).2 hc3).2).1 hc5).2).1, ⟨(((((((hok).2 hc1).2).2 hc3).2).1 hc5).2).2, (by rw [jX12_advanceI_191, if_neg hc1, if_neg hc3, if_pos hc5] at hit; exact ⟨rfl, by rw [← hit], by rw [← hit]⟩)⟩⟩⟩, fun hc5 => ⟨((((((hok).2 hc1).2).2 hc3).2).2 hc5).1, ⟨(((((((hok).2 hc1).2).2 hc3).2).2 hc5).2).1, ⟨(((((((hok).2 hc1).2).2 hc3).2).2 hc5).2).2, by rw [jX12_advanceI_191, if_neg hc1, if_neg hc3, if_neg hc5] at hit; exact hit⟩⟩⟩⟩⟩⟩⟩⟩)
set_option maxRecDepth 10000 in
set_option maxHeartbeats 1000000 in
theorem qX12_advance (d : Nat) {T : Topo} {I : IM} (hT : Lay T) (a1 : Int32)  (hp : (jX12_advanceK I a1)) : CtI (d + 1) mX12_advance [.ref 79, .int a1] T I (fun x_ J_ => x_ = (jX12_advance I a1).1 ∧ J_ = (jX12_advance I a1).2) := by
  unfold jX12_advanceK at hp
  exact Ct.ofJ (by decide +kernel) rfl (by intro v hv; revert v hv; simp [Value.category]) rfl (sX12_advance_0 d hT a1   (K26 := fun w2 I_ => (jX12_advanceO a1 FU 0 w2 0 0 I_ ∧ jX12_advanceI a1 FU 0 w2 0 0 I_ = (jX12_advance I a1))) (K191 := fun w2 w5 w6 I_ => (jX12_advanceO a1 FU 1 w2 w5 w6 I_ ∧ jX12_advanceI a1 FU 1 w2 w5 w6 I_ = (jX12_advance I a1))) (fun w2 I_ hw => (uX12_advance d hT a1   FU).1 w2 I_ hw.1 hw.2) (fun w2 w5 w6 I_ hw => (uX12_advance d hT a1   FU).2 w2 w5 w6 I_ hw.1 hw.2) I (by
    unfold fX12_advance_0
    exact ⟨(hp).1, ⟨fun hc1 => ⟨(((hp).2).1 hc1).1, ⟨((((hp).2).1 hc1).2).1, ⟨((((hp).2).1 hc1).2).2, by unfold jX12_advance; rw [if_neg hc1]⟩⟩⟩, fun hc1 => ⟨(((hp).2).2 hc1).1, ⟨((((hp).2).2 hc1).2).1, ⟨((((hp).2).2 hc1).2).2, by unfold jX12_advance; rw [if_pos hc1]⟩⟩⟩⟩⟩))

def fX12_areUp_0 (T : Topo) (a1 : Int32) (Q : Int32 → Topo → IM → Prop) (K2 : Int32 → IM → Prop) (I : IM) : Prop :=
  K2 0 I
def fX12_areUp_2 (T : Topo) (a1 : Int32) (Q : Int32 → Topo → IM → Prop) (K2 : Int32 → IM → Prop) (v2 : Int32) (I : IM) : Prop :=
  ((((I 79 1) ≤ v2) → Q 1 T I) ∧ ((¬ (I 79 1) ≤ v2) → ((((¬ (hs a1 v2)) → K2 (v2 + 1) I) ∧ ((hs a1 v2) → (vp_in v2 9 ∧ (((¬ (I 89 v2.toNatClampNeg) = 0) → K2 (v2 + 1) I) ∧ (((I 89 v2.toNatClampNeg) = 0) → Q 0 T I))))))))
set_option maxHeartbeats 4000000 in
set_option maxRecDepth 100000 in
theorem sX12_areUp_0 (d : Nat) {T : Topo} (hT : Lay T) (a1 : Int32)    {Q : Int32 → Topo → IM → Prop} {K2 : Int32 → IM → Prop} (hK2 : ∀ (v2 : Int32) (I : IM), K2 v2 I → J (d + 1) mX12_areUp (PI Q) 0 0 2 [some (.ref 79), some (.int a1), some (.int v2)] [] T I 0 0) (I : IM) (h : fX12_areUp_0 T a1 Q K2 I) : J (d + 1) mX12_areUp (PI Q) 0 0 0 [some (.ref 79), some (.int a1), none] [] T I 0 0 := by
  unfold fX12_areUp_0 at h
  refine J.iconst (v := 0) dX12_areUp_0 (by decide) ?_
  refine J.istore_n (ls' := [some (.ref 79), some (.int a1), some (.int 0)]) dX12_areUp_1 rfl rfl rfl ?_
  exact J.weaken (ls' := [some (.ref 79), some (.int a1), some (.int 0)]) (And.intro rfl (And.intro rfl (And.intro rfl trivial))) (hK2 0 I h)
set_option maxHeartbeats 4000000 in
set_option maxRecDepth 100000 in
theorem sX12_areUp_2 (d : Nat) {T : Topo} (hT : Lay T) (a1 : Int32)    {Q : Int32 → Topo → IM → Prop} {K2 : Int32 → IM → Prop} (hK2 : ∀ (v2 : Int32) (I : IM), K2 v2 I → J (d + 1) mX12_areUp (PI Q) 0 0 2 [some (.ref 79), some (.int a1), some (.int v2)] [] T I 0 0) (v2 : Int32) (I : IM) (h : fX12_areUp_2 T a1 Q K2 v2 I) : J (d + 1) mX12_areUp (PI Q) 0 0 2 [some (.ref 79), some (.int a1), some (.int v2)] [] T I 0 0 := by
  unfold fX12_areUp_2 at h
  refine J.iload_n dX12_areUp_2 rfl rfl ?_
  refine J.aload_n dX12_areUp_3 rfl rfl ?_
  refine J.getI dX12_areUp_4 fX12_193 (hT.k 79 rfl) rfl ?_
  refine J.icmp_ge (tgt := 35) dX12_areUp_7 (by decide) (fun hc1 => ?_) (fun hc1 => ?_)
  · have h := h.1 hc1
    refine J.iconst (v := 1) dX12_areUp_35 (by decide) ?_
    exact J.zretQ dX12_areUp_36 rfl (Or.inr rfl) (Nat.le_refl _) (Nat.le_refl _) h
  · have h := h.2 hc1
    refine J.iload_n dX12_areUp_10 rfl rfl ?_
    refine J.iload_n dX12_areUp_11 rfl rfl ?_
    refine J.callSP (as := [.int a1, .int v2]) (rest := []) dX12_areUp_12 kX12_has vX12_has lX12_212 rfl rfl rfl (by omega) (Nat.le_refl _) (Nat.le_refl _) (qX12_has (d + 0) hT a1 v2 ) ?_
    refine J.bz_eq (tgt := 29) dX12_areUp_15 (by decide) (fun hc2 => ?_) (fun hc2 => ?_)
    · have h := h.1 hc2
      refine J.iinc (v := (v2 + 1)) (ls' := [some (.ref 79), some (.int a1), some (.int (v2 + 1))]) dX12_areUp_29 rfl (by rfl) rfl ?_
      refine J.goto (tgt := 2) dX12_areUp_32 (by decide) ?_
      exact J.weaken (ls' := [some (.ref 79), some (.int a1), some (.int (v2 + 1))]) (And.intro rfl (And.intro rfl (And.intro rfl trivial))) (hK2 (v2 + 1) I h)
    · have h := h.2 hc2
      refine J.aload_n dX12_areUp_18 rfl rfl ?_
      refine J.getR (r := 89) dX12_areUp_19 fX12_41 (hT.k 79 rfl) rfl (hT.r 79 18 rfl rfl) ?_
      refine J.iload_n dX12_areUp_22 rfl rfl ?_
      obtain ⟨hs3, h⟩ := h
      refine J.bald dX12_areUp_23 (hT.k 89 rfl) (hT.l 89 rfl) hs3 ?_
      refine J.if_ne (tgt := 29) dX12_areUp_24 (by decide) (fun hc4 => ?_) (fun hc4 => ?_)
      · have h := h.1 hc4
        refine J.iinc (v := (v2 + 1)) (ls' := [some (.ref 79), some (.int a1), some (.int (v2 + 1))]) dX12_areUp_29 rfl (by rfl) rfl ?_
        refine J.goto (tgt := 2) dX12_areUp_32 (by decide) ?_
        exact J.weaken (ls' := [some (.ref 79), some (.int a1), some (.int (v2 + 1))]) (And.intro rfl (And.intro rfl (And.intro rfl trivial))) (hK2 (v2 + 1) I h)
      · have h := h.2 hc4
        refine J.iconst (v := 0) dX12_areUp_27 (by decide) ?_
        exact J.zretQ dX12_areUp_28 rfl (Or.inl rfl) (Nat.le_refl _) (Nat.le_refl _) h
set_option maxHeartbeats 4000000 in
set_option maxRecDepth 100000 in
theorem wX12_areUp (d : Nat) {T : Topo} (hT : Lay T) (a1 : Int32)   {Q : Int32 → Topo → IM → Prop} (V2 : Int32 → IM → Prop) (μ2 : Int32 → IM → Nat) (vc2 : ∀ (v2 : Int32) (I : IM), V2 v2 I → fX12_areUp_2 T a1 Q (fun w2 I_ => V2 w2 I_ ∧ μ2 w2 I_ < μ2 v2 I) v2 I) {I : IM} (h : fX12_areUp_0 T a1 Q V2 I) : Ct (d + 1) mX12_areUp [.ref 79, .int a1] T I 0 0 (PI Q) := by
  have all : ∀ n : Nat, (∀ (v2 : Int32) (I : IM), V2 v2 I → μ2 v2 I < n → J (d + 1) mX12_areUp (PI Q) 0 0 2 [some (.ref 79), some (.int a1), some (.int v2)] [] T I 0 0) := by
    intro n
    induction n with
    | zero => exact fun _ _ _ hn => absurd hn (Nat.not_lt_zero _)
    | succ n ih =>
      exact fun v2 I hv hn => sX12_areUp_2 d hT a1   (fun w2 I_ hw => ih w2 I_ hw.1 (by have := hw.2; omega)) v2 I (vc2 v2 I hv)
  exact Ct.ofJ (by decide +kernel) rfl (by intro v hv; revert v hv; simp [Value.category]) rfl (sX12_areUp_0 d hT a1   (fun w2 I_ hw => (all (μ2 w2 I_ + 1)) w2 I_ hw (Nat.lt_succ_self _)) I h)

def jX12_areUpI (a1 : Int32) : Nat → Int32 → IM → Int32
  | 0 => fun _ I => 0
  | n + 1 => fun v2 I => (if (I 79 1) ≤ v2 then 1 else (if hs a1 v2 then (if (I 89 v2.toNatClampNeg) = 0 then 0 else (jX12_areUpI a1 n (v2 + 1) I)) else (jX12_areUpI a1 n (v2 + 1) I)))
def jX12_areUpO (a1 : Int32) : Nat → Int32 → IM → Prop
  | 0 => fun _ _ => False
  | n + 1 => fun v2 I => ((((I 79 1) ≤ v2) → True) ∧ ((¬ (I 79 1) ≤ v2) → (((¬ (hs a1 v2)) → (jX12_areUpO a1 n (v2 + 1) I)) ∧ ((hs a1 v2) → (vp_in v2 9 ∧ (((¬ (I 89 v2.toNatClampNeg) = 0) → (jX12_areUpO a1 n (v2 + 1) I)) ∧ (((I 89 v2.toNatClampNeg) = 0) → True)))))))
theorem jX12_areUpI_2 (a1 : Int32) (n : Nat) (v2 : Int32) (I : IM) : jX12_areUpI a1 (n + 1) v2 I = (if (I 79 1) ≤ v2 then 1 else (if hs a1 v2 then (if (I 89 v2.toNatClampNeg) = 0 then 0 else (jX12_areUpI a1 n (v2 + 1) I)) else (jX12_areUpI a1 n (v2 + 1) I))) := rfl
theorem jX12_areUpO_2 (a1 : Int32) (n : Nat) (v2 : Int32) (I : IM) : jX12_areUpO a1 (n + 1) v2 I = ((((I 79 1) ≤ v2) → True) ∧ ((¬ (I 79 1) ≤ v2) → (((¬ (hs a1 v2)) → (jX12_areUpO a1 n (v2 + 1) I)) ∧ ((hs a1 v2) → (vp_in v2 9 ∧ (((¬ (I 89 v2.toNatClampNeg) = 0) → (jX12_areUpO a1 n (v2 + 1) I)) ∧ (((I 89 v2.toNatClampNeg) = 0) → True))))))) := rfl
def jX12_areUp (I : IM) (a1 : Int32) : Int32 := (jX12_areUpI a1 FU 0 I)
def jX12_areUpK (I : IM) (a1 : Int32) : Prop := (jX12_areUpO a1 FU 0 I)
set_option maxRecDepth 10000 in
set_option maxHeartbeats 1000000 in
theorem uX12_areUp (d : Nat) {T : Topo} (hT : Lay T) (a1 : Int32)   {R : Int32} {I00 : IM} : ∀ n : Nat, (∀ (v2 : Int32) (I : IM), I = I00 → jX12_areUpO a1 n v2 I → jX12_areUpI a1 n v2 I = R → J (d + 1) mX12_areUp (PI (fun x T' I' => x = R ∧ T' = T ∧ I' = I00)) 0 0 2 [some (.ref 79), some (.int a1), some (.int v2)] [] T I 0 0) := by
  intro n
  induction n with
  | zero => exact fun _ _ _ hz => hz.elim
  | succ n ih =>
    exact fun v2 I hI hok hit => by
        rw [jX12_areUpO_2] at hok
        exact sX12_areUp_2 d hT a1   (K2 := fun w2 I_ => (jX12_areUpO a1 n w2 I_ ∧ jX12_areUpI a1 n w2 I_ = R) ∧ I_ = I00) (fun w2 I_ hw => ih w2 I_ hw.2 hw.1.1 hw.1.2) v2 I (by
          unfold fX12_areUp_2
          exact ⟨fun hc1 => ⟨by rw [jX12_areUpI_2, if_pos hc1] at hit; exact hit, rfl, hI⟩, fun hc1 => ⟨fun hc2 => ⟨⟨((hok).2 hc1).1 hc2, by rw [jX12_areUpI_2, if_neg hc1, if_neg hc2] at hit; exact hit⟩, hI⟩, fun hc2 => ⟨(((hok).2 hc1).2 hc2).1, ⟨fun hc3 => ⟨⟨((((hok).2 hc1).2 hc2).2).1 hc3, by rw [jX12_areUpI_2, if_neg hc1, if_pos hc2, if_neg hc3] at hit; exact hit⟩, hI⟩, fun hc3 => ⟨by rw [jX12_areUpI_2, if_neg hc1, if_pos hc2, if_pos hc3] at hit; exact hit, rfl, hI⟩⟩⟩⟩⟩)
set_option maxRecDepth 10000 in
set_option maxHeartbeats 1000000 in
theorem qX12_areUp (d : Nat) {T : Topo} {I : IM} (hT : Lay T) (a1 : Int32)  (hp : (jX12_areUpK I a1)) : CtP (d + 1) mX12_areUp [.ref 79, .int a1] T I (jX12_areUp I a1) := by
  unfold jX12_areUpK at hp
  exact Ct.ofJ (by decide +kernel) rfl (by intro v hv; revert v hv; simp [Value.category]) rfl (sX12_areUp_0 d hT a1   (K2 := fun w2 I_ => (jX12_areUpO a1 FU w2 I_ ∧ jX12_areUpI a1 FU w2 I_ = (jX12_areUp I a1)) ∧ I_ = I) (fun w2 I_ hw => uX12_areUp d hT a1   FU w2 I_ hw.2 hw.1.1 hw.1.2) I (by
    unfold fX12_areUp_0
    exact ⟨⟨hp, rfl⟩, rfl⟩))

def fX12_out_0 (T : Topo) (a1 : Int32) (Q : Int32 → Topo → IM → Prop)  (I : IM) : Prop :=
  ((((wi a1 0 (I 79 2 - 1)) → (vp_in a1 8 ∧ (((¬ (I 106 a1.toNatClampNeg) = 0) → (vp_in a1 8 ∧ Q 1 T (up2 I 106 a1.toNatClampNeg 0))) ∧ (((I 106 a1.toNatClampNeg) = 0) → (Q (jX12_finds (-1000003)) T (jX12_findsM I)))))) ∧ ((¬ (wi a1 0 (I 79 2 - 1))) → (Q (jX12_finds (-1000001)) T (jX12_findsM I)))))
set_option maxHeartbeats 4000000 in
set_option maxRecDepth 100000 in
theorem sX12_out_0 (d : Nat) {T : Topo} (hT : Lay T) (a1 : Int32)    {Q : Int32 → Topo → IM → Prop}   (I : IM) (h : fX12_out_0 T a1 Q  I) : J (d + 2) mX12_out (PI Q) 0 0 0 [some (.ref 79), some (.int a1)] [] T I 0 0 := by
  unfold fX12_out_0 at h
  refine J.aload_n dX12_out_0 rfl rfl ?_
  refine J.iload_n dX12_out_1 rfl rfl ?_
  refine J.callVP (k := 79) (as := [.int a1]) (rest := []) dX12_out_2 kX12_isSlice vX12_isSlice lX12_235 (hT.k 79 rfl) rfl rfl rfl rfl rfl (by omega) (Nat.le_refl _) (Nat.le_refl _) (qX12_isSlice (d + 0) hT a1 ) ?_
  refine J.bz_ne (tgt := 15) dX12_out_5 (by decide) (fun hc1 => ?_) (fun hc1 => ?_)
  · have h := h.1 hc1
    refine J.aload_n dX12_out_15 rfl rfl ?_
    refine J.getR (r := 106) dX12_out_16 fX12_93 (hT.k 79 rfl) rfl (hT.r 79 35 rfl rfl) ?_
    refine J.iload_n dX12_out_19 rfl rfl ?_
    obtain ⟨hs2, h⟩ := h
    refine J.bald dX12_out_20 (hT.k 106 rfl) (hT.l 106 rfl) hs2 ?_
    refine J.if_ne (tgt := 31) dX12_out_21 (by decide) (fun hc3 => ?_) (fun hc3 => ?_)
    · have h := h.1 hc3
      refine J.aload_n dX12_out_31 rfl rfl ?_
      refine J.getR (r := 106) dX12_out_32 fX12_93 (hT.k 79 rfl) rfl (hT.r 79 35 rfl rfl) ?_
      refine J.iload_n dX12_out_35 rfl rfl ?_
      refine J.iconst (v := 0) dX12_out_36 (by decide) ?_
      obtain ⟨hs4, h⟩ := h
      refine J.bast dX12_out_37 (hT.k 106 rfl) (hT.l 106 rfl) hs4 (Or.inl rfl) ?_
      refine J.iconst (v := 1) dX12_out_38 (by decide) ?_
      exact J.iretQ dX12_out_39 rfl (Nat.le_refl _) (Nat.le_refl _) h
    · have h := h.2 hc3
      refine J.aload_n dX12_out_24 rfl rfl ?_
      refine J.ldc (v := (-1000003)) dX12_out_25 kcX12_238 ?_
      refine J.callVE (k := 79) (as := [.int (-1000003)]) (rest := []) dX12_out_27 kX12_finds vX12_finds lX12_200 (hT.k 79 rfl) rfl rfl rfl rfl rfl (by omega) (Nat.le_refl _) (Nat.le_refl _) (qX12_finds (d + 1) hT (-1000003) ) ?_
      exact J.iretQ dX12_out_30 rfl (Nat.le_refl _) (Nat.le_refl _) h
  · have h := h.2 hc1
    refine J.aload_n dX12_out_8 rfl rfl ?_
    refine J.ldc (v := (-1000001)) dX12_out_9 kcX12_199 ?_
    refine J.callVE (k := 79) (as := [.int (-1000001)]) (rest := []) dX12_out_11 kX12_finds vX12_finds lX12_200 (hT.k 79 rfl) rfl rfl rfl rfl rfl (by omega) (Nat.le_refl _) (Nat.le_refl _) (qX12_finds (d + 1) hT (-1000001) ) ?_
    exact J.iretQ dX12_out_14 rfl (Nat.le_refl _) (Nat.le_refl _) h
set_option maxHeartbeats 4000000 in
set_option maxRecDepth 100000 in
theorem wX12_out (d : Nat) {T : Topo} (hT : Lay T) (a1 : Int32)   {Q : Int32 → Topo → IM → Prop} {I : IM} (h : fX12_out_0 T a1 Q I) : Ct (d + 2) mX12_out [.ref 79, .int a1] T I 0 0 (PI Q) :=
  Ct.ofJ (by decide +kernel) rfl (by intro v hv; revert v hv; simp [Value.category]) rfl (sX12_out_0 d hT a1   I h)

def jX12_out (I : IM) (a1 : Int32) : Int32 := (if wi a1 0 (I 79 2 - 1) then (if (I 106 a1.toNatClampNeg) = 0 then (jX12_finds (-1000003)) else 1) else (jX12_finds (-1000001)))
def jX12_outM (I : IM) (a1 : Int32) : IM := (if wi a1 0 (I 79 2 - 1) then (if (I 106 a1.toNatClampNeg) = 0 then (jX12_findsM I) else (up2 I 106 a1.toNatClampNeg 0)) else (jX12_findsM I))
def jX12_outK (I : IM) (a1 : Int32) : Prop := (((wi a1 0 (I 79 2 - 1)) → (vp_in a1 8 ∧ (((¬ (I 106 a1.toNatClampNeg) = 0) → vp_in a1 8) ∧ (((I 106 a1.toNatClampNeg) = 0) → True)))) ∧ ((¬ (wi a1 0 (I 79 2 - 1))) → True))
set_option maxRecDepth 10000 in
theorem qX12_out (d : Nat) {T : Topo} {I : IM} (hT : Lay T) (a1 : Int32)  (hp : (jX12_outK I a1)) : CtI (d + 2) mX12_out [.ref 79, .int a1] T I (fun x_ J_ => x_ = (jX12_out I a1) ∧ J_ = (jX12_outM I a1)) :=
  wX12_out d hT a1   (by
  unfold fX12_out_0
  exact ⟨fun hc1 => ⟨((hp).1 hc1).1, ⟨fun hc2 => ⟨(((hp).1 hc1).2).1 hc2, ⟨rfl, by unfold jX12_out; rw [if_pos hc1, if_neg hc2], by unfold jX12_outM; rw [if_pos hc1, if_neg hc2]⟩⟩, fun hc2 => ⟨rfl, by unfold jX12_out; rw [if_pos hc1, if_pos hc2], by unfold jX12_outM; rw [if_pos hc1, if_pos hc2]⟩⟩⟩, fun hc1 => ⟨rfl, by unfold jX12_out; rw [if_neg hc1], by unfold jX12_outM; rw [if_neg hc1]⟩⟩)

def fX12_wayOf_0 (T : Topo) (a1 : Int32) (a2 : Int32) (a3 : Int32) (Q : Int32 → Topo → IM → Prop)  (I : IM) : Prop :=
  ((((¬ (wi a1 0 (I 79 2 - 1))) → (Q (jX12_finds (-1000001)) T (jX12_findsM I))) ∧ ((wi a1 0 (I 79 2 - 1)) → (((0 ≤ a3) → (vp_in a1 8 ∧ (((¬ (I 106 a1.toNatClampNeg) = 0) → (((a2 = 0) → (vp_in a1 8 ∧ (vp_in a1 8 ∧ (((jX12_onesK I (I 107 a1.toNatClampNeg))) ∧ (((jX12_digitK I (I 109 a1.toNatClampNeg) (jX12_ones I (I 107 a1.toNatClampNeg)) a3)) ∧ Q (jX12_digit I (I 109 a1.toNatClampNeg) (jX12_ones I (I 107 a1.toNatClampNeg)) a3) T I))))) ∧ ((¬ a2 = 0) → (vp_in a1 8 ∧ ((((I 90 a1.toNatClampNeg) = 1) → (vp_in a1 8 ∧ (vp_in a1 8 ∧ (((jX12_onesK I (I 108 a1.toNatClampNeg))) ∧ (((jX12_digitK I (I 110 a1.toNatClampNeg) (jX12_ones I (I 108 a1.toNatClampNeg)) a3)) ∧ Q (jX12_digit I (I 110 a1.toNatClampNeg) (jX12_ones I (I 108 a1.toNatClampNeg)) a3) T I))))) ∧ ((¬ (I 90 a1.toNatClampNeg) = 1) → (Q (jX12_finds (-1000004)) T (jX12_findsM I)))))))) ∧ (((I 106 a1.toNatClampNeg) = 0) → (Q (jX12_finds (-1000003)) T (jX12_findsM I)))))) ∧ ((¬ 0 ≤ a3) → (Q (jX12_finds (-1000001)) T (jX12_findsM I)))))))
set_option maxHeartbeats 4000000 in
set_option maxRecDepth 100000 in
theorem sX12_wayOf_0 (d : Nat) {T : Topo} (hT : Lay T) (a1 : Int32) (a2 : Int32) (a3 : Int32)    {Q : Int32 → Topo → IM → Prop}   (I : IM) (h : fX12_wayOf_0 T a1 a2 a3 Q  I) : J (d + 2) mX12_wayOf (PI Q) 0 0 0 [some (.ref 79), some (.int a1), some (.int a2), some (.int a3)] [] T I 0 0 := by
  unfold fX12_wayOf_0 at h
  refine J.aload_n dX12_wayOf_0 rfl rfl ?_
  refine J.iload_n dX12_wayOf_1 rfl rfl ?_
  refine J.callVP (k := 79) (as := [.int a1]) (rest := []) dX12_wayOf_2 kX12_isSlice vX12_isSlice lX12_235 (hT.k 79 rfl) rfl rfl rfl rfl rfl (by omega) (Nat.le_refl _) (Nat.le_refl _) (qX12_isSlice (d + 0) hT a1 ) ?_
  refine J.bz_eq (tgt := 12) dX12_wayOf_5 (by decide) (fun hc1 => ?_) (fun hc1 => ?_)
  · have h := h.1 hc1
    refine J.aload_n dX12_wayOf_12 rfl rfl ?_
    refine J.ldc (v := (-1000001)) dX12_wayOf_13 kcX12_199 ?_
    refine J.callVE (k := 79) (as := [.int (-1000001)]) (rest := []) dX12_wayOf_15 kX12_finds vX12_finds lX12_200 (hT.k 79 rfl) rfl rfl rfl rfl rfl (by omega) (Nat.le_refl _) (Nat.le_refl _) (qX12_finds (d + 1) hT (-1000001) ) ?_
    exact J.iretQ dX12_wayOf_18 rfl (Nat.le_refl _) (Nat.le_refl _) h
  · have h := h.2 hc1
    refine J.iload_n dX12_wayOf_8 rfl rfl ?_
    refine J.if_ge (tgt := 19) dX12_wayOf_9 (by decide) (fun hc2 => ?_) (fun hc2 => ?_)
    · have h := h.1 hc2
      refine J.aload_n dX12_wayOf_19 rfl rfl ?_
      refine J.getR (r := 106) dX12_wayOf_20 fX12_93 (hT.k 79 rfl) rfl (hT.r 79 35 rfl rfl) ?_
      refine J.iload_n dX12_wayOf_23 rfl rfl ?_
      obtain ⟨hs3, h⟩ := h
      refine J.bald dX12_wayOf_24 (hT.k 106 rfl) (hT.l 106 rfl) hs3 ?_
      refine J.if_ne (tgt := 35) dX12_wayOf_25 (by decide) (fun hc4 => ?_) (fun hc4 => ?_)
      · have h := h.1 hc4
        refine J.iload_n dX12_wayOf_35 rfl rfl ?_
        refine J.if_eq (tgt := 56) dX12_wayOf_36 (by decide) (fun hc5 => ?_) (fun hc5 => ?_)
        · have h := h.1 hc5
          refine J.iload_n dX12_wayOf_56 rfl rfl ?_
          refine J.if_eq (tgt := 82) dX12_wayOf_57 (by decide) (fun hc => ?_) (fun hc => absurd hc5 hc)
          refine J.aload_n dX12_wayOf_82 rfl rfl ?_
          refine J.getR (r := 109) dX12_wayOf_83 fX12_102 (hT.k 79 rfl) rfl (hT.r 79 38 rfl rfl) ?_
          refine J.iload_n dX12_wayOf_86 rfl rfl ?_
          obtain ⟨hs6, h⟩ := h
          refine J.iald dX12_wayOf_87 (hT.k 109 rfl) (hT.l 109 rfl) hs6 ?_
          refine J.aload_n dX12_wayOf_88 rfl rfl ?_
          refine J.getR (r := 107) dX12_wayOf_89 fX12_96 (hT.k 79 rfl) rfl (hT.r 79 36 rfl rfl) ?_
          refine J.iload_n dX12_wayOf_92 rfl rfl ?_
          obtain ⟨hs7, h⟩ := h
          refine J.iald dX12_wayOf_93 (hT.k 107 rfl) (hT.l 107 rfl) hs7 ?_
          obtain ⟨hp8, h⟩ := h
          refine J.callSP (as := [.int (I 107 a1.toNatClampNeg)]) (rest := [.int (I 109 a1.toNatClampNeg)]) dX12_wayOf_94 kX12_ones vX12_ones lX12_272 rfl rfl rfl (by omega) (Nat.le_refl _) (Nat.le_refl _) (qX12_ones (d + 1) hT (I 107 a1.toNatClampNeg) hp8) ?_
          refine J.iload_n dX12_wayOf_97 rfl rfl ?_
          obtain ⟨hp9, h⟩ := h
          refine J.callSP (as := [.int (I 109 a1.toNatClampNeg), .int (jX12_ones I (I 107 a1.toNatClampNeg)), .int a3]) (rest := []) dX12_wayOf_98 kX12_digit vX12_digit lX12_231 rfl rfl rfl (by omega) (Nat.le_refl _) (Nat.le_refl _) (qX12_digit (d + 1) hT (I 109 a1.toNatClampNeg) (jX12_ones I (I 107 a1.toNatClampNeg)) a3 hp9) ?_
          exact J.iretQ dX12_wayOf_101 rfl (Nat.le_refl _) (Nat.le_refl _) h
        · have h := h.2 hc5
          refine J.aload_n dX12_wayOf_39 rfl rfl ?_
          refine J.getR (r := 90) dX12_wayOf_40 fX12_45 (hT.k 79 rfl) rfl (hT.r 79 19 rfl rfl) ?_
          refine J.iload_n dX12_wayOf_43 rfl rfl ?_
          obtain ⟨hs10, h⟩ := h
          refine J.iald dX12_wayOf_44 (hT.k 90 rfl) (hT.l 90 rfl) hs10 ?_
          refine J.iconst (v := 1) dX12_wayOf_45 (by decide) ?_
          refine J.icmp_eq (tgt := 56) dX12_wayOf_46 (by decide) (fun hc11 => ?_) (fun hc11 => ?_)
          · have h := h.1 hc11
            refine J.iload_n dX12_wayOf_56 rfl rfl ?_
            refine J.if_eq (tgt := 82) dX12_wayOf_57 (by decide) (fun hc => absurd hc hc5) (fun hc => ?_)
            refine J.aload_n dX12_wayOf_60 rfl rfl ?_
            refine J.getR (r := 110) dX12_wayOf_61 fX12_105 (hT.k 79 rfl) rfl (hT.r 79 39 rfl rfl) ?_
            refine J.iload_n dX12_wayOf_64 rfl rfl ?_
            obtain ⟨hs12, h⟩ := h
            refine J.iald dX12_wayOf_65 (hT.k 110 rfl) (hT.l 110 rfl) hs12 ?_
            refine J.aload_n dX12_wayOf_66 rfl rfl ?_
            refine J.getR (r := 108) dX12_wayOf_67 fX12_99 (hT.k 79 rfl) rfl (hT.r 79 37 rfl rfl) ?_
            refine J.iload_n dX12_wayOf_70 rfl rfl ?_
            obtain ⟨hs13, h⟩ := h
            refine J.iald dX12_wayOf_71 (hT.k 108 rfl) (hT.l 108 rfl) hs13 ?_
            obtain ⟨hp14, h⟩ := h
            refine J.callSP (as := [.int (I 108 a1.toNatClampNeg)]) (rest := [.int (I 110 a1.toNatClampNeg)]) dX12_wayOf_72 kX12_ones vX12_ones lX12_272 rfl rfl rfl (by omega) (Nat.le_refl _) (Nat.le_refl _) (qX12_ones (d + 1) hT (I 108 a1.toNatClampNeg) hp14) ?_
            refine J.iload_n dX12_wayOf_75 rfl rfl ?_
            obtain ⟨hp15, h⟩ := h
            refine J.callSP (as := [.int (I 110 a1.toNatClampNeg), .int (jX12_ones I (I 108 a1.toNatClampNeg)), .int a3]) (rest := []) dX12_wayOf_76 kX12_digit vX12_digit lX12_231 rfl rfl rfl (by omega) (Nat.le_refl _) (Nat.le_refl _) (qX12_digit (d + 1) hT (I 110 a1.toNatClampNeg) (jX12_ones I (I 108 a1.toNatClampNeg)) a3 hp15) ?_
            refine J.goto (tgt := 101) dX12_wayOf_79 (by decide) ?_
            exact J.iretQ dX12_wayOf_101 rfl (Nat.le_refl _) (Nat.le_refl _) h
          · have h := h.2 hc11
            refine J.aload_n dX12_wayOf_49 rfl rfl ?_
            refine J.ldc (v := (-1000004)) dX12_wayOf_50 kcX12_242 ?_
            refine J.callVE (k := 79) (as := [.int (-1000004)]) (rest := []) dX12_wayOf_52 kX12_finds vX12_finds lX12_200 (hT.k 79 rfl) rfl rfl rfl rfl rfl (by omega) (Nat.le_refl _) (Nat.le_refl _) (qX12_finds (d + 1) hT (-1000004) ) ?_
            exact J.iretQ dX12_wayOf_55 rfl (Nat.le_refl _) (Nat.le_refl _) h
      · have h := h.2 hc4
        refine J.aload_n dX12_wayOf_28 rfl rfl ?_
        refine J.ldc (v := (-1000003)) dX12_wayOf_29 kcX12_238 ?_
        refine J.callVE (k := 79) (as := [.int (-1000003)]) (rest := []) dX12_wayOf_31 kX12_finds vX12_finds lX12_200 (hT.k 79 rfl) rfl rfl rfl rfl rfl (by omega) (Nat.le_refl _) (Nat.le_refl _) (qX12_finds (d + 1) hT (-1000003) ) ?_
        exact J.iretQ dX12_wayOf_34 rfl (Nat.le_refl _) (Nat.le_refl _) h
    · have h := h.2 hc2
      refine J.aload_n dX12_wayOf_12 rfl rfl ?_
      refine J.ldc (v := (-1000001)) dX12_wayOf_13 kcX12_199 ?_
      refine J.callVE (k := 79) (as := [.int (-1000001)]) (rest := []) dX12_wayOf_15 kX12_finds vX12_finds lX12_200 (hT.k 79 rfl) rfl rfl rfl rfl rfl (by omega) (Nat.le_refl _) (Nat.le_refl _) (qX12_finds (d + 1) hT (-1000001) ) ?_
      exact J.iretQ dX12_wayOf_18 rfl (Nat.le_refl _) (Nat.le_refl _) h
set_option maxHeartbeats 4000000 in
set_option maxRecDepth 100000 in
theorem wX12_wayOf (d : Nat) {T : Topo} (hT : Lay T) (a1 : Int32) (a2 : Int32) (a3 : Int32)   {Q : Int32 → Topo → IM → Prop} {I : IM} (h : fX12_wayOf_0 T a1 a2 a3 Q I) : Ct (d + 2) mX12_wayOf [.ref 79, .int a1, .int a2, .int a3] T I 0 0 (PI Q) :=
  Ct.ofJ (by decide +kernel) rfl (by intro v hv; revert v hv; simp [Value.category]) rfl (sX12_wayOf_0 d hT a1 a2 a3   I h)

def jX12_wayOf (I : IM) (a1 : Int32) (a2 : Int32) (a3 : Int32) : Int32 := (if wi a1 0 (I 79 2 - 1) then (if 0 ≤ a3 then (if (I 106 a1.toNatClampNeg) = 0 then (jX12_finds (-1000003)) else (if a2 = 0 then (jX12_digit I (I 109 a1.toNatClampNeg) (jX12_ones I (I 107 a1.toNatClampNeg)) a3) else (if (I 90 a1.toNatClampNeg) = 1 then (jX12_digit I (I 110 a1.toNatClampNeg) (jX12_ones I (I 108 a1.toNatClampNeg)) a3) else (jX12_finds (-1000004))))) else (jX12_finds (-1000001))) else (jX12_finds (-1000001)))
def jX12_wayOfM (I : IM) (a1 : Int32) (a2 : Int32) (a3 : Int32) : IM := (if wi a1 0 (I 79 2 - 1) then (if 0 ≤ a3 then (if (I 106 a1.toNatClampNeg) = 0 then (jX12_findsM I) else (if a2 = 0 then I else (if (I 90 a1.toNatClampNeg) = 1 then I else (jX12_findsM I)))) else (jX12_findsM I)) else (jX12_findsM I))
def jX12_wayOfK (I : IM) (a1 : Int32) (a2 : Int32) (a3 : Int32) : Prop := (((¬ (wi a1 0 (I 79 2 - 1))) → True) ∧ ((wi a1 0 (I 79 2 - 1)) → (((0 ≤ a3) → (vp_in a1 8 ∧ (((¬ (I 106 a1.toNatClampNeg) = 0) → (((a2 = 0) → (vp_in a1 8 ∧ (vp_in a1 8 ∧ (((jX12_onesK I (I 107 a1.toNatClampNeg))) ∧ ((jX12_digitK I (I 109 a1.toNatClampNeg) (jX12_ones I (I 107 a1.toNatClampNeg)) a3)))))) ∧ ((¬ a2 = 0) → (vp_in a1 8 ∧ ((((I 90 a1.toNatClampNeg) = 1) → (vp_in a1 8 ∧ (vp_in a1 8 ∧ (((jX12_onesK I (I 108 a1.toNatClampNeg))) ∧ ((jX12_digitK I (I 110 a1.toNatClampNeg) (jX12_ones I (I 108 a1.toNatClampNeg)) a3)))))) ∧ ((¬ (I 90 a1.toNatClampNeg) = 1) → True)))))) ∧ (((I 106 a1.toNatClampNeg) = 0) → True)))) ∧ ((¬ 0 ≤ a3) → True))))
set_option maxRecDepth 10000 in
theorem qX12_wayOf (d : Nat) {T : Topo} {I : IM} (hT : Lay T) (a1 : Int32) (a2 : Int32) (a3 : Int32)  (hp : (jX12_wayOfK I a1 a2 a3)) : CtI (d + 2) mX12_wayOf [.ref 79, .int a1, .int a2, .int a3] T I (fun x_ J_ => x_ = (jX12_wayOf I a1 a2 a3) ∧ J_ = (jX12_wayOfM I a1 a2 a3)) :=
  wX12_wayOf d hT a1 a2 a3   (by
  unfold fX12_wayOf_0
  exact ⟨fun hc1 => ⟨rfl, by unfold jX12_wayOf; rw [if_neg hc1], by unfold jX12_wayOfM; rw [if_neg hc1]⟩, fun hc1 => ⟨fun hc2 => ⟨(((hp).2 hc1).1 hc2).1, ⟨fun hc3 => ⟨fun hc4 => ⟨((((((hp).2 hc1).1 hc2).2).1 hc3).1 hc4).1, ⟨(((((((hp).2 hc1).1 hc2).2).1 hc3).1 hc4).2).1, ⟨((((((((hp).2 hc1).1 hc2).2).1 hc3).1 hc4).2).2).1, ⟨((((((((hp).2 hc1).1 hc2).2).1 hc3).1 hc4).2).2).2, ⟨rfl, by unfold jX12_wayOf; rw [if_pos hc1, if_pos hc2, if_neg hc3, if_pos hc4], by unfold jX12_wayOfM; rw [if_pos hc1, if_pos hc2, if_neg hc3, if_pos hc4]⟩⟩⟩⟩⟩, fun hc4 => ⟨((((((hp).2 hc1).1 hc2).2).1 hc3).2 hc4).1, ⟨fun hc5 => ⟨((((((((hp).2 hc1).1 hc2).2).1 hc3).2 hc4).2).1 hc5).1, ⟨(((((((((hp).2 hc1).1 hc2).2).1 hc3).2 hc4).2).1 hc5).2).1, ⟨((((((((((hp).2 hc1).1 hc2).2).1 hc3).2 hc4).2).1 hc5).2).2).1, ⟨((((((((((hp).2 hc1).1 hc2).2).1 hc3).2 hc4).2).1 hc5).2).2).2, ⟨rfl, by unfold jX12_wayOf; rw [if_pos hc1, if_pos hc2, if_neg hc3, if_neg hc4, if_pos hc5], by unfold jX12_wayOfM; rw [if_pos hc1, if_pos hc2, if_neg hc3, if_neg hc4, if_pos hc5]⟩⟩⟩⟩⟩, fun hc5 => ⟨rfl, by unfold jX12_wayOf; rw [if_pos hc1, if_pos hc2, if_neg hc3, if_neg hc4, if_neg hc5], by unfold jX12_wayOfM; rw [if_pos hc1, if_pos hc2, if_neg hc3, if_neg hc4, if_neg hc5]⟩⟩⟩⟩, fun hc3 => ⟨rfl, by unfold jX12_wayOf; rw [if_pos hc1, if_pos hc2, if_pos hc3], by unfold jX12_wayOfM; rw [if_pos hc1, if_pos hc2, if_pos hc3]⟩⟩⟩, fun hc2 => ⟨rfl, by unfold jX12_wayOf; rw [if_pos hc1, if_neg hc2], by unfold jX12_wayOfM; rw [if_pos hc1, if_neg hc2]⟩⟩⟩)

def fX12_host_0 (T : Topo) (a1 : Int32) (Q : Int32 → Topo → IM → Prop)  (I : IM) : Prop :=
  ((((wi a1 0 (I 79 2 - 1)) → (vp_in a1 8 ∧ ((((I 106 a1.toNatClampNeg) = 0) → (Q (jX12_finds (-1000003)) T (jX12_findsM I))) ∧ ((¬ (I 106 a1.toNatClampNeg) = 0) → (vp_in a1 8 ∧ Q (I 111 a1.toNatClampNeg) T I))))) ∧ ((¬ (wi a1 0 (I 79 2 - 1))) → (Q (jX12_finds (-1000001)) T (jX12_findsM I)))))
set_option maxHeartbeats 4000000 in
set_option maxRecDepth 100000 in
theorem sX12_host_0 (d : Nat) {T : Topo} (hT : Lay T) (a1 : Int32)    {Q : Int32 → Topo → IM → Prop}   (I : IM) (h : fX12_host_0 T a1 Q  I) : J (d + 2) mX12_host (PI Q) 0 0 0 [some (.ref 79), some (.int a1)] [] T I 0 0 := by
  unfold fX12_host_0 at h
  refine J.aload_n dX12_host_0 rfl rfl ?_
  refine J.iload_n dX12_host_1 rfl rfl ?_
  refine J.callVP (k := 79) (as := [.int a1]) (rest := []) dX12_host_2 kX12_isSlice vX12_isSlice lX12_235 (hT.k 79 rfl) rfl rfl rfl rfl rfl (by omega) (Nat.le_refl _) (Nat.le_refl _) (qX12_isSlice (d + 0) hT a1 ) ?_
  refine J.bz_ne (tgt := 15) dX12_host_5 (by decide) (fun hc1 => ?_) (fun hc1 => ?_)
  · have h := h.1 hc1
    refine J.aload_n dX12_host_15 rfl rfl ?_
    refine J.getR (r := 106) dX12_host_16 fX12_93 (hT.k 79 rfl) rfl (hT.r 79 35 rfl rfl) ?_
    refine J.iload_n dX12_host_19 rfl rfl ?_
    obtain ⟨hs2, h⟩ := h
    refine J.bald dX12_host_20 (hT.k 106 rfl) (hT.l 106 rfl) hs2 ?_
    refine J.if_eq (tgt := 33) dX12_host_21 (by decide) (fun hc3 => ?_) (fun hc3 => ?_)
    · have h := h.1 hc3
      refine J.aload_n dX12_host_33 rfl rfl ?_
      refine J.ldc (v := (-1000003)) dX12_host_34 kcX12_238 ?_
      refine J.callVE (k := 79) (as := [.int (-1000003)]) (rest := []) dX12_host_36 kX12_finds vX12_finds lX12_200 (hT.k 79 rfl) rfl rfl rfl rfl rfl (by omega) (Nat.le_refl _) (Nat.le_refl _) (qX12_finds (d + 1) hT (-1000003) ) ?_
      exact J.iretQ dX12_host_39 rfl (Nat.le_refl _) (Nat.le_refl _) h
    · have h := h.2 hc3
      refine J.aload_n dX12_host_24 rfl rfl ?_
      refine J.getR (r := 111) dX12_host_25 fX12_108 (hT.k 79 rfl) rfl (hT.r 79 40 rfl rfl) ?_
      refine J.iload_n dX12_host_28 rfl rfl ?_
      obtain ⟨hs4, h⟩ := h
      refine J.iald dX12_host_29 (hT.k 111 rfl) (hT.l 111 rfl) hs4 ?_
      refine J.goto (tgt := 39) dX12_host_30 (by decide) ?_
      exact J.iretQ dX12_host_39 rfl (Nat.le_refl _) (Nat.le_refl _) h
  · have h := h.2 hc1
    refine J.aload_n dX12_host_8 rfl rfl ?_
    refine J.ldc (v := (-1000001)) dX12_host_9 kcX12_199 ?_
    refine J.callVE (k := 79) (as := [.int (-1000001)]) (rest := []) dX12_host_11 kX12_finds vX12_finds lX12_200 (hT.k 79 rfl) rfl rfl rfl rfl rfl (by omega) (Nat.le_refl _) (Nat.le_refl _) (qX12_finds (d + 1) hT (-1000001) ) ?_
    exact J.iretQ dX12_host_14 rfl (Nat.le_refl _) (Nat.le_refl _) h
set_option maxHeartbeats 4000000 in
set_option maxRecDepth 100000 in
theorem wX12_host (d : Nat) {T : Topo} (hT : Lay T) (a1 : Int32)   {Q : Int32 → Topo → IM → Prop} {I : IM} (h : fX12_host_0 T a1 Q I) : Ct (d + 2) mX12_host [.ref 79, .int a1] T I 0 0 (PI Q) :=
  Ct.ofJ (by decide +kernel) rfl (by intro v hv; revert v hv; simp [Value.category]) rfl (sX12_host_0 d hT a1   I h)

def jX12_host (I : IM) (a1 : Int32) : Int32 := (if wi a1 0 (I 79 2 - 1) then (if (I 106 a1.toNatClampNeg) = 0 then (jX12_finds (-1000003)) else (I 111 a1.toNatClampNeg)) else (jX12_finds (-1000001)))
def jX12_hostM (I : IM) (a1 : Int32) : IM := (if wi a1 0 (I 79 2 - 1) then (if (I 106 a1.toNatClampNeg) = 0 then (jX12_findsM I) else I) else (jX12_findsM I))
def jX12_hostK (I : IM) (a1 : Int32) : Prop := (((wi a1 0 (I 79 2 - 1)) → (vp_in a1 8 ∧ ((((I 106 a1.toNatClampNeg) = 0) → True) ∧ ((¬ (I 106 a1.toNatClampNeg) = 0) → vp_in a1 8)))) ∧ ((¬ (wi a1 0 (I 79 2 - 1))) → True))
set_option maxRecDepth 10000 in
theorem qX12_host (d : Nat) {T : Topo} {I : IM} (hT : Lay T) (a1 : Int32)  (hp : (jX12_hostK I a1)) : CtI (d + 2) mX12_host [.ref 79, .int a1] T I (fun x_ J_ => x_ = (jX12_host I a1) ∧ J_ = (jX12_hostM I a1)) :=
  wX12_host d hT a1   (by
  unfold fX12_host_0
  exact ⟨fun hc1 => ⟨((hp).1 hc1).1, ⟨fun hc2 => ⟨rfl, by unfold jX12_host; rw [if_pos hc1, if_pos hc2], by unfold jX12_hostM; rw [if_pos hc1, if_pos hc2]⟩, fun hc2 => ⟨(((hp).1 hc1).2).2 hc2, ⟨rfl, by unfold jX12_host; rw [if_pos hc1, if_neg hc2], by unfold jX12_hostM; rw [if_pos hc1, if_neg hc2]⟩⟩⟩⟩, fun hc1 => ⟨rfl, by unfold jX12_host; rw [if_neg hc1], by unfold jX12_hostM; rw [if_neg hc1]⟩⟩)

def fX12_takes_0 (T : Topo) (a1 : Int32) (a2 : Int32) (Q : Int32 → Topo → IM → Prop)  (I : IM) : Prop :=
  (((0 ≤ a2) → (vp_in a1 8 ∧ (((jX12_areUpK I (I 107 a1.toNatClampNeg))) ∧ ((((jX12_areUp I (I 107 a1.toNatClampNeg)) = 0) → (vp_in a1 8 ∧ (((¬ (I 90 a1.toNatClampNeg) = 1) → Q 0 T I) ∧ (((I 90 a1.toNatClampNeg) = 1) → (vp_in a1 8 ∧ (((jX12_areUpK I (I 108 a1.toNatClampNeg))) ∧ ((((jX12_areUp I (I 108 a1.toNatClampNeg)) = 0) → Q 0 T I) ∧ ((¬ (jX12_areUp I (I 108 a1.toNatClampNeg)) = 0) → (vp_in a1 8 ∧ (((¬ ((I 108 a1.toNatClampNeg) &&& ((1 : Int32) <<< (a2 &&& 31))) = 0) → Q 0 T I) ∧ ((((I 108 a1.toNatClampNeg) &&& ((1 : Int32) <<< (a2 &&& 31))) = 0) → (vp_in a1 8 ∧ Q (I 108 a1.toNatClampNeg) T I)))))))))))) ∧ ((¬ (jX12_areUp I (I 107 a1.toNatClampNeg)) = 0) → (vp_in a1 8 ∧ (((¬ ((I 107 a1.toNatClampNeg) &&& ((1 : Int32) <<< (a2 &&& 31))) = 0) → (vp_in a1 8 ∧ (((¬ (I 90 a1.toNatClampNeg) = 1) → Q 0 T I) ∧ (((I 90 a1.toNatClampNeg) = 1) → (vp_in a1 8 ∧ (((jX12_areUpK I (I 108 a1.toNatClampNeg))) ∧ ((((jX12_areUp I (I 108 a1.toNatClampNeg)) = 0) → Q 0 T I) ∧ ((¬ (jX12_areUp I (I 108 a1.toNatClampNeg)) = 0) → (vp_in a1 8 ∧ (((¬ ((I 108 a1.toNatClampNeg) &&& ((1 : Int32) <<< (a2 &&& 31))) = 0) → Q 0 T I) ∧ ((((I 108 a1.toNatClampNeg) &&& ((1 : Int32) <<< (a2 &&& 31))) = 0) → (vp_in a1 8 ∧ Q (I 108 a1.toNatClampNeg) T I)))))))))))) ∧ ((((I 107 a1.toNatClampNeg) &&& ((1 : Int32) <<< (a2 &&& 31))) = 0) → (vp_in a1 8 ∧ Q (I 107 a1.toNatClampNeg) T I))))))))) ∧ ((¬ 0 ≤ a2) → (vp_in a1 8 ∧ (((jX12_areUpK I (I 107 a1.toNatClampNeg))) ∧ ((((jX12_areUp I (I 107 a1.toNatClampNeg)) = 0) → (vp_in a1 8 ∧ (((¬ (I 90 a1.toNatClampNeg) = 1) → Q 0 T I) ∧ (((I 90 a1.toNatClampNeg) = 1) → (vp_in a1 8 ∧ (((jX12_areUpK I (I 108 a1.toNatClampNeg))) ∧ ((((jX12_areUp I (I 108 a1.toNatClampNeg)) = 0) → Q 0 T I) ∧ ((¬ (jX12_areUp I (I 108 a1.toNatClampNeg)) = 0) → (vp_in a1 8 ∧ (((¬ ((I 108 a1.toNatClampNeg) &&& 0) = 0) → Q 0 T I) ∧ ((((I 108 a1.toNatClampNeg) &&& 0) = 0) → (vp_in a1 8 ∧ Q (I 108 a1.toNatClampNeg) T I)))))))))))) ∧ ((¬ (jX12_areUp I (I 107 a1.toNatClampNeg)) = 0) → (vp_in a1 8 ∧ (((¬ ((I 107 a1.toNatClampNeg) &&& 0) = 0) → (vp_in a1 8 ∧ (((¬ (I 90 a1.toNatClampNeg) = 1) → Q 0 T I) ∧ (((I 90 a1.toNatClampNeg) = 1) → (vp_in a1 8 ∧ (((jX12_areUpK I (I 108 a1.toNatClampNeg))) ∧ ((((jX12_areUp I (I 108 a1.toNatClampNeg)) = 0) → Q 0 T I) ∧ ((¬ (jX12_areUp I (I 108 a1.toNatClampNeg)) = 0) → (vp_in a1 8 ∧ (((¬ ((I 108 a1.toNatClampNeg) &&& 0) = 0) → Q 0 T I) ∧ ((((I 108 a1.toNatClampNeg) &&& 0) = 0) → (vp_in a1 8 ∧ Q (I 108 a1.toNatClampNeg) T I)))))))))))) ∧ ((((I 107 a1.toNatClampNeg) &&& 0) = 0) → (vp_in a1 8 ∧ Q (I 107 a1.toNatClampNeg) T I))))))))))
set_option maxHeartbeats 4000000 in
set_option maxRecDepth 100000 in
theorem sX12_takes_0 (d : Nat) {T : Topo} (hT : Lay T) (a1 : Int32) (a2 : Int32)    {Q : Int32 → Topo → IM → Prop}   (I : IM) (h : fX12_takes_0 T a1 a2 Q  I) : J (d + 2) mX12_takes (PI Q) 0 0 0 [some (.ref 79), some (.int a1), some (.int a2), none] [] T I 0 0 := by
  unfold fX12_takes_0 at h
  refine J.iload_n dX12_takes_0 rfl rfl ?_
  refine J.if_ge (tgt := 8) dX12_takes_1 (by decide) (fun hc1 => ?_) (fun hc1 => ?_)
  · have h := h.1 hc1
    refine J.iconst (v := 1) dX12_takes_8 (by decide) ?_
    refine J.iload_n dX12_takes_9 rfl rfl ?_
    refine J.ishl dX12_takes_10 ?_
    refine J.istore_n (ls' := [some (.ref 79), some (.int a1), some (.int a2), some (.int ((1 : Int32) <<< (a2 &&& 31)))]) dX12_takes_11 rfl rfl rfl ?_
    refine J.aload_n dX12_takes_12 rfl rfl ?_
    refine J.aload_n dX12_takes_13 rfl rfl ?_
    refine J.getR (r := 107) dX12_takes_14 fX12_96 (hT.k 79 rfl) rfl (hT.r 79 36 rfl rfl) ?_
    refine J.atpc (pc' := 17) rfl ?_
    refine J.iload_n dX12_takes_17 rfl rfl ?_
    obtain ⟨hs2, h⟩ := h
    refine J.iald dX12_takes_18 (hT.k 107 rfl) (hT.l 107 rfl) hs2 ?_
    obtain ⟨hp3, h⟩ := h
    refine J.callVP (k := 79) (as := [.int (I 107 a1.toNatClampNeg)]) (rest := []) dX12_takes_19 kX12_areUp vX12_areUp lX12_281 (hT.k 79 rfl) rfl rfl rfl rfl rfl (by omega) (Nat.le_refl _) (Nat.le_refl _) (qX12_areUp (d + 0) hT (I 107 a1.toNatClampNeg) hp3) ?_
    refine J.if_eq (tgt := 43) dX12_takes_22 (by decide) (fun hc4 => ?_) (fun hc4 => ?_)
    · have h := h.1 hc4
      refine J.aload_n dX12_takes_43 rfl rfl ?_
      refine J.getR (r := 90) dX12_takes_44 fX12_45 (hT.k 79 rfl) rfl (hT.r 79 19 rfl rfl) ?_
      refine J.iload_n dX12_takes_47 rfl rfl ?_
      obtain ⟨hs5, h⟩ := h
      refine J.iald dX12_takes_48 (hT.k 90 rfl) (hT.l 90 rfl) hs5 ?_
      refine J.iconst (v := 1) dX12_takes_49 (by decide) ?_
      refine J.icmp_ne (tgt := 86) dX12_takes_50 (by decide) (fun hc6 => ?_) (fun hc6 => ?_)
      · have h := h.1 hc6
        refine J.iconst (v := 0) dX12_takes_86 (by decide) ?_
        exact J.iretQ dX12_takes_87 rfl (Nat.le_refl _) (Nat.le_refl _) h
      · have h := h.2 hc6
        refine J.aload_n dX12_takes_53 rfl rfl ?_
        refine J.aload_n dX12_takes_54 rfl rfl ?_
        refine J.getR (r := 108) dX12_takes_55 fX12_99 (hT.k 79 rfl) rfl (hT.r 79 37 rfl rfl) ?_
        refine J.iload_n dX12_takes_58 rfl rfl ?_
        obtain ⟨hs7, h⟩ := h
        refine J.iald dX12_takes_59 (hT.k 108 rfl) (hT.l 108 rfl) hs7 ?_
        obtain ⟨hp8, h⟩ := h
        refine J.callVP (k := 79) (as := [.int (I 108 a1.toNatClampNeg)]) (rest := []) dX12_takes_60 kX12_areUp vX12_areUp lX12_281 (hT.k 79 rfl) rfl rfl rfl rfl rfl (by omega) (Nat.le_refl _) (Nat.le_refl _) (qX12_areUp (d + 0) hT (I 108 a1.toNatClampNeg) hp8) ?_
        refine J.if_eq (tgt := 86) dX12_takes_63 (by decide) (fun hc9 => ?_) (fun hc9 => ?_)
        · have h := h.1 hc9
          refine J.iconst (v := 0) dX12_takes_86 (by decide) ?_
          exact J.iretQ dX12_takes_87 rfl (Nat.le_refl _) (Nat.le_refl _) h
        · have h := h.2 hc9
          refine J.aload_n dX12_takes_66 rfl rfl ?_
          refine J.getR (r := 108) dX12_takes_67 fX12_99 (hT.k 79 rfl) rfl (hT.r 79 37 rfl rfl) ?_
          refine J.iload_n dX12_takes_70 rfl rfl ?_
          obtain ⟨hs10, h⟩ := h
          refine J.iald dX12_takes_71 (hT.k 108 rfl) (hT.l 108 rfl) hs10 ?_
          refine J.iload_n dX12_takes_72 rfl rfl ?_
          refine J.iand dX12_takes_73 ?_
          refine J.if_ne (tgt := 86) dX12_takes_74 (by decide) (fun hc11 => ?_) (fun hc11 => ?_)
          · have h := h.1 hc11
            refine J.iconst (v := 0) dX12_takes_86 (by decide) ?_
            exact J.iretQ dX12_takes_87 rfl (Nat.le_refl _) (Nat.le_refl _) h
          · have h := h.2 hc11
            refine J.aload_n dX12_takes_77 rfl rfl ?_
            refine J.getR (r := 108) dX12_takes_78 fX12_99 (hT.k 79 rfl) rfl (hT.r 79 37 rfl rfl) ?_
            refine J.iload_n dX12_takes_81 rfl rfl ?_
            obtain ⟨hs12, h⟩ := h
            refine J.iald dX12_takes_82 (hT.k 108 rfl) (hT.l 108 rfl) hs12 ?_
            refine J.goto (tgt := 87) dX12_takes_83 (by decide) ?_
            exact J.iretQ dX12_takes_87 rfl (Nat.le_refl _) (Nat.le_refl _) h
    · have h := h.2 hc4
      refine J.aload_n dX12_takes_25 rfl rfl ?_
      refine J.getR (r := 107) dX12_takes_26 fX12_96 (hT.k 79 rfl) rfl (hT.r 79 36 rfl rfl) ?_
      refine J.iload_n dX12_takes_29 rfl rfl ?_
      obtain ⟨hs13, h⟩ := h
      refine J.iald dX12_takes_30 (hT.k 107 rfl) (hT.l 107 rfl) hs13 ?_
      refine J.iload_n dX12_takes_31 rfl rfl ?_
      refine J.iand dX12_takes_32 ?_
      refine J.if_ne (tgt := 43) dX12_takes_33 (by decide) (fun hc14 => ?_) (fun hc14 => ?_)
      · have h := h.1 hc14
        refine J.aload_n dX12_takes_43 rfl rfl ?_
        refine J.getR (r := 90) dX12_takes_44 fX12_45 (hT.k 79 rfl) rfl (hT.r 79 19 rfl rfl) ?_
        refine J.iload_n dX12_takes_47 rfl rfl ?_
        obtain ⟨hs15, h⟩ := h
        refine J.iald dX12_takes_48 (hT.k 90 rfl) (hT.l 90 rfl) hs15 ?_
        refine J.iconst (v := 1) dX12_takes_49 (by decide) ?_
        refine J.icmp_ne (tgt := 86) dX12_takes_50 (by decide) (fun hc16 => ?_) (fun hc16 => ?_)
        · have h := h.1 hc16
          refine J.iconst (v := 0) dX12_takes_86 (by decide) ?_
          exact J.iretQ dX12_takes_87 rfl (Nat.le_refl _) (Nat.le_refl _) h
        · have h := h.2 hc16
          refine J.aload_n dX12_takes_53 rfl rfl ?_
          refine J.aload_n dX12_takes_54 rfl rfl ?_
          refine J.getR (r := 108) dX12_takes_55 fX12_99 (hT.k 79 rfl) rfl (hT.r 79 37 rfl rfl) ?_
          refine J.iload_n dX12_takes_58 rfl rfl ?_
          obtain ⟨hs17, h⟩ := h
          refine J.iald dX12_takes_59 (hT.k 108 rfl) (hT.l 108 rfl) hs17 ?_
          obtain ⟨hp18, h⟩ := h
          refine J.callVP (k := 79) (as := [.int (I 108 a1.toNatClampNeg)]) (rest := []) dX12_takes_60 kX12_areUp vX12_areUp lX12_281 (hT.k 79 rfl) rfl rfl rfl rfl rfl (by omega) (Nat.le_refl _) (Nat.le_refl _) (qX12_areUp (d + 0) hT (I 108 a1.toNatClampNeg) hp18) ?_
          refine J.if_eq (tgt := 86) dX12_takes_63 (by decide) (fun hc19 => ?_) (fun hc19 => ?_)
          · have h := h.1 hc19
            refine J.iconst (v := 0) dX12_takes_86 (by decide) ?_
            exact J.iretQ dX12_takes_87 rfl (Nat.le_refl _) (Nat.le_refl _) h
          · have h := h.2 hc19
            refine J.aload_n dX12_takes_66 rfl rfl ?_
            refine J.getR (r := 108) dX12_takes_67 fX12_99 (hT.k 79 rfl) rfl (hT.r 79 37 rfl rfl) ?_
            refine J.iload_n dX12_takes_70 rfl rfl ?_
            obtain ⟨hs20, h⟩ := h
            refine J.iald dX12_takes_71 (hT.k 108 rfl) (hT.l 108 rfl) hs20 ?_
            refine J.iload_n dX12_takes_72 rfl rfl ?_
            refine J.iand dX12_takes_73 ?_
            refine J.if_ne (tgt := 86) dX12_takes_74 (by decide) (fun hc21 => ?_) (fun hc21 => ?_)
            · have h := h.1 hc21
              refine J.iconst (v := 0) dX12_takes_86 (by decide) ?_
              exact J.iretQ dX12_takes_87 rfl (Nat.le_refl _) (Nat.le_refl _) h
            · have h := h.2 hc21
              refine J.aload_n dX12_takes_77 rfl rfl ?_
              refine J.getR (r := 108) dX12_takes_78 fX12_99 (hT.k 79 rfl) rfl (hT.r 79 37 rfl rfl) ?_
              refine J.iload_n dX12_takes_81 rfl rfl ?_
              obtain ⟨hs22, h⟩ := h
              refine J.iald dX12_takes_82 (hT.k 108 rfl) (hT.l 108 rfl) hs22 ?_
              refine J.goto (tgt := 87) dX12_takes_83 (by decide) ?_
              exact J.iretQ dX12_takes_87 rfl (Nat.le_refl _) (Nat.le_refl _) h
      · have h := h.2 hc14
        refine J.aload_n dX12_takes_36 rfl rfl ?_
        refine J.getR (r := 107) dX12_takes_37 fX12_96 (hT.k 79 rfl) rfl (hT.r 79 36 rfl rfl) ?_
        refine J.iload_n dX12_takes_40 rfl rfl ?_
        obtain ⟨hs23, h⟩ := h
        refine J.iald dX12_takes_41 (hT.k 107 rfl) (hT.l 107 rfl) hs23 ?_
        exact J.iretQ dX12_takes_42 rfl (Nat.le_refl _) (Nat.le_refl _) h
  · have h := h.2 hc1
    refine J.iconst (v := 0) dX12_takes_4 (by decide) ?_
    refine J.goto (tgt := 11) dX12_takes_5 (by decide) ?_
    refine J.istore_n (ls' := [some (.ref 79), some (.int a1), some (.int a2), some (.int 0)]) dX12_takes_11 rfl rfl rfl ?_
    refine J.aload_n dX12_takes_12 rfl rfl ?_
    refine J.aload_n dX12_takes_13 rfl rfl ?_
    refine J.getR (r := 107) dX12_takes_14 fX12_96 (hT.k 79 rfl) rfl (hT.r 79 36 rfl rfl) ?_
    refine J.iload_n dX12_takes_17 rfl rfl ?_
    refine J.atpc (pc' := 18) rfl ?_
    obtain ⟨hs24, h⟩ := h
    refine J.iald dX12_takes_18 (hT.k 107 rfl) (hT.l 107 rfl) hs24 ?_
    obtain ⟨hp25, h⟩ := h
    refine J.callVP (k := 79) (as := [.int (I 107 a1.toNatClampNeg)]) (rest := []) dX12_takes_19 kX12_areUp vX12_areUp lX12_281 (hT.k 79 rfl) rfl rfl rfl rfl rfl (by omega) (Nat.le_refl _) (Nat.le_refl _) (qX12_areUp (d + 0) hT (I 107 a1.toNatClampNeg) hp25) ?_
    refine J.if_eq (tgt := 43) dX12_takes_22 (by decide) (fun hc26 => ?_) (fun hc26 => ?_)
    · have h := h.1 hc26
      refine J.aload_n dX12_takes_43 rfl rfl ?_
      refine J.getR (r := 90) dX12_takes_44 fX12_45 (hT.k 79 rfl) rfl (hT.r 79 19 rfl rfl) ?_
      refine J.iload_n dX12_takes_47 rfl rfl ?_
      obtain ⟨hs27, h⟩ := h
      refine J.iald dX12_takes_48 (hT.k 90 rfl) (hT.l 90 rfl) hs27 ?_
      refine J.iconst (v := 1) dX12_takes_49 (by decide) ?_
      refine J.icmp_ne (tgt := 86) dX12_takes_50 (by decide) (fun hc28 => ?_) (fun hc28 => ?_)
      · have h := h.1 hc28
        refine J.iconst (v := 0) dX12_takes_86 (by decide) ?_
        exact J.iretQ dX12_takes_87 rfl (Nat.le_refl _) (Nat.le_refl _) h
      · have h := h.2 hc28
        refine J.aload_n dX12_takes_53 rfl rfl ?_
        refine J.aload_n dX12_takes_54 rfl rfl ?_
        refine J.getR (r := 108) dX12_takes_55 fX12_99 (hT.k 79 rfl) rfl (hT.r 79 37 rfl rfl) ?_
        refine J.iload_n dX12_takes_58 rfl rfl ?_
        obtain ⟨hs29, h⟩ := h
        refine J.iald dX12_takes_59 (hT.k 108 rfl) (hT.l 108 rfl) hs29 ?_
        obtain ⟨hp30, h⟩ := h
        refine J.callVP (k := 79) (as := [.int (I 108 a1.toNatClampNeg)]) (rest := []) dX12_takes_60 kX12_areUp vX12_areUp lX12_281 (hT.k 79 rfl) rfl rfl rfl rfl rfl (by omega) (Nat.le_refl _) (Nat.le_refl _) (qX12_areUp (d + 0) hT (I 108 a1.toNatClampNeg) hp30) ?_
        refine J.if_eq (tgt := 86) dX12_takes_63 (by decide) (fun hc31 => ?_) (fun hc31 => ?_)
        · have h := h.1 hc31
          refine J.iconst (v := 0) dX12_takes_86 (by decide) ?_
          exact J.iretQ dX12_takes_87 rfl (Nat.le_refl _) (Nat.le_refl _) h
        · have h := h.2 hc31
          refine J.aload_n dX12_takes_66 rfl rfl ?_
          refine J.getR (r := 108) dX12_takes_67 fX12_99 (hT.k 79 rfl) rfl (hT.r 79 37 rfl rfl) ?_
          refine J.iload_n dX12_takes_70 rfl rfl ?_
          obtain ⟨hs32, h⟩ := h
          refine J.iald dX12_takes_71 (hT.k 108 rfl) (hT.l 108 rfl) hs32 ?_
          refine J.iload_n dX12_takes_72 rfl rfl ?_
          refine J.iand dX12_takes_73 ?_
          refine J.if_ne (tgt := 86) dX12_takes_74 (by decide) (fun hc33 => ?_) (fun hc33 => ?_)
          · have h := h.1 hc33
            refine J.iconst (v := 0) dX12_takes_86 (by decide) ?_
            exact J.iretQ dX12_takes_87 rfl (Nat.le_refl _) (Nat.le_refl _) h
          · have h := h.2 hc33
            refine J.aload_n dX12_takes_77 rfl rfl ?_
            refine J.getR (r := 108) dX12_takes_78 fX12_99 (hT.k 79 rfl) rfl (hT.r 79 37 rfl rfl) ?_
            refine J.iload_n dX12_takes_81 rfl rfl ?_
            obtain ⟨hs34, h⟩ := h
            refine J.iald dX12_takes_82 (hT.k 108 rfl) (hT.l 108 rfl) hs34 ?_
            refine J.goto (tgt := 87) dX12_takes_83 (by decide) ?_
            exact J.iretQ dX12_takes_87 rfl (Nat.le_refl _) (Nat.le_refl _) h
    · have h := h.2 hc26
      refine J.aload_n dX12_takes_25 rfl rfl ?_
      refine J.getR (r := 107) dX12_takes_26 fX12_96 (hT.k 79 rfl) rfl (hT.r 79 36 rfl rfl) ?_
      refine J.iload_n dX12_takes_29 rfl rfl ?_
      obtain ⟨hs35, h⟩ := h
      refine J.iald dX12_takes_30 (hT.k 107 rfl) (hT.l 107 rfl) hs35 ?_
      refine J.iload_n dX12_takes_31 rfl rfl ?_
      refine J.iand dX12_takes_32 ?_
      refine J.if_ne (tgt := 43) dX12_takes_33 (by decide) (fun hc36 => ?_) (fun hc36 => ?_)
      · have h := h.1 hc36
        refine J.aload_n dX12_takes_43 rfl rfl ?_
        refine J.getR (r := 90) dX12_takes_44 fX12_45 (hT.k 79 rfl) rfl (hT.r 79 19 rfl rfl) ?_
        refine J.iload_n dX12_takes_47 rfl rfl ?_
        obtain ⟨hs37, h⟩ := h
        refine J.iald dX12_takes_48 (hT.k 90 rfl) (hT.l 90 rfl) hs37 ?_
        refine J.iconst (v := 1) dX12_takes_49 (by decide) ?_
        refine J.icmp_ne (tgt := 86) dX12_takes_50 (by decide) (fun hc38 => ?_) (fun hc38 => ?_)
        · have h := h.1 hc38
          refine J.iconst (v := 0) dX12_takes_86 (by decide) ?_
          exact J.iretQ dX12_takes_87 rfl (Nat.le_refl _) (Nat.le_refl _) h
        · have h := h.2 hc38
          refine J.aload_n dX12_takes_53 rfl rfl ?_
          refine J.aload_n dX12_takes_54 rfl rfl ?_
          refine J.getR (r := 108) dX12_takes_55 fX12_99 (hT.k 79 rfl) rfl (hT.r 79 37 rfl rfl) ?_
          refine J.iload_n dX12_takes_58 rfl rfl ?_
          obtain ⟨hs39, h⟩ := h
          refine J.iald dX12_takes_59 (hT.k 108 rfl) (hT.l 108 rfl) hs39 ?_
          obtain ⟨hp40, h⟩ := h
          refine J.callVP (k := 79) (as := [.int (I 108 a1.toNatClampNeg)]) (rest := []) dX12_takes_60 kX12_areUp vX12_areUp lX12_281 (hT.k 79 rfl) rfl rfl rfl rfl rfl (by omega) (Nat.le_refl _) (Nat.le_refl _) (qX12_areUp (d + 0) hT (I 108 a1.toNatClampNeg) hp40) ?_
          refine J.if_eq (tgt := 86) dX12_takes_63 (by decide) (fun hc41 => ?_) (fun hc41 => ?_)
          · have h := h.1 hc41
            refine J.iconst (v := 0) dX12_takes_86 (by decide) ?_
            exact J.iretQ dX12_takes_87 rfl (Nat.le_refl _) (Nat.le_refl _) h
          · have h := h.2 hc41
            refine J.aload_n dX12_takes_66 rfl rfl ?_
            refine J.getR (r := 108) dX12_takes_67 fX12_99 (hT.k 79 rfl) rfl (hT.r 79 37 rfl rfl) ?_
            refine J.iload_n dX12_takes_70 rfl rfl ?_
            obtain ⟨hs42, h⟩ := h
            refine J.iald dX12_takes_71 (hT.k 108 rfl) (hT.l 108 rfl) hs42 ?_
            refine J.iload_n dX12_takes_72 rfl rfl ?_
            refine J.iand dX12_takes_73 ?_
            refine J.if_ne (tgt := 86) dX12_takes_74 (by decide) (fun hc43 => ?_) (fun hc43 => ?_)
            · have h := h.1 hc43
              refine J.iconst (v := 0) dX12_takes_86 (by decide) ?_
              exact J.iretQ dX12_takes_87 rfl (Nat.le_refl _) (Nat.le_refl _) h
            · have h := h.2 hc43
              refine J.aload_n dX12_takes_77 rfl rfl ?_
              refine J.getR (r := 108) dX12_takes_78 fX12_99 (hT.k 79 rfl) rfl (hT.r 79 37 rfl rfl) ?_
              refine J.iload_n dX12_takes_81 rfl rfl ?_
              obtain ⟨hs44, h⟩ := h
              refine J.iald dX12_takes_82 (hT.k 108 rfl) (hT.l 108 rfl) hs44 ?_
              refine J.goto (tgt := 87) dX12_takes_83 (by decide) ?_
              exact J.iretQ dX12_takes_87 rfl (Nat.le_refl _) (Nat.le_refl _) h
      · have h := h.2 hc36
        refine J.aload_n dX12_takes_36 rfl rfl ?_
        refine J.getR (r := 107) dX12_takes_37 fX12_96 (hT.k 79 rfl) rfl (hT.r 79 36 rfl rfl) ?_
        refine J.iload_n dX12_takes_40 rfl rfl ?_
        obtain ⟨hs45, h⟩ := h
        refine J.iald dX12_takes_41 (hT.k 107 rfl) (hT.l 107 rfl) hs45 ?_
        exact J.iretQ dX12_takes_42 rfl (Nat.le_refl _) (Nat.le_refl _) h
set_option maxHeartbeats 4000000 in
set_option maxRecDepth 100000 in
theorem wX12_takes (d : Nat) {T : Topo} (hT : Lay T) (a1 : Int32) (a2 : Int32)   {Q : Int32 → Topo → IM → Prop} {I : IM} (h : fX12_takes_0 T a1 a2 Q I) : Ct (d + 2) mX12_takes [.ref 79, .int a1, .int a2] T I 0 0 (PI Q) :=
  Ct.ofJ (by decide +kernel) rfl (by intro v hv; revert v hv; simp [Value.category]) rfl (sX12_takes_0 d hT a1 a2   I h)

def jX12_takes (I : IM) (a1 : Int32) (a2 : Int32) : Int32 := (if 0 ≤ a2 then (if (jX12_areUp I (I 107 a1.toNatClampNeg)) = 0 then (if (I 90 a1.toNatClampNeg) = 1 then (if (jX12_areUp I (I 108 a1.toNatClampNeg)) = 0 then 0 else (if ((I 108 a1.toNatClampNeg) &&& ((1 : Int32) <<< (a2 &&& 31))) = 0 then (I 108 a1.toNatClampNeg) else 0)) else 0) else (if ((I 107 a1.toNatClampNeg) &&& ((1 : Int32) <<< (a2 &&& 31))) = 0 then (I 107 a1.toNatClampNeg) else (if (I 90 a1.toNatClampNeg) = 1 then (if (jX12_areUp I (I 108 a1.toNatClampNeg)) = 0 then 0 else (if ((I 108 a1.toNatClampNeg) &&& ((1 : Int32) <<< (a2 &&& 31))) = 0 then (I 108 a1.toNatClampNeg) else 0)) else 0))) else (if (jX12_areUp I (I 107 a1.toNatClampNeg)) = 0 then (if (I 90 a1.toNatClampNeg) = 1 then (if (jX12_areUp I (I 108 a1.toNatClampNeg)) = 0 then 0 else (if ((I 108 a1.toNatClampNeg) &&& 0) = 0 then (I 108 a1.toNatClampNeg) else 0)) else 0) else (if ((I 107 a1.toNatClampNeg) &&& 0) = 0 then (I 107 a1.toNatClampNeg) else (if (I 90 a1.toNatClampNeg) = 1 then (if (jX12_areUp I (I 108 a1.toNatClampNeg)) = 0 then 0 else (if ((I 108 a1.toNatClampNeg) &&& 0) = 0 then (I 108 a1.toNatClampNeg) else 0)) else 0))))
def jX12_takesK (I : IM) (a1 : Int32) (a2 : Int32) : Prop := (((0 ≤ a2) → (vp_in a1 8 ∧ (((jX12_areUpK I (I 107 a1.toNatClampNeg))) ∧ ((((jX12_areUp I (I 107 a1.toNatClampNeg)) = 0) → (vp_in a1 8 ∧ (((¬ (I 90 a1.toNatClampNeg) = 1) → True) ∧ (((I 90 a1.toNatClampNeg) = 1) → (vp_in a1 8 ∧ (((jX12_areUpK I (I 108 a1.toNatClampNeg))) ∧ ((((jX12_areUp I (I 108 a1.toNatClampNeg)) = 0) → True) ∧ ((¬ (jX12_areUp I (I 108 a1.toNatClampNeg)) = 0) → (vp_in a1 8 ∧ (((¬ ((I 108 a1.toNatClampNeg) &&& ((1 : Int32) <<< (a2 &&& 31))) = 0) → True) ∧ ((((I 108 a1.toNatClampNeg) &&& ((1 : Int32) <<< (a2 &&& 31))) = 0) → vp_in a1 8))))))))))) ∧ ((¬ (jX12_areUp I (I 107 a1.toNatClampNeg)) = 0) → (vp_in a1 8 ∧ (((¬ ((I 107 a1.toNatClampNeg) &&& ((1 : Int32) <<< (a2 &&& 31))) = 0) → (vp_in a1 8 ∧ (((¬ (I 90 a1.toNatClampNeg) = 1) → True) ∧ (((I 90 a1.toNatClampNeg) = 1) → (vp_in a1 8 ∧ (((jX12_areUpK I (I 108 a1.toNatClampNeg))) ∧ ((((jX12_areUp I (I 108 a1.toNatClampNeg)) = 0) → True) ∧ ((¬ (jX12_areUp I (I 108 a1.toNatClampNeg)) = 0) → (vp_in a1 8 ∧ (((¬ ((I 108 a1.toNatClampNeg) &&& ((1 : Int32) <<< (a2 &&& 31))) = 0) → True) ∧ ((((I 108 a1.toNatClampNeg) &&& ((1 : Int32) <<< (a2 &&& 31))) = 0) → vp_in a1 8))))))))))) ∧ ((((I 107 a1.toNatClampNeg) &&& ((1 : Int32) <<< (a2 &&& 31))) = 0) → vp_in a1 8)))))))) ∧ ((¬ 0 ≤ a2) → (vp_in a1 8 ∧ (((jX12_areUpK I (I 107 a1.toNatClampNeg))) ∧ ((((jX12_areUp I (I 107 a1.toNatClampNeg)) = 0) → (vp_in a1 8 ∧ (((¬ (I 90 a1.toNatClampNeg) = 1) → True) ∧ (((I 90 a1.toNatClampNeg) = 1) → (vp_in a1 8 ∧ (((jX12_areUpK I (I 108 a1.toNatClampNeg))) ∧ ((((jX12_areUp I (I 108 a1.toNatClampNeg)) = 0) → True) ∧ ((¬ (jX12_areUp I (I 108 a1.toNatClampNeg)) = 0) → (vp_in a1 8 ∧ (((¬ ((I 108 a1.toNatClampNeg) &&& 0) = 0) → True) ∧ ((((I 108 a1.toNatClampNeg) &&& 0) = 0) → vp_in a1 8))))))))))) ∧ ((¬ (jX12_areUp I (I 107 a1.toNatClampNeg)) = 0) → (vp_in a1 8 ∧ (((¬ ((I 107 a1.toNatClampNeg) &&& 0) = 0) → (vp_in a1 8 ∧ (((¬ (I 90 a1.toNatClampNeg) = 1) → True) ∧ (((I 90 a1.toNatClampNeg) = 1) → (vp_in a1 8 ∧ (((jX12_areUpK I (I 108 a1.toNatClampNeg))) ∧ ((((jX12_areUp I (I 108 a1.toNatClampNeg)) = 0) → True) ∧ ((¬ (jX12_areUp I (I 108 a1.toNatClampNeg)) = 0) → (vp_in a1 8 ∧ (((¬ ((I 108 a1.toNatClampNeg) &&& 0) = 0) → True) ∧ ((((I 108 a1.toNatClampNeg) &&& 0) = 0) → vp_in a1 8))))))))))) ∧ ((((I 107 a1.toNatClampNeg) &&& 0) = 0) → vp_in a1 8)))))))))
set_option maxRecDepth 10000 in
theorem qX12_takes (d : Nat) {T : Topo} {I : IM} (hT : Lay T) (a1 : Int32) (a2 : Int32)  (hp : (jX12_takesK I a1 a2)) : CtP (d + 2) mX12_takes [.ref 79, .int a1, .int a2] T I ((jX12_takes I a1 a2)) :=
  wX12_takes d hT a1 a2   (by
  unfold fX12_takes_0
  exact ⟨fun hc1 => ⟨((hp).1 hc1).1, ⟨(((hp).1 hc1).2).1, ⟨fun hc2 => ⟨(((((hp).1 hc1).2).2).1 hc2).1, ⟨fun hc3 => ⟨by unfold jX12_takes; rw [if_pos hc1, if_pos hc2, if_neg hc3], rfl, rfl⟩, fun hc3 => ⟨(((((((hp).1 hc1).2).2).1 hc2).2).2 hc3).1, ⟨((((((((hp).1 hc1).2).2).1 hc2).2).2 hc3).2).1, ⟨fun hc4 => ⟨by unfold jX12_takes; rw [if_pos hc1, if_pos hc2, if_pos hc3, if_pos hc4], rfl, rfl⟩, fun hc4 => ⟨((((((((((hp).1 hc1).2).2).1 hc2).2).2 hc3).2).2).2 hc4).1, ⟨fun hc5 => ⟨by unfold jX12_takes; rw [if_pos hc1, if_pos hc2, if_pos hc3, if_neg hc4, if_neg hc5], rfl, rfl⟩, fun hc5 => ⟨(((((((((((hp).1 hc1).2).2).1 hc2).2).2 hc3).2).2).2 hc4).2).2 hc5, ⟨by unfold jX12_takes; rw [if_pos hc1, if_pos hc2, if_pos hc3, if_neg hc4, if_pos hc5], rfl, rfl⟩⟩⟩⟩⟩⟩⟩⟩⟩, fun hc2 => ⟨(((((hp).1 hc1).2).2).2 hc2).1, ⟨fun hc6 => ⟨(((((((hp).1 hc1).2).2).2 hc2).2).1 hc6).1, ⟨fun hc7 => ⟨by unfold jX12_takes; rw [if_pos hc1, if_neg hc2, if_neg hc6, if_neg hc7], rfl, rfl⟩, fun hc7 => ⟨(((((((((hp).1 hc1).2).2).2 hc2).2).1 hc6).2).2 hc7).1, ⟨((((((((((hp).1 hc1).2).2).2 hc2).2).1 hc6).2).2 hc7).2).1, ⟨fun hc8 => ⟨by unfold jX12_takes; rw [if_pos hc1, if_neg hc2, if_neg hc6, if_pos hc7, if_pos hc8], rfl, rfl⟩, fun hc8 => ⟨((((((((((((hp).1 hc1).2).2).2 hc2).2).1 hc6).2).2 hc7).2).2).2 hc8).1, ⟨fun hc9 => ⟨by unfold jX12_takes; rw [if_pos hc1, if_neg hc2, if_neg hc6, if_pos hc7, if_neg hc8, if_neg hc9], rfl, rfl⟩, fun hc9 => ⟨(((((((((((((hp).1 hc1).2).2).2 hc2).2).1 hc6).2).2 hc7).2).2).2 hc8).2).2 hc9, ⟨by unfold jX12_takes; rw [if_pos hc1, if_neg hc2, if_neg hc6, if_pos hc7, if_neg hc8, if_pos hc9], rfl, rfl⟩⟩⟩⟩⟩⟩⟩⟩⟩, fun hc6 => ⟨((((((hp).1 hc1).2).2).2 hc2).2).2 hc6, ⟨by unfold jX12_takes; rw [if_pos hc1, if_neg hc2, if_pos hc6], rfl, rfl⟩⟩⟩⟩⟩⟩⟩, fun hc1 => ⟨((hp).2 hc1).1, ⟨(((hp).2 hc1).2).1, ⟨fun hc10 => ⟨(((((hp).2 hc1).2).2).1 hc10).1, ⟨fun hc11 => ⟨by unfold jX12_takes; rw [if_neg hc1, if_pos hc10, if_neg hc11], rfl, rfl⟩, fun hc11 => ⟨(((((((hp).2 hc1).2).2).1 hc10).2).2 hc11).1, ⟨((((((((hp).2 hc1).2).2).1 hc10).2).2 hc11).2).1, ⟨fun hc12 => ⟨by unfold jX12_takes; rw [if_neg hc1, if_pos hc10, if_pos hc11, if_pos hc12], rfl, rfl⟩, fun hc12 => ⟨((((((((((hp).2 hc1).2).2).1 hc10).2).2 hc11).2).2).2 hc12).1, ⟨fun hc13 => ⟨by unfold jX12_takes; rw [if_neg hc1, if_pos hc10, if_pos hc11, if_neg hc12, if_neg hc13], rfl, rfl⟩, fun hc13 => ⟨(((((((((((hp).2 hc1).2).2).1 hc10).2).2 hc11).2).2).2 hc12).2).2 hc13, ⟨by unfold jX12_takes; rw [if_neg hc1, if_pos hc10, if_pos hc11, if_neg hc12, if_pos hc13], rfl, rfl⟩⟩⟩⟩⟩⟩⟩⟩⟩, fun hc10 => ⟨(((((hp).2 hc1).2).2).2 hc10).1, ⟨fun hc14 => ⟨(((((((hp).2 hc1).2).2).2 hc10).2).1 hc14).1, ⟨fun hc15 => ⟨by unfold jX12_takes; rw [if_neg hc1, if_neg hc10, if_neg hc14, if_neg hc15], rfl, rfl⟩, fun hc15 => ⟨(((((((((hp).2 hc1).2).2).2 hc10).2).1 hc14).2).2 hc15).1, ⟨((((((((((hp).2 hc1).2).2).2 hc10).2).1 hc14).2).2 hc15).2).1, ⟨fun hc16 => ⟨by unfold jX12_takes; rw [if_neg hc1, if_neg hc10, if_neg hc14, if_pos hc15, if_pos hc16], rfl, rfl⟩, fun hc16 => ⟨((((((((((((hp).2 hc1).2).2).2 hc10).2).1 hc14).2).2 hc15).2).2).2 hc16).1, ⟨fun hc17 => ⟨by unfold jX12_takes; rw [if_neg hc1, if_neg hc10, if_neg hc14, if_pos hc15, if_neg hc16, if_neg hc17], rfl, rfl⟩, fun hc17 => ⟨(((((((((((((hp).2 hc1).2).2).2 hc10).2).1 hc14).2).2 hc15).2).2).2 hc16).2).2 hc17, ⟨by unfold jX12_takes; rw [if_neg hc1, if_neg hc10, if_neg hc14, if_pos hc15, if_neg hc16, if_pos hc17], rfl, rfl⟩⟩⟩⟩⟩⟩⟩⟩⟩, fun hc14 => ⟨((((((hp).2 hc1).2).2).2 hc10).2).2 hc14, ⟨by unfold jX12_takes; rw [if_neg hc1, if_neg hc10, if_pos hc14], rfl, rfl⟩⟩⟩⟩⟩⟩⟩⟩)

def fX12_isOfThem_0 (T : Topo) (a1 : Int32) (Q : Int32 → Topo → IM → Prop)  (I : IM) : Prop :=
  (((a1 < 0) → Q 0 T I) ∧ ((¬ a1 < 0) → (((((1 : Int32) <<< ((I 79 2) &&& 31)) ≤ a1) → Q 0 T I) ∧ ((¬ ((1 : Int32) <<< ((I 79 2) &&& 31)) ≤ a1) → Q 1 T I))))
set_option maxHeartbeats 4000000 in
set_option maxRecDepth 100000 in
theorem sX12_isOfThem_0 (d : Nat) {T : Topo} (hT : Lay T) (a1 : Int32)    {Q : Int32 → Topo → IM → Prop}   (I : IM) (h : fX12_isOfThem_0 T a1 Q  I) : J (d + 0) mX12_isOfThem (PI Q) 0 0 0 [some (.ref 79), some (.int a1)] [] T I 0 0 := by
  unfold fX12_isOfThem_0 at h
  refine J.iload_n dX12_isOfThem_0 rfl rfl ?_
  refine J.if_lt (tgt := 18) dX12_isOfThem_1 (by decide) (fun hc1 => ?_) (fun hc1 => ?_)
  · have h := h.1 hc1
    refine J.iconst (v := 0) dX12_isOfThem_18 (by decide) ?_
    exact J.zretQ dX12_isOfThem_19 rfl (Or.inl rfl) (Nat.le_refl _) (Nat.le_refl _) h
  · have h := h.2 hc1
    refine J.iload_n dX12_isOfThem_4 rfl rfl ?_
    refine J.iconst (v := 1) dX12_isOfThem_5 (by decide) ?_
    refine J.aload_n dX12_isOfThem_6 rfl rfl ?_
    refine J.getI dX12_isOfThem_7 fX12_196 (hT.k 79 rfl) rfl ?_
    refine J.ishl dX12_isOfThem_10 ?_
    refine J.icmp_ge (tgt := 18) dX12_isOfThem_11 (by decide) (fun hc2 => ?_) (fun hc2 => ?_)
    · have h := h.1 hc2
      refine J.iconst (v := 0) dX12_isOfThem_18 (by decide) ?_
      exact J.zretQ dX12_isOfThem_19 rfl (Or.inl rfl) (Nat.le_refl _) (Nat.le_refl _) h
    · have h := h.2 hc2
      refine J.iconst (v := 1) dX12_isOfThem_14 (by decide) ?_
      refine J.goto (tgt := 19) dX12_isOfThem_15 (by decide) ?_
      exact J.zretQ dX12_isOfThem_19 rfl (Or.inr rfl) (Nat.le_refl _) (Nat.le_refl _) h
set_option maxHeartbeats 4000000 in
set_option maxRecDepth 100000 in
theorem wX12_isOfThem (d : Nat) {T : Topo} (hT : Lay T) (a1 : Int32)   {Q : Int32 → Topo → IM → Prop} {I : IM} (h : fX12_isOfThem_0 T a1 Q I) : Ct (d + 0) mX12_isOfThem [.ref 79, .int a1] T I 0 0 (PI Q) :=
  Ct.ofJ (by decide +kernel) rfl (by intro v hv; revert v hv; simp [Value.category]) rfl (sX12_isOfThem_0 d hT a1   I h)

def jX12_isOfThem (I : IM) (a1 : Int32) : Int32 := (if a1 < 0 then 0 else (if ((1 : Int32) <<< ((I 79 2) &&& 31)) ≤ a1 then 0 else 1))
set_option maxRecDepth 10000 in
theorem qX12_isOfThem (d : Nat) {T : Topo} {I : IM} (hT : Lay T) (a1 : Int32)   : CtP (d + 0) mX12_isOfThem [.ref 79, .int a1] T I ((jX12_isOfThem I a1)) :=
  wX12_isOfThem d hT a1   (by
  unfold fX12_isOfThem_0
  exact ⟨fun hc1 => ⟨by unfold jX12_isOfThem; rw [if_pos hc1], rfl, rfl⟩, fun hc1 => ⟨fun hc2 => ⟨by unfold jX12_isOfThem; rw [if_neg hc1, if_pos hc2], rfl, rfl⟩, fun hc2 => ⟨by unfold jX12_isOfThem; rw [if_neg hc1, if_neg hc2], rfl, rfl⟩⟩⟩)

def fX12_keeps_0 (T : Topo)  (Q : Topo → IM → Prop) (K2 : Int32 → IM → Prop) (I : IM) : Prop :=
  K2 0 I
def fX12_keeps_2 (T : Topo)  (Q : Topo → IM → Prop) (K2 : Int32 → IM → Prop) (v1 : Int32) (I : IM) : Prop :=
  (((8 ≤ v1) → Q T I) ∧ ((¬ 8 ≤ v1) → (vp_in v1 8 ∧ (vp_in v1 8 ∧ ((I 106 v1.toNatClampNeg) = 0 ∨ (I 106 v1.toNatClampNeg) = 1) ∧ (vp_in v1 8 ∧ (vp_in v1 8 ∧ (vp_in v1 8 ∧ (vp_in v1 8 ∧ (vp_in v1 8 ∧ (vp_in v1 8 ∧ (vp_in v1 8 ∧ (vp_in v1 8 ∧ (vp_in v1 8 ∧ (vp_in v1 8 ∧ K2 (v1 + 1) (up2 (up2 (up2 (up2 (up2 (up2 I 128 v1.toNatClampNeg (I 106 v1.toNatClampNeg)) 129 v1.toNatClampNeg (I 107 v1.toNatClampNeg)) 130 v1.toNatClampNeg (I 108 v1.toNatClampNeg)) 131 v1.toNatClampNeg (I 109 v1.toNatClampNeg)) 132 v1.toNatClampNeg (I 110 v1.toNatClampNeg)) 133 v1.toNatClampNeg (I 111 v1.toNatClampNeg))))))))))))))))
set_option maxHeartbeats 4000000 in
set_option maxRecDepth 100000 in
theorem sX12_keeps_0 (d : Nat) {T : Topo} (hT : Lay T)     {Q : Topo → IM → Prop} {K2 : Int32 → IM → Prop} (hK2 : ∀ (v1 : Int32) (I : IM), K2 v1 I → J (d + 0) mX12_keeps (PV Q) 0 0 2 [some (.ref 79), some (.int v1)] [] T I 0 0) (I : IM) (h : fX12_keeps_0 T  Q K2 I) : J (d + 0) mX12_keeps (PV Q) 0 0 0 [some (.ref 79), none] [] T I 0 0 := by
  unfold fX12_keeps_0 at h
  refine J.iconst (v := 0) dX12_keeps_0 (by decide) ?_
  refine J.istore_n (ls' := [some (.ref 79), some (.int 0)]) dX12_keeps_1 rfl rfl rfl ?_
  exact J.weaken (ls' := [some (.ref 79), some (.int 0)]) (And.intro rfl (And.intro rfl trivial)) (hK2 0 I h)
set_option maxHeartbeats 4000000 in
set_option maxRecDepth 100000 in
theorem sX12_keeps_2 (d : Nat) {T : Topo} (hT : Lay T)     {Q : Topo → IM → Prop} {K2 : Int32 → IM → Prop} (hK2 : ∀ (v1 : Int32) (I : IM), K2 v1 I → J (d + 0) mX12_keeps (PV Q) 0 0 2 [some (.ref 79), some (.int v1)] [] T I 0 0) (v1 : Int32) (I : IM) (h : fX12_keeps_2 T  Q K2 v1 I) : J (d + 0) mX12_keeps (PV Q) 0 0 2 [some (.ref 79), some (.int v1)] [] T I 0 0 := by
  unfold fX12_keeps_2 at h
  refine J.iload_n dX12_keeps_2 rfl rfl ?_
  refine J.bipush (v := 8) dX12_keeps_3 (by decide) ?_
  refine J.icmp_ge (tgt := 86) dX12_keeps_5 (by decide) (fun hc1 => ?_) (fun hc1 => ?_)
  · have h := h.1 hc1
    exact J.vretQ dX12_keeps_86 rfl (Nat.le_refl _) (Nat.le_refl _) h
  · have h := h.2 hc1
    refine J.aload_n dX12_keeps_8 rfl rfl ?_
    refine J.getR (r := 128) dX12_keeps_9 fX12_159 (hT.k 79 rfl) rfl (hT.r 79 59 rfl rfl) ?_
    refine J.iload_n dX12_keeps_12 rfl rfl ?_
    refine J.aload_n dX12_keeps_13 rfl rfl ?_
    refine J.getR (r := 106) dX12_keeps_14 fX12_93 (hT.k 79 rfl) rfl (hT.r 79 35 rfl rfl) ?_
    refine J.iload_n dX12_keeps_17 rfl rfl ?_
    obtain ⟨hs2, h⟩ := h
    refine J.bald dX12_keeps_18 (hT.k 106 rfl) (hT.l 106 rfl) hs2 ?_
    obtain ⟨hs3, h⟩ := h
    obtain ⟨hz4, h⟩ := h
    refine J.bast dX12_keeps_19 (hT.k 128 rfl) (hT.l 128 rfl) hs3 hz4 ?_
    refine J.aload_n dX12_keeps_20 rfl rfl ?_
    refine J.getR (r := 129) dX12_keeps_21 fX12_162 (hT.k 79 rfl) rfl (hT.r 79 60 rfl rfl) ?_
    refine J.iload_n dX12_keeps_24 rfl rfl ?_
    refine J.aload_n dX12_keeps_25 rfl rfl ?_
    refine J.getR (r := 107) dX12_keeps_26 fX12_96 (hT.k 79 rfl) rfl (hT.r 79 36 rfl rfl) ?_
    refine J.iload_n dX12_keeps_29 rfl rfl ?_
    obtain ⟨hs5, h⟩ := h
    refine J.iald dX12_keeps_30 (hT.k 107 rfl) (hT.l 107 rfl) hs5 ?_
    refine J.topEq (y := (I 107 v1.toNatClampNeg)) (up2_o _ _ _ _ (by decide)) ?_
    obtain ⟨hs6, h⟩ := h
    refine J.iast dX12_keeps_31 (hT.k 129 rfl) (hT.l 129 rfl) hs6 ?_
    refine J.aload_n dX12_keeps_32 rfl rfl ?_
    refine J.getR (r := 130) dX12_keeps_33 fX12_165 (hT.k 79 rfl) rfl (hT.r 79 61 rfl rfl) ?_
    refine J.iload_n dX12_keeps_36 rfl rfl ?_
    refine J.aload_n dX12_keeps_37 rfl rfl ?_
    refine J.getR (r := 108) dX12_keeps_38 fX12_99 (hT.k 79 rfl) rfl (hT.r 79 37 rfl rfl) ?_
    refine J.iload_n dX12_keeps_41 rfl rfl ?_
    obtain ⟨hs7, h⟩ := h
    refine J.iald dX12_keeps_42 (hT.k 108 rfl) (hT.l 108 rfl) hs7 ?_
    refine J.topEq (y := (I 108 v1.toNatClampNeg)) (Eq.trans (up2_o _ _ _ _ (by decide)) (up2_o _ _ _ _ (by decide))) ?_
    obtain ⟨hs8, h⟩ := h
    refine J.iast dX12_keeps_43 (hT.k 130 rfl) (hT.l 130 rfl) hs8 ?_
    refine J.aload_n dX12_keeps_44 rfl rfl ?_
    refine J.getR (r := 131) dX12_keeps_45 fX12_168 (hT.k 79 rfl) rfl (hT.r 79 62 rfl rfl) ?_
    refine J.iload_n dX12_keeps_48 rfl rfl ?_
    refine J.aload_n dX12_keeps_49 rfl rfl ?_
    refine J.getR (r := 109) dX12_keeps_50 fX12_102 (hT.k 79 rfl) rfl (hT.r 79 38 rfl rfl) ?_
    refine J.iload_n dX12_keeps_53 rfl rfl ?_
    obtain ⟨hs9, h⟩ := h
    refine J.iald dX12_keeps_54 (hT.k 109 rfl) (hT.l 109 rfl) hs9 ?_
    refine J.topEq (y := (I 109 v1.toNatClampNeg)) (Eq.trans (up2_o _ _ _ _ (by decide)) (Eq.trans (up2_o _ _ _ _ (by decide)) (up2_o _ _ _ _ (by decide)))) ?_
    obtain ⟨hs10, h⟩ := h
    refine J.iast dX12_keeps_55 (hT.k 131 rfl) (hT.l 131 rfl) hs10 ?_
    refine J.aload_n dX12_keeps_56 rfl rfl ?_
    refine J.getR (r := 132) dX12_keeps_57 fX12_171 (hT.k 79 rfl) rfl (hT.r 79 63 rfl rfl) ?_
    refine J.iload_n dX12_keeps_60 rfl rfl ?_
    refine J.aload_n dX12_keeps_61 rfl rfl ?_
    refine J.getR (r := 110) dX12_keeps_62 fX12_105 (hT.k 79 rfl) rfl (hT.r 79 39 rfl rfl) ?_
    refine J.iload_n dX12_keeps_65 rfl rfl ?_
    obtain ⟨hs11, h⟩ := h
    refine J.iald dX12_keeps_66 (hT.k 110 rfl) (hT.l 110 rfl) hs11 ?_
    refine J.topEq (y := (I 110 v1.toNatClampNeg)) (Eq.trans (up2_o _ _ _ _ (by decide)) (Eq.trans (up2_o _ _ _ _ (by decide)) (Eq.trans (up2_o _ _ _ _ (by decide)) (up2_o _ _ _ _ (by decide))))) ?_
    obtain ⟨hs12, h⟩ := h
    refine J.iast dX12_keeps_67 (hT.k 132 rfl) (hT.l 132 rfl) hs12 ?_
    refine J.aload_n dX12_keeps_68 rfl rfl ?_
    refine J.getR (r := 133) dX12_keeps_69 fX12_174 (hT.k 79 rfl) rfl (hT.r 79 64 rfl rfl) ?_
    refine J.iload_n dX12_keeps_72 rfl rfl ?_
    refine J.aload_n dX12_keeps_73 rfl rfl ?_
    refine J.getR (r := 111) dX12_keeps_74 fX12_108 (hT.k 79 rfl) rfl (hT.r 79 40 rfl rfl) ?_
    refine J.iload_n dX12_keeps_77 rfl rfl ?_
    obtain ⟨hs13, h⟩ := h
    refine J.iald dX12_keeps_78 (hT.k 111 rfl) (hT.l 111 rfl) hs13 ?_
    refine J.topEq (y := (I 111 v1.toNatClampNeg)) (Eq.trans (up2_o _ _ _ _ (by decide)) (Eq.trans (up2_o _ _ _ _ (by decide)) (Eq.trans (up2_o _ _ _ _ (by decide)) (Eq.trans (up2_o _ _ _ _ (by decide)) (up2_o _ _ _ _ (by decide)))))) ?_
    obtain ⟨hs14, h⟩ := h
    refine J.iast dX12_keeps_79 (hT.k 133 rfl) (hT.l 133 rfl) hs14 ?_
    refine J.iinc (v := (v1 + 1)) (ls' := [some (.ref 79), some (.int (v1 + 1))]) dX12_keeps_80 rfl (by rfl) rfl ?_
    refine J.goto (tgt := 2) dX12_keeps_83 (by decide) ?_
    exact J.weaken (ls' := [some (.ref 79), some (.int (v1 + 1))]) (And.intro rfl (And.intro rfl trivial)) (hK2 (v1 + 1) (up2 (up2 (up2 (up2 (up2 (up2 I 128 v1.toNatClampNeg (I 106 v1.toNatClampNeg)) 129 v1.toNatClampNeg (I 107 v1.toNatClampNeg)) 130 v1.toNatClampNeg (I 108 v1.toNatClampNeg)) 131 v1.toNatClampNeg (I 109 v1.toNatClampNeg)) 132 v1.toNatClampNeg (I 110 v1.toNatClampNeg)) 133 v1.toNatClampNeg (I 111 v1.toNatClampNeg)) h)
set_option maxHeartbeats 4000000 in
set_option maxRecDepth 100000 in
theorem wX12_keeps (d : Nat) {T : Topo} (hT : Lay T)    {Q : Topo → IM → Prop} (V2 : Int32 → IM → Prop) (μ2 : Int32 → IM → Nat) (vc2 : ∀ (v1 : Int32) (I : IM), V2 v1 I → fX12_keeps_2 T  Q (fun w1 I_ => V2 w1 I_ ∧ μ2 w1 I_ < μ2 v1 I) v1 I) {I : IM} (h : fX12_keeps_0 T  Q V2 I) : Ct (d + 0) mX12_keeps [.ref 79] T I 0 0 (PV Q) := by
  have all : ∀ n : Nat, (∀ (v1 : Int32) (I : IM), V2 v1 I → μ2 v1 I < n → J (d + 0) mX12_keeps (PV Q) 0 0 2 [some (.ref 79), some (.int v1)] [] T I 0 0) := by
    intro n
    induction n with
    | zero => exact fun _ _ _ hn => absurd hn (Nat.not_lt_zero _)
    | succ n ih =>
      exact fun v1 I hv hn => sX12_keeps_2 d hT    (fun w1 I_ hw => ih w1 I_ hw.1 (by have := hw.2; omega)) v1 I (vc2 v1 I hv)
  exact Ct.ofJ (by decide +kernel) rfl (by intro v hv; revert v hv; simp [Value.category]) rfl (sX12_keeps_0 d hT    (fun w1 I_ hw => (all (μ2 w1 I_ + 1)) w1 I_ hw (Nat.lt_succ_self _)) I h)

def jX12_keepsI  : Nat → Int32 → IM → IM
  | 0 => fun _ I => I
  | n + 1 => fun v1 I => (if 8 ≤ v1 then I else (jX12_keepsI  n (v1 + 1) (up2 (up2 (up2 (up2 (up2 (up2 I 128 v1.toNatClampNeg (I 106 v1.toNatClampNeg)) 129 v1.toNatClampNeg (I 107 v1.toNatClampNeg)) 130 v1.toNatClampNeg (I 108 v1.toNatClampNeg)) 131 v1.toNatClampNeg (I 109 v1.toNatClampNeg)) 132 v1.toNatClampNeg (I 110 v1.toNatClampNeg)) 133 v1.toNatClampNeg (I 111 v1.toNatClampNeg))))
def jX12_keepsO  : Nat → Int32 → IM → Prop
  | 0 => fun _ _ => False
  | n + 1 => fun v1 I => (((8 ≤ v1) → True) ∧ ((¬ 8 ≤ v1) → (vp_in v1 8 ∧ (vp_in v1 8 ∧ (((I 106 v1.toNatClampNeg) = 0 ∨ (I 106 v1.toNatClampNeg) = 1) ∧ (vp_in v1 8 ∧ (vp_in v1 8 ∧ (vp_in v1 8 ∧ (vp_in v1 8 ∧ (vp_in v1 8 ∧ (vp_in v1 8 ∧ (vp_in v1 8 ∧ (vp_in v1 8 ∧ (vp_in v1 8 ∧ (vp_in v1 8 ∧ (jX12_keepsO  n (v1 + 1) (up2 (up2 (up2 (up2 (up2 (up2 I 128 v1.toNatClampNeg (I 106 v1.toNatClampNeg)) 129 v1.toNatClampNeg (I 107 v1.toNatClampNeg)) 130 v1.toNatClampNeg (I 108 v1.toNatClampNeg)) 131 v1.toNatClampNeg (I 109 v1.toNatClampNeg)) 132 v1.toNatClampNeg (I 110 v1.toNatClampNeg)) 133 v1.toNatClampNeg (I 111 v1.toNatClampNeg))))))))))))))))))
theorem jX12_keepsI_2  (n : Nat) (v1 : Int32) (I : IM) : jX12_keepsI  (n + 1) v1 I = (if 8 ≤ v1 then I else (jX12_keepsI  n (v1 + 1) (up2 (up2 (up2 (up2 (up2 (up2 I 128 v1.toNatClampNeg (I 106 v1.toNatClampNeg)) 129 v1.toNatClampNeg (I 107 v1.toNatClampNeg)) 130 v1.toNatClampNeg (I 108 v1.toNatClampNeg)) 131 v1.toNatClampNeg (I 109 v1.toNatClampNeg)) 132 v1.toNatClampNeg (I 110 v1.toNatClampNeg)) 133 v1.toNatClampNeg (I 111 v1.toNatClampNeg)))) := rfl
theorem jX12_keepsO_2  (n : Nat) (v1 : Int32) (I : IM) : jX12_keepsO  (n + 1) v1 I = (((8 ≤ v1) → True) ∧ ((¬ 8 ≤ v1) → (vp_in v1 8 ∧ (vp_in v1 8 ∧ (((I 106 v1.toNatClampNeg) = 0 ∨ (I 106 v1.toNatClampNeg) = 1) ∧ (vp_in v1 8 ∧ (vp_in v1 8 ∧ (vp_in v1 8 ∧ (vp_in v1 8 ∧ (vp_in v1 8 ∧ (vp_in v1 8 ∧ (vp_in v1 8 ∧ (vp_in v1 8 ∧ (vp_in v1 8 ∧ (vp_in v1 8 ∧ (jX12_keepsO  n (v1 + 1) (up2 (up2 (up2 (up2 (up2 (up2 I 128 v1.toNatClampNeg (I 106 v1.toNatClampNeg)) 129 v1.toNatClampNeg (I 107 v1.toNatClampNeg)) 130 v1.toNatClampNeg (I 108 v1.toNatClampNeg)) 131 v1.toNatClampNeg (I 109 v1.toNatClampNeg)) 132 v1.toNatClampNeg (I 110 v1.toNatClampNeg)) 133 v1.toNatClampNeg (I 111 v1.toNatClampNeg)))))))))))))))))) := rfl
def jX12_keeps (I : IM)  : IM := (jX12_keepsI  FU 0 I)
def jX12_keepsK (I : IM)  : Prop := (jX12_keepsO  FU 0 I)
set_option maxRecDepth 10000 in
set_option maxHeartbeats 1000000 in
theorem uX12_keeps (d : Nat) {T : Topo} (hT : Lay T)    {R : IM} : ∀ n : Nat, (∀ (v1 : Int32) (I : IM), jX12_keepsO  n v1 I → jX12_keepsI  n v1 I = R → J (d + 0) mX12_keeps (PV (fun T' I' => T' = T ∧ I' = R)) 0 0 2 [some (.ref 79), some (.int v1)] [] T I 0 0) := by
  intro n
  induction n with
  | zero => exact fun _ _ hz => hz.elim
  | succ n ih =>
    exact fun v1 I hok hit => by
        rw [jX12_keepsO_2] at hok
        exact sX12_keeps_2 d hT    (K2 := fun w1 I_ => (jX12_keepsO  n w1 I_ ∧ jX12_keepsI  n w1 I_ = R)) (fun w1 I_ hw => ih w1 I_ hw.1 hw.2) v1 I (by
          unfold fX12_keeps_2
          exact ⟨fun hc1 => ⟨rfl, by rw [jX12_keepsI_2, if_pos hc1] at hit; exact hit⟩, fun hc1 => ⟨((hok).2 hc1).1, ⟨(((hok).2 hc1).2).1, ⟨((((hok).2 hc1).2).2).1, ⟨(((((hok).2 hc1).2).2).2).1, ⟨((((((hok).2 hc1).2).2).2).2).1, ⟨(((((((hok).2 hc1).2).2).2).2).2).1, ⟨((((((((hok).2 hc1).2).2).2).2).2).2).1, ⟨(((((((((hok).2 hc1).2).2).2).2).2).2).2).1, ⟨((((((((((hok).2 hc1).2).2).2).2).2).2).2).2).1, ⟨(((((((((((hok).2 hc1).2).2).2).2).2).2).2).2).2).1, ⟨((((((((((((hok).2 hc1).2).2).2).2).2).2).2).2).2).2).1, ⟨(((((((((((((hok).2 hc1).2).2).2).2).2).2).2).2).2).2).2).1, ⟨((((((((((((((hok).2 hc1).2).2).2).2).2).2).2).2).2).2).2).2).1, ⟨((((((((((((((hok).2 hc1).2).2).2).2).2).2).2).2).2).2).2).2).2, by rw [jX12_keepsI_2, if_neg hc1] at hit; exact hit⟩⟩⟩⟩⟩⟩⟩⟩⟩⟩⟩⟩⟩⟩⟩)
set_option maxRecDepth 10000 in
set_option maxHeartbeats 1000000 in
theorem qX12_keeps (d : Nat) {T : Topo} {I : IM} (hT : Lay T)   (hp : (jX12_keepsK I)) : CtV (d + 0) mX12_keeps [.ref 79] T I (fun J_ => J_ = (jX12_keeps I)) := by
  unfold jX12_keepsK at hp
  exact Ct.ofJ (by decide +kernel) rfl (by intro v hv; revert v hv; simp [Value.category]) rfl (sX12_keeps_0 d hT    (K2 := fun w1 I_ => (jX12_keepsO  FU w1 I_ ∧ jX12_keepsI  FU w1 I_ = (jX12_keeps I ))) (fun w1 I_ hw => uX12_keeps d hT    FU w1 I_ hw.1 hw.2) I (by
    unfold fX12_keeps_0
    exact ⟨hp, rfl⟩))

def fX12_backTo_0 (T : Topo)  (Q : Topo → IM → Prop) (K2 : Int32 → IM → Prop) (I : IM) : Prop :=
  K2 0 I
def fX12_backTo_2 (T : Topo)  (Q : Topo → IM → Prop) (K2 : Int32 → IM → Prop) (v1 : Int32) (I : IM) : Prop :=
  (((8 ≤ v1) → Q T I) ∧ ((¬ 8 ≤ v1) → (vp_in v1 8 ∧ (vp_in v1 8 ∧ ((I 128 v1.toNatClampNeg) = 0 ∨ (I 128 v1.toNatClampNeg) = 1) ∧ (vp_in v1 8 ∧ (vp_in v1 8 ∧ (vp_in v1 8 ∧ (vp_in v1 8 ∧ (vp_in v1 8 ∧ (vp_in v1 8 ∧ (vp_in v1 8 ∧ (vp_in v1 8 ∧ (vp_in v1 8 ∧ (vp_in v1 8 ∧ K2 (v1 + 1) (up2 (up2 (up2 (up2 (up2 (up2 I 106 v1.toNatClampNeg (I 128 v1.toNatClampNeg)) 107 v1.toNatClampNeg (I 129 v1.toNatClampNeg)) 108 v1.toNatClampNeg (I 130 v1.toNatClampNeg)) 109 v1.toNatClampNeg (I 131 v1.toNatClampNeg)) 110 v1.toNatClampNeg (I 132 v1.toNatClampNeg)) 111 v1.toNatClampNeg (I 133 v1.toNatClampNeg))))))))))))))))
set_option maxHeartbeats 4000000 in
set_option maxRecDepth 100000 in
theorem sX12_backTo_0 (d : Nat) {T : Topo} (hT : Lay T)     {Q : Topo → IM → Prop} {K2 : Int32 → IM → Prop} (hK2 : ∀ (v1 : Int32) (I : IM), K2 v1 I → J (d + 0) mX12_backTo (PV Q) 0 0 2 [some (.ref 79), some (.int v1)] [] T I 0 0) (I : IM) (h : fX12_backTo_0 T  Q K2 I) : J (d + 0) mX12_backTo (PV Q) 0 0 0 [some (.ref 79), none] [] T I 0 0 := by
  unfold fX12_backTo_0 at h
  refine J.iconst (v := 0) dX12_backTo_0 (by decide) ?_
  refine J.istore_n (ls' := [some (.ref 79), some (.int 0)]) dX12_backTo_1 rfl rfl rfl ?_
  exact J.weaken (ls' := [some (.ref 79), some (.int 0)]) (And.intro rfl (And.intro rfl trivial)) (hK2 0 I h)
set_option maxHeartbeats 4000000 in
set_option maxRecDepth 100000 in
theorem sX12_backTo_2 (d : Nat) {T : Topo} (hT : Lay T)     {Q : Topo → IM → Prop} {K2 : Int32 → IM → Prop} (hK2 : ∀ (v1 : Int32) (I : IM), K2 v1 I → J (d + 0) mX12_backTo (PV Q) 0 0 2 [some (.ref 79), some (.int v1)] [] T I 0 0) (v1 : Int32) (I : IM) (h : fX12_backTo_2 T  Q K2 v1 I) : J (d + 0) mX12_backTo (PV Q) 0 0 2 [some (.ref 79), some (.int v1)] [] T I 0 0 := by
  unfold fX12_backTo_2 at h
  refine J.iload_n dX12_backTo_2 rfl rfl ?_
  refine J.bipush (v := 8) dX12_backTo_3 (by decide) ?_
  refine J.icmp_ge (tgt := 86) dX12_backTo_5 (by decide) (fun hc1 => ?_) (fun hc1 => ?_)
  · have h := h.1 hc1
    exact J.vretQ dX12_backTo_86 rfl (Nat.le_refl _) (Nat.le_refl _) h
  · have h := h.2 hc1
    refine J.aload_n dX12_backTo_8 rfl rfl ?_
    refine J.getR (r := 106) dX12_backTo_9 fX12_93 (hT.k 79 rfl) rfl (hT.r 79 35 rfl rfl) ?_
    refine J.iload_n dX12_backTo_12 rfl rfl ?_
    refine J.aload_n dX12_backTo_13 rfl rfl ?_
    refine J.getR (r := 128) dX12_backTo_14 fX12_159 (hT.k 79 rfl) rfl (hT.r 79 59 rfl rfl) ?_
    refine J.iload_n dX12_backTo_17 rfl rfl ?_
    obtain ⟨hs2, h⟩ := h
    refine J.bald dX12_backTo_18 (hT.k 128 rfl) (hT.l 128 rfl) hs2 ?_
    obtain ⟨hs3, h⟩ := h
    obtain ⟨hz4, h⟩ := h
    refine J.bast dX12_backTo_19 (hT.k 106 rfl) (hT.l 106 rfl) hs3 hz4 ?_
    refine J.aload_n dX12_backTo_20 rfl rfl ?_
    refine J.getR (r := 107) dX12_backTo_21 fX12_96 (hT.k 79 rfl) rfl (hT.r 79 36 rfl rfl) ?_
    refine J.iload_n dX12_backTo_24 rfl rfl ?_
    refine J.aload_n dX12_backTo_25 rfl rfl ?_
    refine J.getR (r := 129) dX12_backTo_26 fX12_162 (hT.k 79 rfl) rfl (hT.r 79 60 rfl rfl) ?_
    refine J.iload_n dX12_backTo_29 rfl rfl ?_
    obtain ⟨hs5, h⟩ := h
    refine J.iald dX12_backTo_30 (hT.k 129 rfl) (hT.l 129 rfl) hs5 ?_
    refine J.topEq (y := (I 129 v1.toNatClampNeg)) (up2_o _ _ _ _ (by decide)) ?_
    obtain ⟨hs6, h⟩ := h
    refine J.iast dX12_backTo_31 (hT.k 107 rfl) (hT.l 107 rfl) hs6 ?_
    refine J.aload_n dX12_backTo_32 rfl rfl ?_
    refine J.getR (r := 108) dX12_backTo_33 fX12_99 (hT.k 79 rfl) rfl (hT.r 79 37 rfl rfl) ?_
    refine J.iload_n dX12_backTo_36 rfl rfl ?_
    refine J.aload_n dX12_backTo_37 rfl rfl ?_
    refine J.getR (r := 130) dX12_backTo_38 fX12_165 (hT.k 79 rfl) rfl (hT.r 79 61 rfl rfl) ?_
    refine J.iload_n dX12_backTo_41 rfl rfl ?_
    obtain ⟨hs7, h⟩ := h
    refine J.iald dX12_backTo_42 (hT.k 130 rfl) (hT.l 130 rfl) hs7 ?_
    refine J.topEq (y := (I 130 v1.toNatClampNeg)) (Eq.trans (up2_o _ _ _ _ (by decide)) (up2_o _ _ _ _ (by decide))) ?_
    obtain ⟨hs8, h⟩ := h
    refine J.iast dX12_backTo_43 (hT.k 108 rfl) (hT.l 108 rfl) hs8 ?_
    refine J.aload_n dX12_backTo_44 rfl rfl ?_
    refine J.getR (r := 109) dX12_backTo_45 fX12_102 (hT.k 79 rfl) rfl (hT.r 79 38 rfl rfl) ?_
    refine J.iload_n dX12_backTo_48 rfl rfl ?_
    refine J.aload_n dX12_backTo_49 rfl rfl ?_
    refine J.getR (r := 131) dX12_backTo_50 fX12_168 (hT.k 79 rfl) rfl (hT.r 79 62 rfl rfl) ?_
    refine J.iload_n dX12_backTo_53 rfl rfl ?_
    obtain ⟨hs9, h⟩ := h
    refine J.iald dX12_backTo_54 (hT.k 131 rfl) (hT.l 131 rfl) hs9 ?_
    refine J.topEq (y := (I 131 v1.toNatClampNeg)) (Eq.trans (up2_o _ _ _ _ (by decide)) (Eq.trans (up2_o _ _ _ _ (by decide)) (up2_o _ _ _ _ (by decide)))) ?_
    obtain ⟨hs10, h⟩ := h
    refine J.iast dX12_backTo_55 (hT.k 109 rfl) (hT.l 109 rfl) hs10 ?_
    refine J.aload_n dX12_backTo_56 rfl rfl ?_
    refine J.getR (r := 110) dX12_backTo_57 fX12_105 (hT.k 79 rfl) rfl (hT.r 79 39 rfl rfl) ?_
    refine J.iload_n dX12_backTo_60 rfl rfl ?_
    refine J.aload_n dX12_backTo_61 rfl rfl ?_
    refine J.getR (r := 132) dX12_backTo_62 fX12_171 (hT.k 79 rfl) rfl (hT.r 79 63 rfl rfl) ?_
    refine J.iload_n dX12_backTo_65 rfl rfl ?_
    obtain ⟨hs11, h⟩ := h
    refine J.iald dX12_backTo_66 (hT.k 132 rfl) (hT.l 132 rfl) hs11 ?_
    refine J.topEq (y := (I 132 v1.toNatClampNeg)) (Eq.trans (up2_o _ _ _ _ (by decide)) (Eq.trans (up2_o _ _ _ _ (by decide)) (Eq.trans (up2_o _ _ _ _ (by decide)) (up2_o _ _ _ _ (by decide))))) ?_
    obtain ⟨hs12, h⟩ := h
    refine J.iast dX12_backTo_67 (hT.k 110 rfl) (hT.l 110 rfl) hs12 ?_
    refine J.aload_n dX12_backTo_68 rfl rfl ?_
    refine J.getR (r := 111) dX12_backTo_69 fX12_108 (hT.k 79 rfl) rfl (hT.r 79 40 rfl rfl) ?_
    refine J.iload_n dX12_backTo_72 rfl rfl ?_
    refine J.aload_n dX12_backTo_73 rfl rfl ?_
    refine J.getR (r := 133) dX12_backTo_74 fX12_174 (hT.k 79 rfl) rfl (hT.r 79 64 rfl rfl) ?_
    refine J.iload_n dX12_backTo_77 rfl rfl ?_
    obtain ⟨hs13, h⟩ := h
    refine J.iald dX12_backTo_78 (hT.k 133 rfl) (hT.l 133 rfl) hs13 ?_
    refine J.topEq (y := (I 133 v1.toNatClampNeg)) (Eq.trans (up2_o _ _ _ _ (by decide)) (Eq.trans (up2_o _ _ _ _ (by decide)) (Eq.trans (up2_o _ _ _ _ (by decide)) (Eq.trans (up2_o _ _ _ _ (by decide)) (up2_o _ _ _ _ (by decide)))))) ?_
    obtain ⟨hs14, h⟩ := h
    refine J.iast dX12_backTo_79 (hT.k 111 rfl) (hT.l 111 rfl) hs14 ?_
    refine J.iinc (v := (v1 + 1)) (ls' := [some (.ref 79), some (.int (v1 + 1))]) dX12_backTo_80 rfl (by rfl) rfl ?_
    refine J.goto (tgt := 2) dX12_backTo_83 (by decide) ?_
    exact J.weaken (ls' := [some (.ref 79), some (.int (v1 + 1))]) (And.intro rfl (And.intro rfl trivial)) (hK2 (v1 + 1) (up2 (up2 (up2 (up2 (up2 (up2 I 106 v1.toNatClampNeg (I 128 v1.toNatClampNeg)) 107 v1.toNatClampNeg (I 129 v1.toNatClampNeg)) 108 v1.toNatClampNeg (I 130 v1.toNatClampNeg)) 109 v1.toNatClampNeg (I 131 v1.toNatClampNeg)) 110 v1.toNatClampNeg (I 132 v1.toNatClampNeg)) 111 v1.toNatClampNeg (I 133 v1.toNatClampNeg)) h)
set_option maxHeartbeats 4000000 in
set_option maxRecDepth 100000 in
theorem wX12_backTo (d : Nat) {T : Topo} (hT : Lay T)    {Q : Topo → IM → Prop} (V2 : Int32 → IM → Prop) (μ2 : Int32 → IM → Nat) (vc2 : ∀ (v1 : Int32) (I : IM), V2 v1 I → fX12_backTo_2 T  Q (fun w1 I_ => V2 w1 I_ ∧ μ2 w1 I_ < μ2 v1 I) v1 I) {I : IM} (h : fX12_backTo_0 T  Q V2 I) : Ct (d + 0) mX12_backTo [.ref 79] T I 0 0 (PV Q) := by
  have all : ∀ n : Nat, (∀ (v1 : Int32) (I : IM), V2 v1 I → μ2 v1 I < n → J (d + 0) mX12_backTo (PV Q) 0 0 2 [some (.ref 79), some (.int v1)] [] T I 0 0) := by
    intro n
    induction n with
    | zero => exact fun _ _ _ hn => absurd hn (Nat.not_lt_zero _)
    | succ n ih =>
      exact fun v1 I hv hn => sX12_backTo_2 d hT    (fun w1 I_ hw => ih w1 I_ hw.1 (by have := hw.2; omega)) v1 I (vc2 v1 I hv)
  exact Ct.ofJ (by decide +kernel) rfl (by intro v hv; revert v hv; simp [Value.category]) rfl (sX12_backTo_0 d hT    (fun w1 I_ hw => (all (μ2 w1 I_ + 1)) w1 I_ hw (Nat.lt_succ_self _)) I h)

def jX12_backToI  : Nat → Int32 → IM → IM
  | 0 => fun _ I => I
  | n + 1 => fun v1 I => (if 8 ≤ v1 then I else (jX12_backToI  n (v1 + 1) (up2 (up2 (up2 (up2 (up2 (up2 I 106 v1.toNatClampNeg (I 128 v1.toNatClampNeg)) 107 v1.toNatClampNeg (I 129 v1.toNatClampNeg)) 108 v1.toNatClampNeg (I 130 v1.toNatClampNeg)) 109 v1.toNatClampNeg (I 131 v1.toNatClampNeg)) 110 v1.toNatClampNeg (I 132 v1.toNatClampNeg)) 111 v1.toNatClampNeg (I 133 v1.toNatClampNeg))))
def jX12_backToO  : Nat → Int32 → IM → Prop
  | 0 => fun _ _ => False
  | n + 1 => fun v1 I => (((8 ≤ v1) → True) ∧ ((¬ 8 ≤ v1) → (vp_in v1 8 ∧ (vp_in v1 8 ∧ (((I 128 v1.toNatClampNeg) = 0 ∨ (I 128 v1.toNatClampNeg) = 1) ∧ (vp_in v1 8 ∧ (vp_in v1 8 ∧ (vp_in v1 8 ∧ (vp_in v1 8 ∧ (vp_in v1 8 ∧ (vp_in v1 8 ∧ (vp_in v1 8 ∧ (vp_in v1 8 ∧ (vp_in v1 8 ∧ (vp_in v1 8 ∧ (jX12_backToO  n (v1 + 1) (up2 (up2 (up2 (up2 (up2 (up2 I 106 v1.toNatClampNeg (I 128 v1.toNatClampNeg)) 107 v1.toNatClampNeg (I 129 v1.toNatClampNeg)) 108 v1.toNatClampNeg (I 130 v1.toNatClampNeg)) 109 v1.toNatClampNeg (I 131 v1.toNatClampNeg)) 110 v1.toNatClampNeg (I 132 v1.toNatClampNeg)) 111 v1.toNatClampNeg (I 133 v1.toNatClampNeg))))))))))))))))))
theorem jX12_backToI_2  (n : Nat) (v1 : Int32) (I : IM) : jX12_backToI  (n + 1) v1 I = (if 8 ≤ v1 then I else (jX12_backToI  n (v1 + 1) (up2 (up2 (up2 (up2 (up2 (up2 I 106 v1.toNatClampNeg (I 128 v1.toNatClampNeg)) 107 v1.toNatClampNeg (I 129 v1.toNatClampNeg)) 108 v1.toNatClampNeg (I 130 v1.toNatClampNeg)) 109 v1.toNatClampNeg (I 131 v1.toNatClampNeg)) 110 v1.toNatClampNeg (I 132 v1.toNatClampNeg)) 111 v1.toNatClampNeg (I 133 v1.toNatClampNeg)))) := rfl
theorem jX12_backToO_2  (n : Nat) (v1 : Int32) (I : IM) : jX12_backToO  (n + 1) v1 I = (((8 ≤ v1) → True) ∧ ((¬ 8 ≤ v1) → (vp_in v1 8 ∧ (vp_in v1 8 ∧ (((I 128 v1.toNatClampNeg) = 0 ∨ (I 128 v1.toNatClampNeg) = 1) ∧ (vp_in v1 8 ∧ (vp_in v1 8 ∧ (vp_in v1 8 ∧ (vp_in v1 8 ∧ (vp_in v1 8 ∧ (vp_in v1 8 ∧ (vp_in v1 8 ∧ (vp_in v1 8 ∧ (vp_in v1 8 ∧ (vp_in v1 8 ∧ (jX12_backToO  n (v1 + 1) (up2 (up2 (up2 (up2 (up2 (up2 I 106 v1.toNatClampNeg (I 128 v1.toNatClampNeg)) 107 v1.toNatClampNeg (I 129 v1.toNatClampNeg)) 108 v1.toNatClampNeg (I 130 v1.toNatClampNeg)) 109 v1.toNatClampNeg (I 131 v1.toNatClampNeg)) 110 v1.toNatClampNeg (I 132 v1.toNatClampNeg)) 111 v1.toNatClampNeg (I 133 v1.toNatClampNeg)))))))))))))))))) := rfl
def jX12_backTo (I : IM)  : IM := (jX12_backToI  FU 0 I)
def jX12_backToK (I : IM)  : Prop := (jX12_backToO  FU 0 I)
set_option maxRecDepth 10000 in
set_option maxHeartbeats 1000000 in
theorem uX12_backTo (d : Nat) {T : Topo} (hT : Lay T)    {R : IM} : ∀ n : Nat, (∀ (v1 : Int32) (I : IM), jX12_backToO  n v1 I → jX12_backToI  n v1 I = R → J (d + 0) mX12_backTo (PV (fun T' I' => T' = T ∧ I' = R)) 0 0 2 [some (.ref 79), some (.int v1)] [] T I 0 0) := by
  intro n
  induction n with
  | zero => exact fun _ _ hz => hz.elim
  | succ n ih =>
    exact fun v1 I hok hit => by
        rw [jX12_backToO_2] at hok
        exact sX12_backTo_2 d hT    (K2 := fun w1 I_ => (jX12_backToO  n w1 I_ ∧ jX12_backToI  n w1 I_ = R)) (fun w1 I_ hw => ih w1 I_ hw.1 hw.2) v1 I (by
          unfold fX12_backTo_2
          exact ⟨fun hc1 => ⟨rfl, by rw [jX12_backToI_2, if_pos hc1] at hit; exact hit⟩, fun hc1 => ⟨((hok).2 hc1).1, ⟨(((hok).2 hc1).2).1, ⟨((((hok).2 hc1).2).2).1, ⟨(((((hok).2 hc1).2).2).2).1, ⟨((((((hok).2 hc1).2).2).2).2).1, ⟨(((((((hok).2 hc1).2).2).2).2).2).1, ⟨((((((((hok).2 hc1).2).2).2).2).2).2).1, ⟨(((((((((hok).2 hc1).2).2).2).2).2).2).2).1, ⟨((((((((((hok).2 hc1).2).2).2).2).2).2).2).2).1, ⟨(((((((((((hok).2 hc1).2).2).2).2).2).2).2).2).2).1, ⟨((((((((((((hok).2 hc1).2).2).2).2).2).2).2).2).2).2).1, ⟨(((((((((((((hok).2 hc1).2).2).2).2).2).2).2).2).2).2).2).1, ⟨((((((((((((((hok).2 hc1).2).2).2).2).2).2).2).2).2).2).2).2).1, ⟨((((((((((((((hok).2 hc1).2).2).2).2).2).2).2).2).2).2).2).2).2, by rw [jX12_backToI_2, if_neg hc1] at hit; exact hit⟩⟩⟩⟩⟩⟩⟩⟩⟩⟩⟩⟩⟩⟩⟩)
set_option maxRecDepth 10000 in
set_option maxHeartbeats 1000000 in
theorem qX12_backTo (d : Nat) {T : Topo} {I : IM} (hT : Lay T)   (hp : (jX12_backToK I)) : CtV (d + 0) mX12_backTo [.ref 79] T I (fun J_ => J_ = (jX12_backTo I)) := by
  unfold jX12_backToK at hp
  exact Ct.ofJ (by decide +kernel) rfl (by intro v hv; revert v hv; simp [Value.category]) rfl (sX12_backTo_0 d hT    (K2 := fun w1 I_ => (jX12_backToO  FU w1 I_ ∧ jX12_backToI  FU w1 I_ = (jX12_backTo I ))) (fun w1 I_ hw => uX12_backTo d hT    FU w1 I_ hw.1 hw.2) I (by
    unfold fX12_backTo_0
    exact ⟨hp, rfl⟩))

def fX12_after_0 (T : Topo) (a1 : Int32) (a2 : Int32) (Q : Int32 → Topo → IM → Prop) (K4 : Int32 → IM → Prop) (I : IM) : Prop :=
  K4 (a2 + 1) I
def fX12_after_4 (T : Topo) (a1 : Int32) (a2 : Int32) (Q : Int32 → Topo → IM → Prop) (K4 : Int32 → IM → Prop) (v3 : Int32) (I : IM) : Prop :=
  ((((I 79 2) ≤ v3) → Q v3 T I) ∧ ((¬ (I 79 2) ≤ v3) → ((((hs a1 v3) → Q v3 T I) ∧ ((¬ (hs a1 v3)) → K4 (v3 + 1) I)))))
set_option maxHeartbeats 4000000 in
set_option maxRecDepth 100000 in
theorem sX12_after_0 (d : Nat) {T : Topo} (hT : Lay T) (a1 : Int32) (a2 : Int32)    {Q : Int32 → Topo → IM → Prop} {K4 : Int32 → IM → Prop} (hK4 : ∀ (v3 : Int32) (I : IM), K4 v3 I → J (d + 1) mX12_after (PI Q) 0 0 4 [some (.ref 79), some (.int a1), none, some (.int v3)] [] T I 0 0) (I : IM) (h : fX12_after_0 T a1 a2 Q K4 I) : J (d + 1) mX12_after (PI Q) 0 0 0 [some (.ref 79), some (.int a1), some (.int a2), none] [] T I 0 0 := by
  unfold fX12_after_0 at h
  refine J.iload_n dX12_after_0 rfl rfl ?_
  refine J.iconst (v := 1) dX12_after_1 (by decide) ?_
  refine J.iadd dX12_after_2 ?_
  refine J.istore_n (ls' := [some (.ref 79), some (.int a1), some (.int a2), some (.int (a2 + 1))]) dX12_after_3 rfl rfl rfl ?_
  exact J.weaken (ls' := [some (.ref 79), some (.int a1), none, some (.int (a2 + 1))]) (And.intro rfl (And.intro rfl (And.intro rfl trivial))) (hK4 (a2 + 1) I h)
set_option maxHeartbeats 4000000 in
set_option maxRecDepth 100000 in
theorem sX12_after_4 (d : Nat) {T : Topo} (hT : Lay T) (a1 : Int32) (a2 : Int32)    {Q : Int32 → Topo → IM → Prop} {K4 : Int32 → IM → Prop} (hK4 : ∀ (v3 : Int32) (I : IM), K4 v3 I → J (d + 1) mX12_after (PI Q) 0 0 4 [some (.ref 79), some (.int a1), none, some (.int v3)] [] T I 0 0) (v3 : Int32) (I : IM) (h : fX12_after_4 T a1 a2 Q K4 v3 I) : J (d + 1) mX12_after (PI Q) 0 0 4 [some (.ref 79), some (.int a1), none, some (.int v3)] [] T I 0 0 := by
  unfold fX12_after_4 at h
  refine J.iload_n dX12_after_4 rfl rfl ?_
  refine J.aload_n dX12_after_5 rfl rfl ?_
  refine J.getI dX12_after_6 fX12_196 (hT.k 79 rfl) rfl ?_
  refine J.icmp_ge (tgt := 26) dX12_after_9 (by decide) (fun hc1 => ?_) (fun hc1 => ?_)
  · have h := h.1 hc1
    refine J.iload_n dX12_after_26 rfl rfl ?_
    exact J.iretQ dX12_after_27 rfl (Nat.le_refl _) (Nat.le_refl _) h
  · have h := h.2 hc1
    refine J.iload_n dX12_after_12 rfl rfl ?_
    refine J.iload_n dX12_after_13 rfl rfl ?_
    refine J.callSP (as := [.int a1, .int v3]) (rest := []) dX12_after_14 kX12_has vX12_has lX12_212 rfl rfl rfl (by omega) (Nat.le_refl _) (Nat.le_refl _) (qX12_has (d + 0) hT a1 v3 ) ?_
    refine J.bz_ne (tgt := 26) dX12_after_17 (by decide) (fun hc2 => ?_) (fun hc2 => ?_)
    · have h := h.1 hc2
      refine J.iload_n dX12_after_26 rfl rfl ?_
      exact J.iretQ dX12_after_27 rfl (Nat.le_refl _) (Nat.le_refl _) h
    · have h := h.2 hc2
      refine J.iinc (v := (v3 + 1)) (ls' := [some (.ref 79), some (.int a1), none, some (.int (v3 + 1))]) dX12_after_20 rfl (by rfl) rfl ?_
      refine J.goto (tgt := 4) dX12_after_23 (by decide) ?_
      exact J.weaken (ls' := [some (.ref 79), some (.int a1), none, some (.int (v3 + 1))]) (And.intro rfl (And.intro rfl (And.intro rfl trivial))) (hK4 (v3 + 1) I h)
set_option maxHeartbeats 4000000 in
set_option maxRecDepth 100000 in
theorem wX12_after (d : Nat) {T : Topo} (hT : Lay T) (a1 : Int32) (a2 : Int32)   {Q : Int32 → Topo → IM → Prop} (V4 : Int32 → IM → Prop) (μ4 : Int32 → IM → Nat) (vc4 : ∀ (v3 : Int32) (I : IM), V4 v3 I → fX12_after_4 T a1 a2 Q (fun w3 I_ => V4 w3 I_ ∧ μ4 w3 I_ < μ4 v3 I) v3 I) {I : IM} (h : fX12_after_0 T a1 a2 Q V4 I) : Ct (d + 1) mX12_after [.ref 79, .int a1, .int a2] T I 0 0 (PI Q) := by
  have all : ∀ n : Nat, (∀ (v3 : Int32) (I : IM), V4 v3 I → μ4 v3 I < n → J (d + 1) mX12_after (PI Q) 0 0 4 [some (.ref 79), some (.int a1), none, some (.int v3)] [] T I 0 0) := by
    intro n
    induction n with
    | zero => exact fun _ _ _ hn => absurd hn (Nat.not_lt_zero _)
    | succ n ih =>
      exact fun v3 I hv hn => sX12_after_4 d hT a1 a2   (fun w3 I_ hw => ih w3 I_ hw.1 (by have := hw.2; omega)) v3 I (vc4 v3 I hv)
  exact Ct.ofJ (by decide +kernel) rfl (by intro v hv; revert v hv; simp [Value.category]) rfl (sX12_after_0 d hT a1 a2   (fun w3 I_ hw => (all (μ4 w3 I_ + 1)) w3 I_ hw (Nat.lt_succ_self _)) I h)

def jX12_afterI (a1 : Int32) (a2 : Int32) : Nat → Int32 → IM → Int32
  | 0 => fun _ I => 0
  | n + 1 => fun v3 I => (if (I 79 2) ≤ v3 then v3 else (if hs a1 v3 then v3 else (jX12_afterI a1 a2 n (v3 + 1) I)))
def jX12_afterO (a1 : Int32) (a2 : Int32) : Nat → Int32 → IM → Prop
  | 0 => fun _ _ => False
  | n + 1 => fun v3 I => ((((I 79 2) ≤ v3) → True) ∧ ((¬ (I 79 2) ≤ v3) → (((hs a1 v3) → True) ∧ ((¬ (hs a1 v3)) → (jX12_afterO a1 a2 n (v3 + 1) I)))))
theorem jX12_afterI_4 (a1 : Int32) (a2 : Int32) (n : Nat) (v3 : Int32) (I : IM) : jX12_afterI a1 a2 (n + 1) v3 I = (if (I 79 2) ≤ v3 then v3 else (if hs a1 v3 then v3 else (jX12_afterI a1 a2 n (v3 + 1) I))) := rfl
theorem jX12_afterO_4 (a1 : Int32) (a2 : Int32) (n : Nat) (v3 : Int32) (I : IM) : jX12_afterO a1 a2 (n + 1) v3 I = ((((I 79 2) ≤ v3) → True) ∧ ((¬ (I 79 2) ≤ v3) → (((hs a1 v3) → True) ∧ ((¬ (hs a1 v3)) → (jX12_afterO a1 a2 n (v3 + 1) I))))) := rfl
def jX12_after (I : IM) (a1 : Int32) (a2 : Int32) : Int32 := (jX12_afterI a1 a2 FU (a2 + 1) I)
def jX12_afterK (I : IM) (a1 : Int32) (a2 : Int32) : Prop := (jX12_afterO a1 a2 FU (a2 + 1) I)
set_option maxRecDepth 10000 in
set_option maxHeartbeats 1000000 in
theorem uX12_after (d : Nat) {T : Topo} (hT : Lay T) (a1 : Int32) (a2 : Int32)   {R : Int32} {I00 : IM} : ∀ n : Nat, (∀ (v3 : Int32) (I : IM), I = I00 → jX12_afterO a1 a2 n v3 I → jX12_afterI a1 a2 n v3 I = R → J (d + 1) mX12_after (PI (fun x T' I' => x = R ∧ T' = T ∧ I' = I00)) 0 0 4 [some (.ref 79), some (.int a1), none, some (.int v3)] [] T I 0 0) := by
  intro n
  induction n with
  | zero => exact fun _ _ _ hz => hz.elim
  | succ n ih =>
    exact fun v3 I hI hok hit => by
        rw [jX12_afterO_4] at hok
        exact sX12_after_4 d hT a1 a2   (K4 := fun w3 I_ => (jX12_afterO a1 a2 n w3 I_ ∧ jX12_afterI a1 a2 n w3 I_ = R) ∧ I_ = I00) (fun w3 I_ hw => ih w3 I_ hw.2 hw.1.1 hw.1.2) v3 I (by
          unfold fX12_after_4
          exact ⟨fun hc1 => ⟨by rw [jX12_afterI_4, if_pos hc1] at hit; exact hit, rfl, hI⟩, fun hc1 => ⟨fun hc2 => ⟨by rw [jX12_afterI_4, if_neg hc1, if_pos hc2] at hit; exact hit, rfl, hI⟩, fun hc2 => ⟨⟨((hok).2 hc1).2 hc2, by rw [jX12_afterI_4, if_neg hc1, if_neg hc2] at hit; exact hit⟩, hI⟩⟩⟩)
set_option maxRecDepth 10000 in
set_option maxHeartbeats 1000000 in
theorem qX12_after (d : Nat) {T : Topo} {I : IM} (hT : Lay T) (a1 : Int32) (a2 : Int32)  (hp : (jX12_afterK I a1 a2)) : CtP (d + 1) mX12_after [.ref 79, .int a1, .int a2] T I (jX12_after I a1 a2) := by
  unfold jX12_afterK at hp
  exact Ct.ofJ (by decide +kernel) rfl (by intro v hv; revert v hv; simp [Value.category]) rfl (sX12_after_0 d hT a1 a2   (K4 := fun w3 I_ => (jX12_afterO a1 a2 FU w3 I_ ∧ jX12_afterI a1 a2 FU w3 I_ = (jX12_after I a1 a2)) ∧ I_ = I) (fun w3 I_ hw => uX12_after d hT a1 a2   FU w3 I_ hw.2 hw.1.1 hw.1.2) I (by
    unfold fX12_after_0
    exact ⟨⟨hp, rfl⟩, rfl⟩))

def fX12_before_0 (T : Topo) (a1 : Int32) (a2 : Int32) (Q : Int32 → Topo → IM → Prop) (K4 : Int32 → IM → Prop) (I : IM) : Prop :=
  K4 (a2 - 1) I
def fX12_before_4 (T : Topo) (a1 : Int32) (a2 : Int32) (Q : Int32 → Topo → IM → Prop) (K4 : Int32 → IM → Prop) (v3 : Int32) (I : IM) : Prop :=
  (((v3 < 0) → Q v3 T I) ∧ ((¬ v3 < 0) → ((((hs a1 v3) → Q v3 T I) ∧ ((¬ (hs a1 v3)) → K4 (v3 + (-1)) I)))))
set_option maxHeartbeats 4000000 in
set_option maxRecDepth 100000 in
theorem sX12_before_0 (d : Nat) {T : Topo} (hT : Lay T) (a1 : Int32) (a2 : Int32)    {Q : Int32 → Topo → IM → Prop} {K4 : Int32 → IM → Prop} (hK4 : ∀ (v3 : Int32) (I : IM), K4 v3 I → J (d + 1) mX12_before (PI Q) 0 0 4 [none, some (.int a1), none, some (.int v3)] [] T I 0 0) (I : IM) (h : fX12_before_0 T a1 a2 Q K4 I) : J (d + 1) mX12_before (PI Q) 0 0 0 [some (.ref 79), some (.int a1), some (.int a2), none] [] T I 0 0 := by
  unfold fX12_before_0 at h
  refine J.iload_n dX12_before_0 rfl rfl ?_
  refine J.iconst (v := 1) dX12_before_1 (by decide) ?_
  refine J.isub dX12_before_2 ?_
  refine J.istore_n (ls' := [some (.ref 79), some (.int a1), some (.int a2), some (.int (a2 - 1))]) dX12_before_3 rfl rfl rfl ?_
  exact J.weaken (ls' := [none, some (.int a1), none, some (.int (a2 - 1))]) (And.intro rfl (And.intro rfl trivial)) (hK4 (a2 - 1) I h)
set_option maxHeartbeats 4000000 in
set_option maxRecDepth 100000 in
theorem sX12_before_4 (d : Nat) {T : Topo} (hT : Lay T) (a1 : Int32) (a2 : Int32)    {Q : Int32 → Topo → IM → Prop} {K4 : Int32 → IM → Prop} (hK4 : ∀ (v3 : Int32) (I : IM), K4 v3 I → J (d + 1) mX12_before (PI Q) 0 0 4 [none, some (.int a1), none, some (.int v3)] [] T I 0 0) (v3 : Int32) (I : IM) (h : fX12_before_4 T a1 a2 Q K4 v3 I) : J (d + 1) mX12_before (PI Q) 0 0 4 [none, some (.int a1), none, some (.int v3)] [] T I 0 0 := by
  unfold fX12_before_4 at h
  refine J.iload_n dX12_before_4 rfl rfl ?_
  refine J.if_lt (tgt := 22) dX12_before_5 (by decide) (fun hc1 => ?_) (fun hc1 => ?_)
  · have h := h.1 hc1
    refine J.iload_n dX12_before_22 rfl rfl ?_
    exact J.iretQ dX12_before_23 rfl (Nat.le_refl _) (Nat.le_refl _) h
  · have h := h.2 hc1
    refine J.iload_n dX12_before_8 rfl rfl ?_
    refine J.iload_n dX12_before_9 rfl rfl ?_
    refine J.callSP (as := [.int a1, .int v3]) (rest := []) dX12_before_10 kX12_has vX12_has lX12_212 rfl rfl rfl (by omega) (Nat.le_refl _) (Nat.le_refl _) (qX12_has (d + 0) hT a1 v3 ) ?_
    refine J.bz_ne (tgt := 22) dX12_before_13 (by decide) (fun hc2 => ?_) (fun hc2 => ?_)
    · have h := h.1 hc2
      refine J.iload_n dX12_before_22 rfl rfl ?_
      exact J.iretQ dX12_before_23 rfl (Nat.le_refl _) (Nat.le_refl _) h
    · have h := h.2 hc2
      refine J.iinc (v := (v3 + (-1))) (ls' := [none, some (.int a1), none, some (.int (v3 + (-1)))]) dX12_before_16 rfl (by rfl) rfl ?_
      refine J.goto (tgt := 4) dX12_before_19 (by decide) ?_
      exact J.weaken (ls' := [none, some (.int a1), none, some (.int (v3 + (-1)))]) (And.intro rfl (And.intro rfl trivial)) (hK4 (v3 + (-1)) I h)
set_option maxHeartbeats 4000000 in
set_option maxRecDepth 100000 in
theorem wX12_before (d : Nat) {T : Topo} (hT : Lay T) (a1 : Int32) (a2 : Int32)   {Q : Int32 → Topo → IM → Prop} (V4 : Int32 → IM → Prop) (μ4 : Int32 → IM → Nat) (vc4 : ∀ (v3 : Int32) (I : IM), V4 v3 I → fX12_before_4 T a1 a2 Q (fun w3 I_ => V4 w3 I_ ∧ μ4 w3 I_ < μ4 v3 I) v3 I) {I : IM} (h : fX12_before_0 T a1 a2 Q V4 I) : Ct (d + 1) mX12_before [.ref 79, .int a1, .int a2] T I 0 0 (PI Q) := by
  have all : ∀ n : Nat, (∀ (v3 : Int32) (I : IM), V4 v3 I → μ4 v3 I < n → J (d + 1) mX12_before (PI Q) 0 0 4 [none, some (.int a1), none, some (.int v3)] [] T I 0 0) := by
    intro n
    induction n with
    | zero => exact fun _ _ _ hn => absurd hn (Nat.not_lt_zero _)
    | succ n ih =>
      exact fun v3 I hv hn => sX12_before_4 d hT a1 a2   (fun w3 I_ hw => ih w3 I_ hw.1 (by have := hw.2; omega)) v3 I (vc4 v3 I hv)
  exact Ct.ofJ (by decide +kernel) rfl (by intro v hv; revert v hv; simp [Value.category]) rfl (sX12_before_0 d hT a1 a2   (fun w3 I_ hw => (all (μ4 w3 I_ + 1)) w3 I_ hw (Nat.lt_succ_self _)) I h)

def jX12_beforeI (a1 : Int32) (a2 : Int32) : Nat → Int32 → IM → Int32
  | 0 => fun _ I => 0
  | n + 1 => fun v3 I => (if v3 < 0 then v3 else (if hs a1 v3 then v3 else (jX12_beforeI a1 a2 n (v3 + (-1)) I)))
def jX12_beforeO (a1 : Int32) (a2 : Int32) : Nat → Int32 → IM → Prop
  | 0 => fun _ _ => False
  | n + 1 => fun v3 I => (((v3 < 0) → True) ∧ ((¬ v3 < 0) → (((hs a1 v3) → True) ∧ ((¬ (hs a1 v3)) → (jX12_beforeO a1 a2 n (v3 + (-1)) I)))))
theorem jX12_beforeI_4 (a1 : Int32) (a2 : Int32) (n : Nat) (v3 : Int32) (I : IM) : jX12_beforeI a1 a2 (n + 1) v3 I = (if v3 < 0 then v3 else (if hs a1 v3 then v3 else (jX12_beforeI a1 a2 n (v3 + (-1)) I))) := rfl
theorem jX12_beforeO_4 (a1 : Int32) (a2 : Int32) (n : Nat) (v3 : Int32) (I : IM) : jX12_beforeO a1 a2 (n + 1) v3 I = (((v3 < 0) → True) ∧ ((¬ v3 < 0) → (((hs a1 v3) → True) ∧ ((¬ (hs a1 v3)) → (jX12_beforeO a1 a2 n (v3 + (-1)) I))))) := rfl
def jX12_before (I : IM) (a1 : Int32) (a2 : Int32) : Int32 := (jX12_beforeI a1 a2 FU (a2 - 1) I)
def jX12_beforeK (I : IM) (a1 : Int32) (a2 : Int32) : Prop := (jX12_beforeO a1 a2 FU (a2 - 1) I)
set_option maxRecDepth 10000 in
set_option maxHeartbeats 1000000 in
theorem uX12_before (d : Nat) {T : Topo} (hT : Lay T) (a1 : Int32) (a2 : Int32)   {R : Int32} {I00 : IM} : ∀ n : Nat, (∀ (v3 : Int32) (I : IM), I = I00 → jX12_beforeO a1 a2 n v3 I → jX12_beforeI a1 a2 n v3 I = R → J (d + 1) mX12_before (PI (fun x T' I' => x = R ∧ T' = T ∧ I' = I00)) 0 0 4 [none, some (.int a1), none, some (.int v3)] [] T I 0 0) := by
  intro n
  induction n with
  | zero => exact fun _ _ _ hz => hz.elim
  | succ n ih =>
    exact fun v3 I hI hok hit => by
        rw [jX12_beforeO_4] at hok
        exact sX12_before_4 d hT a1 a2   (K4 := fun w3 I_ => (jX12_beforeO a1 a2 n w3 I_ ∧ jX12_beforeI a1 a2 n w3 I_ = R) ∧ I_ = I00) (fun w3 I_ hw => ih w3 I_ hw.2 hw.1.1 hw.1.2) v3 I (by
          unfold fX12_before_4
          exact ⟨fun hc1 => ⟨by rw [jX12_beforeI_4, if_pos hc1] at hit; exact hit, rfl, hI⟩, fun hc1 => ⟨fun hc2 => ⟨by rw [jX12_beforeI_4, if_neg hc1, if_pos hc2] at hit; exact hit, rfl, hI⟩, fun hc2 => ⟨⟨((hok).2 hc1).2 hc2, by rw [jX12_beforeI_4, if_neg hc1, if_neg hc2] at hit; exact hit⟩, hI⟩⟩⟩)
set_option maxRecDepth 10000 in
set_option maxHeartbeats 1000000 in
theorem qX12_before (d : Nat) {T : Topo} {I : IM} (hT : Lay T) (a1 : Int32) (a2 : Int32)  (hp : (jX12_beforeK I a1 a2)) : CtP (d + 1) mX12_before [.ref 79, .int a1, .int a2] T I (jX12_before I a1 a2) := by
  unfold jX12_beforeK at hp
  exact Ct.ofJ (by decide +kernel) rfl (by intro v hv; revert v hv; simp [Value.category]) rfl (sX12_before_0 d hT a1 a2   (K4 := fun w3 I_ => (jX12_beforeO a1 a2 FU w3 I_ ∧ jX12_beforeI a1 a2 FU w3 I_ = (jX12_before I a1 a2)) ∧ I_ = I) (fun w3 I_ hw => uX12_before d hT a1 a2   FU w3 I_ hw.2 hw.1.1 hw.1.2) I (by
    unfold fX12_before_0
    exact ⟨⟨hp, rfl⟩, rfl⟩))

def fX12_worthOf_0 (T : Topo) (a1 : Int32) (Q : Int32 → Topo → IM → Prop) (K4 : Int32 → Int32 → IM → Prop) (I : IM) : Prop :=
  K4 0 0 I
def fX12_worthOf_4 (T : Topo) (a1 : Int32) (Q : Int32 → Topo → IM → Prop) (K4 : Int32 → Int32 → IM → Prop) (v2 v3 : Int32) (I : IM) : Prop :=
  ((((I 79 2) ≤ v3) → Q v2 T I) ∧ ((¬ (I 79 2) ≤ v3) → ((((¬ (hs a1 v3)) → K4 (v2 + 0) (v3 + 1) I) ∧ ((hs a1 v3) → (vp_in v3 8 ∧ K4 (v2 + (I 97 v3.toNatClampNeg)) (v3 + 1) I))))))
set_option maxHeartbeats 4000000 in
set_option maxRecDepth 100000 in
theorem sX12_worthOf_0 (d : Nat) {T : Topo} (hT : Lay T) (a1 : Int32)    {Q : Int32 → Topo → IM → Prop} {K4 : Int32 → Int32 → IM → Prop} (hK4 : ∀ (v2 v3 : Int32) (I : IM), K4 v2 v3 I → J (d + 1) mX12_worthOf (PI Q) 0 0 4 [some (.ref 79), some (.int a1), some (.int v2), some (.int v3)] [] T I 0 0) (I : IM) (h : fX12_worthOf_0 T a1 Q K4 I) : J (d + 1) mX12_worthOf (PI Q) 0 0 0 [some (.ref 79), some (.int a1), none, none] [] T I 0 0 := by
  unfold fX12_worthOf_0 at h
  refine J.iconst (v := 0) dX12_worthOf_0 (by decide) ?_
  refine J.istore_n (ls' := [some (.ref 79), some (.int a1), some (.int 0), none]) dX12_worthOf_1 rfl rfl rfl ?_
  refine J.iconst (v := 0) dX12_worthOf_2 (by decide) ?_
  refine J.istore_n (ls' := [some (.ref 79), some (.int a1), some (.int 0), some (.int 0)]) dX12_worthOf_3 rfl rfl rfl ?_
  exact J.weaken (ls' := [some (.ref 79), some (.int a1), some (.int 0), some (.int 0)]) (And.intro rfl (And.intro rfl (And.intro rfl (And.intro rfl trivial)))) (hK4 0 0 I h)
set_option maxHeartbeats 4000000 in
set_option maxRecDepth 100000 in
theorem sX12_worthOf_4 (d : Nat) {T : Topo} (hT : Lay T) (a1 : Int32)    {Q : Int32 → Topo → IM → Prop} {K4 : Int32 → Int32 → IM → Prop} (hK4 : ∀ (v2 v3 : Int32) (I : IM), K4 v2 v3 I → J (d + 1) mX12_worthOf (PI Q) 0 0 4 [some (.ref 79), some (.int a1), some (.int v2), some (.int v3)] [] T I 0 0) (v2 v3 : Int32) (I : IM) (h : fX12_worthOf_4 T a1 Q K4 v2 v3 I) : J (d + 1) mX12_worthOf (PI Q) 0 0 4 [some (.ref 79), some (.int a1), some (.int v2), some (.int v3)] [] T I 0 0 := by
  unfold fX12_worthOf_4 at h
  refine J.iload_n dX12_worthOf_4 rfl rfl ?_
  refine J.aload_n dX12_worthOf_5 rfl rfl ?_
  refine J.getI dX12_worthOf_6 fX12_196 (hT.k 79 rfl) rfl ?_
  refine J.icmp_ge (tgt := 39) dX12_worthOf_9 (by decide) (fun hc1 => ?_) (fun hc1 => ?_)
  · have h := h.1 hc1
    refine J.iload_n dX12_worthOf_39 rfl rfl ?_
    exact J.iretQ dX12_worthOf_40 rfl (Nat.le_refl _) (Nat.le_refl _) h
  · have h := h.2 hc1
    refine J.iload_n dX12_worthOf_12 rfl rfl ?_
    refine J.iload_n dX12_worthOf_13 rfl rfl ?_
    refine J.iload_n dX12_worthOf_14 rfl rfl ?_
    refine J.callSP (as := [.int a1, .int v3]) (rest := [.int v2]) dX12_worthOf_15 kX12_has vX12_has lX12_212 rfl rfl rfl (by omega) (Nat.le_refl _) (Nat.le_refl _) (qX12_has (d + 0) hT a1 v3 ) ?_
    refine J.bz_eq (tgt := 30) dX12_worthOf_18 (by decide) (fun hc2 => ?_) (fun hc2 => ?_)
    · have h := h.1 hc2
      refine J.iconst (v := 0) dX12_worthOf_30 (by decide) ?_
      refine J.iadd dX12_worthOf_31 ?_
      refine J.istore_n (ls' := [some (.ref 79), some (.int a1), some (.int (v2 + 0)), some (.int v3)]) dX12_worthOf_32 rfl rfl rfl ?_
      refine J.iinc (v := (v3 + 1)) (ls' := [some (.ref 79), some (.int a1), some (.int (v2 + 0)), some (.int (v3 + 1))]) dX12_worthOf_33 rfl (by rfl) rfl ?_
      refine J.goto (tgt := 4) dX12_worthOf_36 (by decide) ?_
      exact J.weaken (ls' := [some (.ref 79), some (.int a1), some (.int (v2 + 0)), some (.int (v3 + 1))]) (And.intro rfl (And.intro rfl (And.intro rfl (And.intro rfl trivial)))) (hK4 (v2 + 0) (v3 + 1) I h)
    · have h := h.2 hc2
      refine J.aload_n dX12_worthOf_21 rfl rfl ?_
      refine J.getR (r := 97) dX12_worthOf_22 fX12_66 (hT.k 79 rfl) rfl (hT.r 79 26 rfl rfl) ?_
      refine J.iload_n dX12_worthOf_25 rfl rfl ?_
      obtain ⟨hs3, h⟩ := h
      refine J.iald dX12_worthOf_26 (hT.k 97 rfl) (hT.l 97 rfl) hs3 ?_
      refine J.goto (tgt := 31) dX12_worthOf_27 (by decide) ?_
      refine J.iadd dX12_worthOf_31 ?_
      refine J.istore_n (ls' := [some (.ref 79), some (.int a1), some (.int (v2 + (I 97 v3.toNatClampNeg))), some (.int v3)]) dX12_worthOf_32 rfl rfl rfl ?_
      refine J.iinc (v := (v3 + 1)) (ls' := [some (.ref 79), some (.int a1), some (.int (v2 + (I 97 v3.toNatClampNeg))), some (.int (v3 + 1))]) dX12_worthOf_33 rfl (by rfl) rfl ?_
      refine J.goto (tgt := 4) dX12_worthOf_36 (by decide) ?_
      exact J.weaken (ls' := [some (.ref 79), some (.int a1), some (.int (v2 + (I 97 v3.toNatClampNeg))), some (.int (v3 + 1))]) (And.intro rfl (And.intro rfl (And.intro rfl (And.intro rfl trivial)))) (hK4 (v2 + (I 97 v3.toNatClampNeg)) (v3 + 1) I h)
set_option maxHeartbeats 4000000 in
set_option maxRecDepth 100000 in
theorem wX12_worthOf (d : Nat) {T : Topo} (hT : Lay T) (a1 : Int32)   {Q : Int32 → Topo → IM → Prop} (V4 : Int32 → Int32 → IM → Prop) (μ4 : Int32 → Int32 → IM → Nat) (vc4 : ∀ (v2 v3 : Int32) (I : IM), V4 v2 v3 I → fX12_worthOf_4 T a1 Q (fun w2 w3 I_ => V4 w2 w3 I_ ∧ μ4 w2 w3 I_ < μ4 v2 v3 I) v2 v3 I) {I : IM} (h : fX12_worthOf_0 T a1 Q V4 I) : Ct (d + 1) mX12_worthOf [.ref 79, .int a1] T I 0 0 (PI Q) := by
  have all : ∀ n : Nat, (∀ (v2 v3 : Int32) (I : IM), V4 v2 v3 I → μ4 v2 v3 I < n → J (d + 1) mX12_worthOf (PI Q) 0 0 4 [some (.ref 79), some (.int a1), some (.int v2), some (.int v3)] [] T I 0 0) := by
    intro n
    induction n with
    | zero => exact fun _ _ _ _ hn => absurd hn (Nat.not_lt_zero _)
    | succ n ih =>
      exact fun v2 v3 I hv hn => sX12_worthOf_4 d hT a1   (fun w2 w3 I_ hw => ih w2 w3 I_ hw.1 (by have := hw.2; omega)) v2 v3 I (vc4 v2 v3 I hv)
  exact Ct.ofJ (by decide +kernel) rfl (by intro v hv; revert v hv; simp [Value.category]) rfl (sX12_worthOf_0 d hT a1   (fun w2 w3 I_ hw => (all (μ4 w2 w3 I_ + 1)) w2 w3 I_ hw (Nat.lt_succ_self _)) I h)

def jX12_worthOfI (a1 : Int32) : Nat → Int32 → Int32 → IM → Int32
  | 0 => fun _ _ I => 0
  | n + 1 => fun v2 v3 I => (if (I 79 2) ≤ v3 then v2 else (if hs a1 v3 then (jX12_worthOfI a1 n (v2 + (I 97 v3.toNatClampNeg)) (v3 + 1) I) else (jX12_worthOfI a1 n (v2 + 0) (v3 + 1) I)))
def jX12_worthOfO (a1 : Int32) : Nat → Int32 → Int32 → IM → Prop
  | 0 => fun _ _ _ => False
  | n + 1 => fun v2 v3 I => ((((I 79 2) ≤ v3) → True) ∧ ((¬ (I 79 2) ≤ v3) → (((¬ (hs a1 v3)) → (jX12_worthOfO a1 n (v2 + 0) (v3 + 1) I)) ∧ ((hs a1 v3) → (vp_in v3 8 ∧ (jX12_worthOfO a1 n (v2 + (I 97 v3.toNatClampNeg)) (v3 + 1) I))))))
theorem jX12_worthOfI_4 (a1 : Int32) (n : Nat) (v2 v3 : Int32) (I : IM) : jX12_worthOfI a1 (n + 1) v2 v3 I = (if (I 79 2) ≤ v3 then v2 else (if hs a1 v3 then (jX12_worthOfI a1 n (v2 + (I 97 v3.toNatClampNeg)) (v3 + 1) I) else (jX12_worthOfI a1 n (v2 + 0) (v3 + 1) I))) := rfl
theorem jX12_worthOfO_4 (a1 : Int32) (n : Nat) (v2 v3 : Int32) (I : IM) : jX12_worthOfO a1 (n + 1) v2 v3 I = ((((I 79 2) ≤ v3) → True) ∧ ((¬ (I 79 2) ≤ v3) → (((¬ (hs a1 v3)) → (jX12_worthOfO a1 n (v2 + 0) (v3 + 1) I)) ∧ ((hs a1 v3) → (vp_in v3 8 ∧ (jX12_worthOfO a1 n (v2 + (I 97 v3.toNatClampNeg)) (v3 + 1) I)))))) := rfl
def jX12_worthOf (I : IM) (a1 : Int32) : Int32 := (jX12_worthOfI a1 FU 0 0 I)
def jX12_worthOfK (I : IM) (a1 : Int32) : Prop := (jX12_worthOfO a1 FU 0 0 I)
set_option maxRecDepth 10000 in
set_option maxHeartbeats 1000000 in
theorem uX12_worthOf (d : Nat) {T : Topo} (hT : Lay T) (a1 : Int32)   {R : Int32} {I00 : IM} : ∀ n : Nat, (∀ (v2 v3 : Int32) (I : IM), I = I00 → jX12_worthOfO a1 n v2 v3 I → jX12_worthOfI a1 n v2 v3 I = R → J (d + 1) mX12_worthOf (PI (fun x T' I' => x = R ∧ T' = T ∧ I' = I00)) 0 0 4 [some (.ref 79), some (.int a1), some (.int v2), some (.int v3)] [] T I 0 0) := by
  intro n
  induction n with
  | zero => exact fun _ _ _ _ hz => hz.elim
  | succ n ih =>
    exact fun v2 v3 I hI hok hit => by
        rw [jX12_worthOfO_4] at hok
        exact sX12_worthOf_4 d hT a1   (K4 := fun w2 w3 I_ => (jX12_worthOfO a1 n w2 w3 I_ ∧ jX12_worthOfI a1 n w2 w3 I_ = R) ∧ I_ = I00) (fun w2 w3 I_ hw => ih w2 w3 I_ hw.2 hw.1.1 hw.1.2) v2 v3 I (by
          unfold fX12_worthOf_4
          exact ⟨fun hc1 => ⟨by rw [jX12_worthOfI_4, if_pos hc1] at hit; exact hit, rfl, hI⟩, fun hc1 => ⟨fun hc2 => ⟨⟨((hok).2 hc1).1 hc2, by rw [jX12_worthOfI_4, if_neg hc1, if_neg hc2] at hit; exact hit⟩, hI⟩, fun hc2 => ⟨(((hok).2 hc1).2 hc2).1, ⟨⟨(((hok).2 hc1).2 hc2).2, by rw [jX12_worthOfI_4, if_neg hc1, if_pos hc2] at hit; exact hit⟩, hI⟩⟩⟩⟩)
set_option maxRecDepth 10000 in
set_option maxHeartbeats 1000000 in
theorem qX12_worthOf (d : Nat) {T : Topo} {I : IM} (hT : Lay T) (a1 : Int32)  (hp : (jX12_worthOfK I a1)) : CtP (d + 1) mX12_worthOf [.ref 79, .int a1] T I (jX12_worthOf I a1) := by
  unfold jX12_worthOfK at hp
  exact Ct.ofJ (by decide +kernel) rfl (by intro v hv; revert v hv; simp [Value.category]) rfl (sX12_worthOf_0 d hT a1   (K4 := fun w2 w3 I_ => (jX12_worthOfO a1 FU w2 w3 I_ ∧ jX12_worthOfI a1 FU w2 w3 I_ = (jX12_worthOf I a1)) ∧ I_ = I) (fun w2 w3 I_ hw => uX12_worthOf d hT a1   FU w2 w3 I_ hw.2 hw.1.1 hw.1.2) I (by
    unfold fX12_worthOf_0
    exact ⟨⟨hp, rfl⟩, rfl⟩))

def fX12_tries_0 (T : Topo)  (Q : Int32 → Topo → IM → Prop)  (I : IM) : Prop :=
  Q (I 79 5) T I
set_option maxHeartbeats 4000000 in
set_option maxRecDepth 100000 in
theorem sX12_tries_0 (d : Nat) {T : Topo} (hT : Lay T)     {Q : Int32 → Topo → IM → Prop}   (I : IM) (h : fX12_tries_0 T  Q  I) : J (d + 0) mX12_tries (PI Q) 0 0 0 [some (.ref 79)] [] T I 0 0 := by
  unfold fX12_tries_0 at h
  refine J.aload_n dX12_tries_0 rfl rfl ?_
  refine J.getI dX12_tries_1 fX12_301 (hT.k 79 rfl) rfl ?_
  exact J.iretQ dX12_tries_4 rfl (Nat.le_refl _) (Nat.le_refl _) h
set_option maxHeartbeats 4000000 in
set_option maxRecDepth 100000 in
theorem wX12_tries (d : Nat) {T : Topo} (hT : Lay T)    {Q : Int32 → Topo → IM → Prop} {I : IM} (h : fX12_tries_0 T  Q I) : Ct (d + 0) mX12_tries [.ref 79] T I 0 0 (PI Q) :=
  Ct.ofJ (by decide +kernel) rfl (by intro v hv; revert v hv; simp [Value.category]) rfl (sX12_tries_0 d hT    I h)

def jX12_tries (I : IM)  : Int32 := (I 79 5)
set_option maxRecDepth 10000 in
theorem qX12_tries (d : Nat) {T : Topo} {I : IM} (hT : Lay T)    : CtP (d + 0) mX12_tries [.ref 79] T I ((jX12_tries I)) :=
  wX12_tries d hT    (by
  unfold fX12_tries_0
  exact ⟨by unfold jX12_tries; rfl, rfl, rfl⟩)

end
