noncomputable section
def fX12_can_0 (T : Topo) (a1 : Int32) (Q : Int32 → Topo → IM → Prop)  (I : IM) : Prop :=
  ((((¬ (jX12_isOfThem I a1) = 0) → (((jX12_keepsK (up2 I 79 5 0))) ∧ (((jX12_laysK (jX12_keeps (up2 I 79 5 0)) a1)) ∧ (((jX12_backToK (jX12_lays (jX12_keeps (up2 I 79 5 0)) a1).2)) ∧ (((¬ ((jX12_lays (jX12_keeps (up2 I 79 5 0)) a1).1) = (-1000006)) → Q ((jX12_lays (jX12_keeps (up2 I 79 5 0)) a1).1) T (jX12_backTo (jX12_lays (jX12_keeps (up2 I 79 5 0)) a1).2)) ∧ ((((jX12_lays (jX12_keeps (up2 I 79 5 0)) a1).1) = (-1000006)) → (Q (jX12_finds (-1000006)) T (jX12_findsM (jX12_backTo (jX12_lays (jX12_keeps (up2 I 79 5 0)) a1).2))))))))) ∧ (((jX12_isOfThem I a1) = 0) → (Q (jX12_finds (-1000001)) T (jX12_findsM I)))))
set_option maxHeartbeats 4000000 in
set_option maxRecDepth 100000 in
theorem sX12_can_0 (d : Nat) {T : Topo} (hT : Lay T) (a1 : Int32)    {Q : Int32 → Topo → IM → Prop}   (I : IM) (h : fX12_can_0 T a1 Q  I) : J (d + 6) mX12_can (PI Q) 0 0 0 [some (.ref 79), some (.int a1), none] [] T I 0 0 := by
  unfold fX12_can_0 at h
  refine J.aload_n dX12_can_0 rfl rfl ?_
  refine J.iload_n dX12_can_1 rfl rfl ?_
  refine J.callVP (k := 79) (as := [.int a1]) (rest := []) dX12_can_2 kX12_isOfThem vX12_isOfThem lX12_314 (hT.k 79 rfl) rfl rfl rfl rfl rfl (by omega) (Nat.le_refl _) (Nat.le_refl _) (qX12_isOfThem (d + 5) hT a1 ) ?_
  refine J.if_ne (tgt := 15) dX12_can_5 (by decide) (fun hc1 => ?_) (fun hc1 => ?_)
  · have h := h.1 hc1
    refine J.aload_n dX12_can_15 rfl rfl ?_
    refine J.iconst (v := 0) dX12_can_16 (by decide) ?_
    refine J.putI dX12_can_17 fX12_301 (hT.k 79 rfl) rfl ?_
    refine J.aload_n dX12_can_20 rfl rfl ?_
    obtain ⟨hp2, h⟩ := h
    refine J.callVD (k := 79) (as := []) (rest := []) dX12_can_21 kX12_keeps vX12_keeps lX12_317 (hT.k 79 rfl) rfl rfl rfl rfl rfl (by omega) (Nat.le_refl _) (Nat.le_refl _) (qX12_keeps (d + 5) hT  hp2) ?_
    refine J.aload_n dX12_can_24 rfl rfl ?_
    refine J.iload_n dX12_can_25 rfl rfl ?_
    obtain ⟨hp3, h⟩ := h
    refine J.callVE (k := 79) (as := [.int a1]) (rest := []) dX12_can_26 kX12_lays vX12_lays lX12_320 (hT.k 79 rfl) rfl rfl rfl rfl rfl (by omega) (Nat.le_refl _) (Nat.le_refl _) (qX12_lays (d + 0) hT a1 hp3) ?_
    refine J.istore_n (ls' := [some (.ref 79), some (.int a1), some (.int ((jX12_lays (jX12_keeps (up2 I 79 5 0)) a1).1))]) dX12_can_29 rfl rfl rfl ?_
    refine J.aload_n dX12_can_30 rfl rfl ?_
    obtain ⟨hp4, h⟩ := h
    refine J.callVD (k := 79) (as := []) (rest := []) dX12_can_31 kX12_backTo vX12_backTo lX12_323 (hT.k 79 rfl) rfl rfl rfl rfl rfl (by omega) (Nat.le_refl _) (Nat.le_refl _) (qX12_backTo (d + 5) hT  hp4) ?_
    refine J.iload_n dX12_can_34 rfl rfl ?_
    refine J.ldcw (v := (-1000006)) dX12_can_35 kcX12_304 ?_
    refine J.icmp_ne (tgt := 51) dX12_can_38 (by decide) (fun hc5 => ?_) (fun hc5 => ?_)
    · have h := h.1 hc5
      refine J.iload_n dX12_can_51 rfl rfl ?_
      exact J.iretQ dX12_can_52 rfl (Nat.le_refl _) (Nat.le_refl _) h
    · have h := h.2 hc5
      refine J.aload_n dX12_can_41 rfl rfl ?_
      refine J.ldcw (v := (-1000006)) dX12_can_42 kcX12_304 ?_
      refine J.callVE (k := 79) (as := [.int (-1000006)]) (rest := []) dX12_can_45 kX12_finds vX12_finds lX12_200 (hT.k 79 rfl) rfl rfl rfl rfl rfl (by omega) (Nat.le_refl _) (Nat.le_refl _) (qX12_finds (d + 5) hT (-1000006) ) ?_
      refine J.goto (tgt := 52) dX12_can_48 (by decide) ?_
      exact J.iretQ dX12_can_52 rfl (Nat.le_refl _) (Nat.le_refl _) h
  · have h := h.2 hc1
    refine J.aload_n dX12_can_8 rfl rfl ?_
    refine J.ldc (v := (-1000001)) dX12_can_9 kcX12_199 ?_
    refine J.callVE (k := 79) (as := [.int (-1000001)]) (rest := []) dX12_can_11 kX12_finds vX12_finds lX12_200 (hT.k 79 rfl) rfl rfl rfl rfl rfl (by omega) (Nat.le_refl _) (Nat.le_refl _) (qX12_finds (d + 5) hT (-1000001) ) ?_
    exact J.iretQ dX12_can_14 rfl (Nat.le_refl _) (Nat.le_refl _) h
set_option maxHeartbeats 4000000 in
set_option maxRecDepth 100000 in
theorem wX12_can (d : Nat) {T : Topo} (hT : Lay T) (a1 : Int32)   {Q : Int32 → Topo → IM → Prop} {I : IM} (h : fX12_can_0 T a1 Q I) : Ct (d + 6) mX12_can [.ref 79, .int a1] T I 0 0 (PI Q) :=
  Ct.ofJ (by decide +kernel) rfl (by intro v hv; revert v hv; simp [Value.category]) rfl (sX12_can_0 d hT a1   I h)

def jX12_can (I : IM) (a1 : Int32) : Int32 := (if (jX12_isOfThem I a1) = 0 then (jX12_finds (-1000001)) else (if ((jX12_lays (jX12_keeps (up2 I 79 5 0)) a1).1) = (-1000006) then (jX12_finds (-1000006)) else (jX12_lays (jX12_keeps (up2 I 79 5 0)) a1).1))
def jX12_canM (I : IM) (a1 : Int32) : IM := (if (jX12_isOfThem I a1) = 0 then (jX12_findsM I) else (if ((jX12_lays (jX12_keeps (up2 I 79 5 0)) a1).1) = (-1000006) then (jX12_findsM (jX12_backTo (jX12_lays (jX12_keeps (up2 I 79 5 0)) a1).2)) else (jX12_backTo (jX12_lays (jX12_keeps (up2 I 79 5 0)) a1).2)))
def jX12_canK (I : IM) (a1 : Int32) : Prop := (((¬ (jX12_isOfThem I a1) = 0) → (((jX12_keepsK (up2 I 79 5 0))) ∧ (((jX12_laysK (jX12_keeps (up2 I 79 5 0)) a1)) ∧ ((jX12_backToK (jX12_lays (jX12_keeps (up2 I 79 5 0)) a1).2))))) ∧ (((jX12_isOfThem I a1) = 0) → True))
set_option maxRecDepth 10000 in
theorem qX12_can (d : Nat) {T : Topo} {I : IM} (hT : Lay T) (a1 : Int32)  (hp : (jX12_canK I a1)) : CtI (d + 6) mX12_can [.ref 79, .int a1] T I (fun x_ J_ => x_ = (jX12_can I a1) ∧ J_ = (jX12_canM I a1)) :=
  wX12_can d hT a1   (by
  unfold fX12_can_0
  exact ⟨fun hc1 => ⟨((hp).1 hc1).1, ⟨(((hp).1 hc1).2).1, ⟨(((hp).1 hc1).2).2, ⟨fun hc2 => ⟨rfl, by unfold jX12_can; rw [if_neg hc1, if_neg hc2], by unfold jX12_canM; rw [if_neg hc1, if_neg hc2]⟩, fun hc2 => ⟨rfl, by unfold jX12_can; rw [if_neg hc1, if_pos hc2], by unfold jX12_canM; rw [if_neg hc1, if_pos hc2]⟩⟩⟩⟩⟩, fun hc1 => ⟨rfl, by unfold jX12_can; rw [if_pos hc1], by unfold jX12_canM; rw [if_pos hc1]⟩⟩)

def fX12_best_0 (T : Topo)  (Q : Int32 → Topo → IM → Prop) (K11 : Int32 → IM → Prop) (K31 : IM → Prop) (K35 : Int32 → Int32 → IM → Prop) (I : IM) : Prop :=
  (((jX12_keepsK (up2 I 79 5 0))) ∧ K11 0 (jX12_keeps (up2 I 79 5 0)))
def fX12_best_11 (T : Topo)  (Q : Int32 → Topo → IM → Prop) (K11 : Int32 → IM → Prop) (K31 : IM → Prop) (K35 : Int32 → Int32 → IM → Prop) (v1 : Int32) (I : IM) : Prop :=
  (((256 ≤ v1) → K31 I) ∧ ((¬ 256 ≤ v1) → (vp_in v1 256 ∧ K11 (v1 + 1) (up2 I 134 v1.toNatClampNeg 0))))
def fX12_best_31 (T : Topo)  (Q : Int32 → Topo → IM → Prop) (K11 : Int32 → IM → Prop) (K31 : IM → Prop) (K35 : Int32 → Int32 → IM → Prop) (I : IM) : Prop :=
  K35 (-1) 0 I
def fX12_best_35 (T : Topo)  (Q : Int32 → Topo → IM → Prop) (K11 : Int32 → IM → Prop) (K31 : IM → Prop) (K35 : Int32 → Int32 → IM → Prop) (v1 v2 : Int32) (I : IM) : Prop :=
  (((((1 : Int32) <<< ((I 79 2) &&& 31)) ≤ v2) → (vp_in v1 256 ∧ (((jX12_laysK (up2 I 134 v1.toNatClampNeg 1) v1)) ∧ (((jX12_backToK (jX12_lays (up2 I 134 v1.toNatClampNeg 1) v1).2)) ∧ (((¬ ((jX12_lays (up2 I 134 v1.toNatClampNeg 1) v1).1) = (-1000006)) → (((¬ ((jX12_lays (up2 I 134 v1.toNatClampNeg 1) v1).1) = 1) → K31 (jX12_backTo (jX12_lays (up2 I 134 v1.toNatClampNeg 1) v1).2)) ∧ ((((jX12_lays (up2 I 134 v1.toNatClampNeg 1) v1).1) = 1) → Q v1 T (jX12_backTo (jX12_lays (up2 I 134 v1.toNatClampNeg 1) v1).2)))) ∧ ((((jX12_lays (up2 I 134 v1.toNatClampNeg 1) v1).1) = (-1000006)) → (Q (jX12_finds (-1000006)) T (jX12_findsM (jX12_backTo (jX12_lays (up2 I 134 v1.toNatClampNeg 1) v1).2))))))))) ∧ ((¬ ((1 : Int32) <<< ((I 79 2) &&& 31)) ≤ v2) → (vp_in v2 256 ∧ (((¬ (I 134 v2.toNatClampNeg) = 0) → K35 v1 (v2 + 1) I) ∧ (((I 134 v2.toNatClampNeg) = 0) → (((v1 < 0) → K35 v2 (v2 + 1) I) ∧ ((¬ v1 < 0) → (((jX12_worthOfK I v2)) ∧ (((jX12_worthOfK I v1)) ∧ ((((jX12_worthOf I v2) ≤ (jX12_worthOf I v1)) → K35 v1 (v2 + 1) I) ∧ ((¬ (jX12_worthOf I v2) ≤ (jX12_worthOf I v1)) → K35 v2 (v2 + 1) I)))))))))))
set_option maxHeartbeats 4000000 in
set_option maxRecDepth 100000 in
theorem sX12_best_0 (d : Nat) {T : Topo} (hT : Lay T)     {Q : Int32 → Topo → IM → Prop} {K11 : Int32 → IM → Prop} {K31 : IM → Prop} {K35 : Int32 → Int32 → IM → Prop} (hK11 : ∀ (v1 : Int32) (I : IM), K11 v1 I → J (d + 6) mX12_best (PI Q) 0 0 11 [some (.ref 79), some (.int v1), none] [] T I 0 0) (hK31 : ∀ (I : IM), K31 I → J (d + 6) mX12_best (PI Q) 0 0 31 [some (.ref 79), none, none] [] T I 0 0) (hK35 : ∀ (v1 v2 : Int32) (I : IM), K35 v1 v2 I → J (d + 6) mX12_best (PI Q) 0 0 35 [some (.ref 79), some (.int v1), some (.int v2)] [] T I 0 0) (I : IM) (h : fX12_best_0 T  Q K11 K31 K35 I) : J (d + 6) mX12_best (PI Q) 0 0 0 [some (.ref 79), none, none] [] T I 0 0 := by
  unfold fX12_best_0 at h
  refine J.aload_n dX12_best_0 rfl rfl ?_
  refine J.iconst (v := 0) dX12_best_1 (by decide) ?_
  refine J.putI dX12_best_2 fX12_301 (hT.k 79 rfl) rfl ?_
  refine J.aload_n dX12_best_5 rfl rfl ?_
  obtain ⟨hp1, h⟩ := h
  refine J.callVD (k := 79) (as := []) (rest := []) dX12_best_6 kX12_keeps vX12_keeps lX12_317 (hT.k 79 rfl) rfl rfl rfl rfl rfl (by omega) (Nat.le_refl _) (Nat.le_refl _) (qX12_keeps (d + 5) hT  hp1) ?_
  refine J.iconst (v := 0) dX12_best_9 (by decide) ?_
  refine J.istore_n (ls' := [some (.ref 79), some (.int 0), none]) dX12_best_10 rfl rfl rfl ?_
  exact J.weaken (ls' := [some (.ref 79), some (.int 0), none]) (And.intro rfl (And.intro rfl trivial)) (hK11 0 (jX12_keeps (up2 I 79 5 0)) h)
set_option maxHeartbeats 4000000 in
set_option maxRecDepth 100000 in
theorem sX12_best_11 (d : Nat) {T : Topo} (hT : Lay T)     {Q : Int32 → Topo → IM → Prop} {K11 : Int32 → IM → Prop} {K31 : IM → Prop} {K35 : Int32 → Int32 → IM → Prop} (hK11 : ∀ (v1 : Int32) (I : IM), K11 v1 I → J (d + 6) mX12_best (PI Q) 0 0 11 [some (.ref 79), some (.int v1), none] [] T I 0 0) (hK31 : ∀ (I : IM), K31 I → J (d + 6) mX12_best (PI Q) 0 0 31 [some (.ref 79), none, none] [] T I 0 0) (hK35 : ∀ (v1 v2 : Int32) (I : IM), K35 v1 v2 I → J (d + 6) mX12_best (PI Q) 0 0 35 [some (.ref 79), some (.int v1), some (.int v2)] [] T I 0 0) (v1 : Int32) (I : IM) (h : fX12_best_11 T  Q K11 K31 K35 v1 I) : J (d + 6) mX12_best (PI Q) 0 0 11 [some (.ref 79), some (.int v1), none] [] T I 0 0 := by
  unfold fX12_best_11 at h
  refine J.iload_n dX12_best_11 rfl rfl ?_
  refine J.sipush (v := 256) dX12_best_12 (by decide) ?_
  refine J.icmp_ge (tgt := 31) dX12_best_15 (by decide) (fun hc1 => ?_) (fun hc1 => ?_)
  · have h := h.1 hc1
    exact J.weaken (ls' := [some (.ref 79), none, none]) (And.intro rfl trivial) (hK31 I h)
  · have h := h.2 hc1
    refine J.aload_n dX12_best_18 rfl rfl ?_
    refine J.getR (r := 134) dX12_best_19 fX12_177 (hT.k 79 rfl) rfl (hT.r 79 65 rfl rfl) ?_
    refine J.iload_n dX12_best_22 rfl rfl ?_
    refine J.iconst (v := 0) dX12_best_23 (by decide) ?_
    obtain ⟨hs2, h⟩ := h
    refine J.bast dX12_best_24 (hT.k 134 rfl) (hT.l 134 rfl) hs2 (Or.inl rfl) ?_
    refine J.iinc (v := (v1 + 1)) (ls' := [some (.ref 79), some (.int (v1 + 1)), none]) dX12_best_25 rfl (by rfl) rfl ?_
    refine J.goto (tgt := 11) dX12_best_28 (by decide) ?_
    exact J.weaken (ls' := [some (.ref 79), some (.int (v1 + 1)), none]) (And.intro rfl (And.intro rfl trivial)) (hK11 (v1 + 1) (up2 I 134 v1.toNatClampNeg 0) h)
set_option maxHeartbeats 4000000 in
set_option maxRecDepth 100000 in
theorem sX12_best_31 (d : Nat) {T : Topo} (hT : Lay T)     {Q : Int32 → Topo → IM → Prop} {K11 : Int32 → IM → Prop} {K31 : IM → Prop} {K35 : Int32 → Int32 → IM → Prop} (hK11 : ∀ (v1 : Int32) (I : IM), K11 v1 I → J (d + 6) mX12_best (PI Q) 0 0 11 [some (.ref 79), some (.int v1), none] [] T I 0 0) (hK31 : ∀ (I : IM), K31 I → J (d + 6) mX12_best (PI Q) 0 0 31 [some (.ref 79), none, none] [] T I 0 0) (hK35 : ∀ (v1 v2 : Int32) (I : IM), K35 v1 v2 I → J (d + 6) mX12_best (PI Q) 0 0 35 [some (.ref 79), some (.int v1), some (.int v2)] [] T I 0 0) (I : IM) (h : fX12_best_31 T  Q K11 K31 K35 I) : J (d + 6) mX12_best (PI Q) 0 0 31 [some (.ref 79), none, none] [] T I 0 0 := by
  unfold fX12_best_31 at h
  refine J.iconst (v := (-1)) dX12_best_31 (by decide) ?_
  refine J.istore_n (ls' := [some (.ref 79), some (.int (-1)), none]) dX12_best_32 rfl rfl rfl ?_
  refine J.iconst (v := 0) dX12_best_33 (by decide) ?_
  refine J.istore_n (ls' := [some (.ref 79), some (.int (-1)), some (.int 0)]) dX12_best_34 rfl rfl rfl ?_
  exact J.weaken (ls' := [some (.ref 79), some (.int (-1)), some (.int 0)]) (And.intro rfl (And.intro rfl (And.intro rfl trivial))) (hK35 (-1) 0 I h)
set_option maxHeartbeats 4000000 in
set_option maxRecDepth 100000 in
theorem sX12_best_35 (d : Nat) {T : Topo} (hT : Lay T)     {Q : Int32 → Topo → IM → Prop} {K11 : Int32 → IM → Prop} {K31 : IM → Prop} {K35 : Int32 → Int32 → IM → Prop} (hK11 : ∀ (v1 : Int32) (I : IM), K11 v1 I → J (d + 6) mX12_best (PI Q) 0 0 11 [some (.ref 79), some (.int v1), none] [] T I 0 0) (hK31 : ∀ (I : IM), K31 I → J (d + 6) mX12_best (PI Q) 0 0 31 [some (.ref 79), none, none] [] T I 0 0) (hK35 : ∀ (v1 v2 : Int32) (I : IM), K35 v1 v2 I → J (d + 6) mX12_best (PI Q) 0 0 35 [some (.ref 79), some (.int v1), some (.int v2)] [] T I 0 0) (v1 v2 : Int32) (I : IM) (h : fX12_best_35 T  Q K11 K31 K35 v1 v2 I) : J (d + 6) mX12_best (PI Q) 0 0 35 [some (.ref 79), some (.int v1), some (.int v2)] [] T I 0 0 := by
  unfold fX12_best_35 at h
  refine J.iload_n dX12_best_35 rfl rfl ?_
  refine J.iconst (v := 1) dX12_best_36 (by decide) ?_
  refine J.aload_n dX12_best_37 rfl rfl ?_
  refine J.getI dX12_best_38 fX12_196 (hT.k 79 rfl) rfl ?_
  refine J.ishl dX12_best_41 ?_
  refine J.icmp_ge (tgt := 79) dX12_best_42 (by decide) (fun hc1 => ?_) (fun hc1 => ?_)
  · have h := h.1 hc1
    refine J.aload_n dX12_best_79 rfl rfl ?_
    refine J.getR (r := 134) dX12_best_80 fX12_177 (hT.k 79 rfl) rfl (hT.r 79 65 rfl rfl) ?_
    refine J.iload_n dX12_best_83 rfl rfl ?_
    refine J.iconst (v := 1) dX12_best_84 (by decide) ?_
    obtain ⟨hs2, h⟩ := h
    refine J.bast dX12_best_85 (hT.k 134 rfl) (hT.l 134 rfl) hs2 (Or.inr rfl) ?_
    refine J.aload_n dX12_best_86 rfl rfl ?_
    refine J.iload_n dX12_best_87 rfl rfl ?_
    obtain ⟨hp3, h⟩ := h
    refine J.callVE (k := 79) (as := [.int v1]) (rest := []) dX12_best_88 kX12_lays vX12_lays lX12_320 (hT.k 79 rfl) rfl rfl rfl rfl rfl (by omega) (Nat.le_refl _) (Nat.le_refl _) (qX12_lays (d + 0) hT v1 hp3) ?_
    refine J.istore_n (ls' := [some (.ref 79), some (.int v1), some (.int ((jX12_lays (up2 I 134 v1.toNatClampNeg 1) v1).1))]) dX12_best_91 rfl rfl rfl ?_
    refine J.aload_n dX12_best_92 rfl rfl ?_
    obtain ⟨hp4, h⟩ := h
    refine J.callVD (k := 79) (as := []) (rest := []) dX12_best_93 kX12_backTo vX12_backTo lX12_323 (hT.k 79 rfl) rfl rfl rfl rfl rfl (by omega) (Nat.le_refl _) (Nat.le_refl _) (qX12_backTo (d + 5) hT  hp4) ?_
    refine J.iload_n dX12_best_96 rfl rfl ?_
    refine J.ldcw (v := (-1000006)) dX12_best_97 kcX12_304 ?_
    refine J.icmp_ne (tgt := 111) dX12_best_100 (by decide) (fun hc5 => ?_) (fun hc5 => ?_)
    · have h := h.1 hc5
      refine J.iload_n dX12_best_111 rfl rfl ?_
      refine J.iconst (v := 1) dX12_best_112 (by decide) ?_
      refine J.icmp_ne (tgt := 118) dX12_best_113 (by decide) (fun hc6 => ?_) (fun hc6 => ?_)
      · have h := h.1 hc6
        refine J.goto (tgt := 31) dX12_best_118 (by decide) ?_
        exact J.weaken (ls' := [some (.ref 79), none, none]) (And.intro rfl trivial) (hK31 (jX12_backTo (jX12_lays (up2 I 134 v1.toNatClampNeg 1) v1).2) h)
      · have h := h.2 hc6
        refine J.iload_n dX12_best_116 rfl rfl ?_
        exact J.iretQ dX12_best_117 rfl (Nat.le_refl _) (Nat.le_refl _) h
    · have h := h.2 hc5
      refine J.aload_n dX12_best_103 rfl rfl ?_
      refine J.ldcw (v := (-1000006)) dX12_best_104 kcX12_304 ?_
      refine J.callVE (k := 79) (as := [.int (-1000006)]) (rest := []) dX12_best_107 kX12_finds vX12_finds lX12_200 (hT.k 79 rfl) rfl rfl rfl rfl rfl (by omega) (Nat.le_refl _) (Nat.le_refl _) (qX12_finds (d + 5) hT (-1000006) ) ?_
      exact J.iretQ dX12_best_110 rfl (Nat.le_refl _) (Nat.le_refl _) h
  · have h := h.2 hc1
    refine J.aload_n dX12_best_45 rfl rfl ?_
    refine J.getR (r := 134) dX12_best_46 fX12_177 (hT.k 79 rfl) rfl (hT.r 79 65 rfl rfl) ?_
    refine J.iload_n dX12_best_49 rfl rfl ?_
    obtain ⟨hs7, h⟩ := h
    refine J.bald dX12_best_50 (hT.k 134 rfl) (hT.l 134 rfl) hs7 ?_
    refine J.if_ne (tgt := 73) dX12_best_51 (by decide) (fun hc8 => ?_) (fun hc8 => ?_)
    · have h := h.1 hc8
      refine J.iinc (v := (v2 + 1)) (ls' := [some (.ref 79), some (.int v1), some (.int (v2 + 1))]) dX12_best_73 rfl (by rfl) rfl ?_
      refine J.goto (tgt := 35) dX12_best_76 (by decide) ?_
      exact J.weaken (ls' := [some (.ref 79), some (.int v1), some (.int (v2 + 1))]) (And.intro rfl (And.intro rfl (And.intro rfl trivial))) (hK35 v1 (v2 + 1) I h)
    · have h := h.2 hc8
      refine J.iload_n dX12_best_54 rfl rfl ?_
      refine J.if_lt (tgt := 71) dX12_best_55 (by decide) (fun hc9 => ?_) (fun hc9 => ?_)
      · have h := h.1 hc9
        refine J.iload_n dX12_best_71 rfl rfl ?_
        refine J.istore_n (ls' := [some (.ref 79), some (.int v2), some (.int v2)]) dX12_best_72 rfl rfl rfl ?_
        refine J.iinc (v := (v2 + 1)) (ls' := [some (.ref 79), some (.int v2), some (.int (v2 + 1))]) dX12_best_73 rfl (by rfl) rfl ?_
        refine J.goto (tgt := 35) dX12_best_76 (by decide) ?_
        exact J.weaken (ls' := [some (.ref 79), some (.int v2), some (.int (v2 + 1))]) (And.intro rfl (And.intro rfl (And.intro rfl trivial))) (hK35 v2 (v2 + 1) I h)
      · have h := h.2 hc9
        refine J.aload_n dX12_best_58 rfl rfl ?_
        refine J.iload_n dX12_best_59 rfl rfl ?_
        obtain ⟨hp10, h⟩ := h
        refine J.callVP (k := 79) (as := [.int v2]) (rest := []) dX12_best_60 kX12_worthOf vX12_worthOf lX12_326 (hT.k 79 rfl) rfl rfl rfl rfl rfl (by omega) (Nat.le_refl _) (Nat.le_refl _) (qX12_worthOf (d + 4) hT v2 hp10) ?_
        refine J.aload_n dX12_best_63 rfl rfl ?_
        refine J.iload_n dX12_best_64 rfl rfl ?_
        obtain ⟨hp11, h⟩ := h
        refine J.callVP (k := 79) (as := [.int v1]) (rest := [.int (jX12_worthOf I v2)]) dX12_best_65 kX12_worthOf vX12_worthOf lX12_326 (hT.k 79 rfl) rfl rfl rfl rfl rfl (by omega) (Nat.le_refl _) (Nat.le_refl _) (qX12_worthOf (d + 4) hT v1 hp11) ?_
        refine J.icmp_le (tgt := 73) dX12_best_68 (by decide) (fun hc12 => ?_) (fun hc12 => ?_)
        · have h := h.1 hc12
          refine J.iinc (v := (v2 + 1)) (ls' := [some (.ref 79), some (.int v1), some (.int (v2 + 1))]) dX12_best_73 rfl (by rfl) rfl ?_
          refine J.goto (tgt := 35) dX12_best_76 (by decide) ?_
          exact J.weaken (ls' := [some (.ref 79), some (.int v1), some (.int (v2 + 1))]) (And.intro rfl (And.intro rfl (And.intro rfl trivial))) (hK35 v1 (v2 + 1) I h)
        · have h := h.2 hc12
          refine J.iload_n dX12_best_71 rfl rfl ?_
          refine J.istore_n (ls' := [some (.ref 79), some (.int v2), some (.int v2)]) dX12_best_72 rfl rfl rfl ?_
          refine J.iinc (v := (v2 + 1)) (ls' := [some (.ref 79), some (.int v2), some (.int (v2 + 1))]) dX12_best_73 rfl (by rfl) rfl ?_
          refine J.goto (tgt := 35) dX12_best_76 (by decide) ?_
          exact J.weaken (ls' := [some (.ref 79), some (.int v2), some (.int (v2 + 1))]) (And.intro rfl (And.intro rfl (And.intro rfl trivial))) (hK35 v2 (v2 + 1) I h)
set_option maxHeartbeats 4000000 in
set_option maxRecDepth 100000 in
theorem wX12_best (d : Nat) {T : Topo} (hT : Lay T)    {Q : Int32 → Topo → IM → Prop} (V11 : Int32 → IM → Prop) (μ11 : Int32 → IM → Nat) (V31 : IM → Prop) (μ31 : IM → Nat) (V35 : Int32 → Int32 → IM → Prop) (μ35 : Int32 → Int32 → IM → Nat) (vc11 : ∀ (v1 : Int32) (I : IM), V11 v1 I → fX12_best_11 T  Q (fun w1 I_ => V11 w1 I_ ∧ μ11 w1 I_ < μ11 v1 I) (fun I_ => V31 I_ ∧ μ31 I_ < μ11 v1 I) (fun w1 w2 I_ => V35 w1 w2 I_ ∧ μ35 w1 w2 I_ < μ11 v1 I) v1 I) (vc31 : ∀ (I : IM), V31 I → fX12_best_31 T  Q (fun w1 I_ => V11 w1 I_ ∧ μ11 w1 I_ < μ31 I) (fun I_ => V31 I_ ∧ μ31 I_ < μ31 I) (fun w1 w2 I_ => V35 w1 w2 I_ ∧ μ35 w1 w2 I_ < μ31 I) I) (vc35 : ∀ (v1 v2 : Int32) (I : IM), V35 v1 v2 I → fX12_best_35 T  Q (fun w1 I_ => V11 w1 I_ ∧ μ11 w1 I_ < μ35 v1 v2 I) (fun I_ => V31 I_ ∧ μ31 I_ < μ35 v1 v2 I) (fun w1 w2 I_ => V35 w1 w2 I_ ∧ μ35 w1 w2 I_ < μ35 v1 v2 I) v1 v2 I) {I : IM} (h : fX12_best_0 T  Q V11 V31 V35 I) : Ct (d + 6) mX12_best [.ref 79] T I 0 0 (PI Q) := by
  have all : ∀ n : Nat, (∀ (v1 : Int32) (I : IM), V11 v1 I → μ11 v1 I < n → J (d + 6) mX12_best (PI Q) 0 0 11 [some (.ref 79), some (.int v1), none] [] T I 0 0) ∧ (∀ (I : IM), V31 I → μ31 I < n → J (d + 6) mX12_best (PI Q) 0 0 31 [some (.ref 79), none, none] [] T I 0 0) ∧ (∀ (v1 v2 : Int32) (I : IM), V35 v1 v2 I → μ35 v1 v2 I < n → J (d + 6) mX12_best (PI Q) 0 0 35 [some (.ref 79), some (.int v1), some (.int v2)] [] T I 0 0) := by
    intro n
    induction n with
    | zero => exact ⟨fun _ _ _ hn => absurd hn (Nat.not_lt_zero _), fun _ _ hn => absurd hn (Nat.not_lt_zero _), fun _ _ _ _ hn => absurd hn (Nat.not_lt_zero _)⟩
    | succ n ih =>
      exact ⟨fun v1 I hv hn => sX12_best_11 d hT    (fun w1 I_ hw => ih.1 w1 I_ hw.1 (by have := hw.2; omega)) (fun I_ hw => ih.2.1 I_ hw.1 (by have := hw.2; omega)) (fun w1 w2 I_ hw => ih.2.2 w1 w2 I_ hw.1 (by have := hw.2; omega)) v1 I (vc11 v1 I hv), fun I hv hn => sX12_best_31 d hT    (fun w1 I_ hw => ih.1 w1 I_ hw.1 (by have := hw.2; omega)) (fun I_ hw => ih.2.1 I_ hw.1 (by have := hw.2; omega)) (fun w1 w2 I_ hw => ih.2.2 w1 w2 I_ hw.1 (by have := hw.2; omega)) I (vc31 I hv), fun v1 v2 I hv hn => sX12_best_35 d hT    (fun w1 I_ hw => ih.1 w1 I_ hw.1 (by have := hw.2; omega)) (fun I_ hw => ih.2.1 I_ hw.1 (by have := hw.2; omega)) (fun w1 w2 I_ hw => ih.2.2 w1 w2 I_ hw.1 (by have := hw.2; omega)) v1 v2 I (vc35 v1 v2 I hv)⟩
  exact Ct.ofJ (by decide +kernel) rfl (by intro v hv; revert v hv; simp [Value.category]) rfl (sX12_best_0 d hT    (fun w1 I_ hw => (all (μ11 w1 I_ + 1)).1 w1 I_ hw (Nat.lt_succ_self _)) (fun I_ hw => (all (μ31 I_ + 1)).2.1 I_ hw (Nat.lt_succ_self _)) (fun w1 w2 I_ hw => (all (μ35 w1 w2 I_ + 1)).2.2 w1 w2 I_ hw (Nat.lt_succ_self _)) I h)

def jX12_bestB11  (F : (Nat → Int32 → Int32 → IM → Int32 × IM)) (v1 v2 : Int32) (I : IM) : Int32 × IM := (if 256 ≤ v1 then (F 1 0 0 I) else (F 0 (v1 + 1) 0 (up2 I 134 v1.toNatClampNeg 0)))
def jX12_bestC11  (F : (Nat → Int32 → Int32 → IM → Prop)) (v1 v2 : Int32) (I : IM) : Prop := (((256 ≤ v1) → (F 1 0 0 I)) ∧ ((¬ 256 ≤ v1) → (vp_in v1 256 ∧ (F 0 (v1 + 1) 0 (up2 I 134 v1.toNatClampNeg 0)))))
def jX12_bestB31  (F : (Nat → Int32 → Int32 → IM → Int32 × IM)) (v1 v2 : Int32) (I : IM) : Int32 × IM := (F 2 (-1) 0 I)
def jX12_bestC31  (F : (Nat → Int32 → Int32 → IM → Prop)) (v1 v2 : Int32) (I : IM) : Prop := (F 2 (-1) 0 I)
def jX12_bestB35  (F : (Nat → Int32 → Int32 → IM → Int32 × IM)) (v1 v2 : Int32) (I : IM) : Int32 × IM := (if ((1 : Int32) <<< ((I 79 2) &&& 31)) ≤ v2 then (if ((jX12_lays (up2 I 134 v1.toNatClampNeg 1) v1).1) = (-1000006) then ((jX12_finds (-1000006)), (jX12_findsM (jX12_backTo (jX12_lays (up2 I 134 v1.toNatClampNeg 1) v1).2))) else (if ((jX12_lays (up2 I 134 v1.toNatClampNeg 1) v1).1) = 1 then (v1, (jX12_backTo (jX12_lays (up2 I 134 v1.toNatClampNeg 1) v1).2)) else (F 1 0 0 (jX12_backTo (jX12_lays (up2 I 134 v1.toNatClampNeg 1) v1).2)))) else (if (I 134 v2.toNatClampNeg) = 0 then (if v1 < 0 then (F 2 v2 (v2 + 1) I) else (if (jX12_worthOf I v2) ≤ (jX12_worthOf I v1) then (F 2 v1 (v2 + 1) I) else (F 2 v2 (v2 + 1) I))) else (F 2 v1 (v2 + 1) I)))
def jX12_bestC35  (F : (Nat → Int32 → Int32 → IM → Prop)) (v1 v2 : Int32) (I : IM) : Prop := (((((1 : Int32) <<< ((I 79 2) &&& 31)) ≤ v2) → (vp_in v1 256 ∧ (((jX12_laysK (up2 I 134 v1.toNatClampNeg 1) v1)) ∧ (((jX12_backToK (jX12_lays (up2 I 134 v1.toNatClampNeg 1) v1).2)) ∧ (((¬ ((jX12_lays (up2 I 134 v1.toNatClampNeg 1) v1).1) = (-1000006)) → (((¬ ((jX12_lays (up2 I 134 v1.toNatClampNeg 1) v1).1) = 1) → (F 1 0 0 (jX12_backTo (jX12_lays (up2 I 134 v1.toNatClampNeg 1) v1).2))) ∧ ((((jX12_lays (up2 I 134 v1.toNatClampNeg 1) v1).1) = 1) → True))) ∧ ((((jX12_lays (up2 I 134 v1.toNatClampNeg 1) v1).1) = (-1000006)) → True)))))) ∧ ((¬ ((1 : Int32) <<< ((I 79 2) &&& 31)) ≤ v2) → (vp_in v2 256 ∧ (((¬ (I 134 v2.toNatClampNeg) = 0) → (F 2 v1 (v2 + 1) I)) ∧ (((I 134 v2.toNatClampNeg) = 0) → (((v1 < 0) → (F 2 v2 (v2 + 1) I)) ∧ ((¬ v1 < 0) → (((jX12_worthOfK I v2)) ∧ (((jX12_worthOfK I v1)) ∧ ((((jX12_worthOf I v2) ≤ (jX12_worthOf I v1)) → (F 2 v1 (v2 + 1) I)) ∧ ((¬ (jX12_worthOf I v2) ≤ (jX12_worthOf I v1)) → (F 2 v2 (v2 + 1) I))))))))))))
def jX12_bestI  : Nat → Nat → Int32 → Int32 → IM → Int32 × IM
  | 0 => fun _ _ _ I => (0, I)
  | n + 1 => fun tg v1 v2 I => (if tg = 0 then jX12_bestB11  (jX12_bestI  n) v1 v2 I else (if tg = 1 then jX12_bestB31  (jX12_bestI  n) v1 v2 I else (if tg = 2 then jX12_bestB35  (jX12_bestI  n) v1 v2 I else (0, I))))
def jX12_bestO  : Nat → Nat → Int32 → Int32 → IM → Prop
  | 0 => fun _ _ _ _ => False
  | n + 1 => fun tg v1 v2 I => (if tg = 0 then jX12_bestC11  (jX12_bestO  n) v1 v2 I else (if tg = 1 then jX12_bestC31  (jX12_bestO  n) v1 v2 I else (if tg = 2 then jX12_bestC35  (jX12_bestO  n) v1 v2 I else True)))
theorem jX12_bestI_11  (n : Nat) (v1 v2 : Int32) (I : IM) : jX12_bestI  (n + 1) 0 v1 v2 I = (if 256 ≤ v1 then (jX12_bestI  n 1 0 0 I) else (jX12_bestI  n 0 (v1 + 1) 0 (up2 I 134 v1.toNatClampNeg 0))) := by
  show (if (0 : Nat) = 0 then jX12_bestB11  (jX12_bestI  n) v1 v2 I else (if (0 : Nat) = 1 then jX12_bestB31  (jX12_bestI  n) v1 v2 I else (if (0 : Nat) = 2 then jX12_bestB35  (jX12_bestI  n) v1 v2 I else (0, I)))) = _
  rw [if_pos rfl]; rfl
theorem jX12_bestO_11  (n : Nat) (v1 v2 : Int32) (I : IM) : jX12_bestO  (n + 1) 0 v1 v2 I = (((256 ≤ v1) → (jX12_bestO  n 1 0 0 I)) ∧ ((¬ 256 ≤ v1) → (vp_in v1 256 ∧ (jX12_bestO  n 0 (v1 + 1) 0 (up2 I 134 v1.toNatClampNeg 0))))) := by
  show (if (0 : Nat) = 0 then jX12_bestC11  (jX12_bestO  n) v1 v2 I else (if (0 : Nat) = 1 then jX12_bestC31  (jX12_bestO  n) v1 v2 I else (if (0 : Nat) = 2 then jX12_bestC35  (jX12_bestO  n) v1 v2 I else True))) = _
  rw [if_pos rfl]; rfl
theorem jX12_bestI_31  (n : Nat) (v1 v2 : Int32) (I : IM) : jX12_bestI  (n + 1) 1 v1 v2 I = (jX12_bestI  n 2 (-1) 0 I) := by
  show (if (1 : Nat) = 0 then jX12_bestB11  (jX12_bestI  n) v1 v2 I else (if (1 : Nat) = 1 then jX12_bestB31  (jX12_bestI  n) v1 v2 I else (if (1 : Nat) = 2 then jX12_bestB35  (jX12_bestI  n) v1 v2 I else (0, I)))) = _
  rw [if_neg (by decide), if_pos rfl]; rfl
theorem jX12_bestO_31  (n : Nat) (v1 v2 : Int32) (I : IM) : jX12_bestO  (n + 1) 1 v1 v2 I = (jX12_bestO  n 2 (-1) 0 I) := by
  show (if (1 : Nat) = 0 then jX12_bestC11  (jX12_bestO  n) v1 v2 I else (if (1 : Nat) = 1 then jX12_bestC31  (jX12_bestO  n) v1 v2 I else (if (1 : Nat) = 2 then jX12_bestC35  (jX12_bestO  n) v1 v2 I else True))) = _
  rw [if_neg (by decide), if_pos rfl]; rfl
theorem jX12_bestI_35  (n : Nat) (v1 v2 : Int32) (I : IM) : jX12_bestI  (n + 1) 2 v1 v2 I = (if ((1 : Int32) <<< ((I 79 2) &&& 31)) ≤ v2 then (if ((jX12_lays (up2 I 134 v1.toNatClampNeg 1) v1).1) = (-1000006) then ((jX12_finds (-1000006)), (jX12_findsM (jX12_backTo (jX12_lays (up2 I 134 v1.toNatClampNeg 1) v1).2))) else (if ((jX12_lays (up2 I 134 v1.toNatClampNeg 1) v1).1) = 1 then (v1, (jX12_backTo (jX12_lays (up2 I 134 v1.toNatClampNeg 1) v1).2)) else (jX12_bestI  n 1 0 0 (jX12_backTo (jX12_lays (up2 I 134 v1.toNatClampNeg 1) v1).2)))) else (if (I 134 v2.toNatClampNeg) = 0 then (if v1 < 0 then (jX12_bestI  n 2 v2 (v2 + 1) I) else (if (jX12_worthOf I v2) ≤ (jX12_worthOf I v1) then (jX12_bestI  n 2 v1 (v2 + 1) I) else (jX12_bestI  n 2 v2 (v2 + 1) I))) else (jX12_bestI  n 2 v1 (v2 + 1) I))) := by
  show (if (2 : Nat) = 0 then jX12_bestB11  (jX12_bestI  n) v1 v2 I else (if (2 : Nat) = 1 then jX12_bestB31  (jX12_bestI  n) v1 v2 I else (if (2 : Nat) = 2 then jX12_bestB35  (jX12_bestI  n) v1 v2 I else (0, I)))) = _
  rw [if_neg (by decide), if_neg (by decide), if_pos rfl]; rfl
theorem jX12_bestO_35  (n : Nat) (v1 v2 : Int32) (I : IM) : jX12_bestO  (n + 1) 2 v1 v2 I = (((((1 : Int32) <<< ((I 79 2) &&& 31)) ≤ v2) → (vp_in v1 256 ∧ (((jX12_laysK (up2 I 134 v1.toNatClampNeg 1) v1)) ∧ (((jX12_backToK (jX12_lays (up2 I 134 v1.toNatClampNeg 1) v1).2)) ∧ (((¬ ((jX12_lays (up2 I 134 v1.toNatClampNeg 1) v1).1) = (-1000006)) → (((¬ ((jX12_lays (up2 I 134 v1.toNatClampNeg 1) v1).1) = 1) → (jX12_bestO  n 1 0 0 (jX12_backTo (jX12_lays (up2 I 134 v1.toNatClampNeg 1) v1).2))) ∧ ((((jX12_lays (up2 I 134 v1.toNatClampNeg 1) v1).1) = 1) → True))) ∧ ((((jX12_lays (up2 I 134 v1.toNatClampNeg 1) v1).1) = (-1000006)) → True)))))) ∧ ((¬ ((1 : Int32) <<< ((I 79 2) &&& 31)) ≤ v2) → (vp_in v2 256 ∧ (((¬ (I 134 v2.toNatClampNeg) = 0) → (jX12_bestO  n 2 v1 (v2 + 1) I)) ∧ (((I 134 v2.toNatClampNeg) = 0) → (((v1 < 0) → (jX12_bestO  n 2 v2 (v2 + 1) I)) ∧ ((¬ v1 < 0) → (((jX12_worthOfK I v2)) ∧ (((jX12_worthOfK I v1)) ∧ ((((jX12_worthOf I v2) ≤ (jX12_worthOf I v1)) → (jX12_bestO  n 2 v1 (v2 + 1) I)) ∧ ((¬ (jX12_worthOf I v2) ≤ (jX12_worthOf I v1)) → (jX12_bestO  n 2 v2 (v2 + 1) I)))))))))))) := by
  show (if (2 : Nat) = 0 then jX12_bestC11  (jX12_bestO  n) v1 v2 I else (if (2 : Nat) = 1 then jX12_bestC31  (jX12_bestO  n) v1 v2 I else (if (2 : Nat) = 2 then jX12_bestC35  (jX12_bestO  n) v1 v2 I else True))) = _
  rw [if_neg (by decide), if_neg (by decide), if_pos rfl]; rfl
def jX12_best (I : IM)  : Int32 × IM := (jX12_bestI  FU 0 0 0 (jX12_keeps (up2 I 79 5 0)))
def jX12_bestK (I : IM)  : Prop := (((jX12_keepsK (up2 I 79 5 0))) ∧ (jX12_bestO  FU 0 0 0 (jX12_keeps (up2 I 79 5 0))))
set_option maxRecDepth 10000 in
set_option maxHeartbeats 1000000 in
theorem uX12_best (d : Nat) {T : Topo} (hT : Lay T)    {R : Int32 × IM} : ∀ n : Nat, (∀ (v1 : Int32) (I : IM), jX12_bestO  n 0 v1 0 I → jX12_bestI  n 0 v1 0 I = R → J (d + 6) mX12_best (PI (fun x T' I' => T' = T ∧ x = R.1 ∧ I' = R.2)) 0 0 11 [some (.ref 79), some (.int v1), none] [] T I 0 0) ∧ (∀ (I : IM), jX12_bestO  n 1 0 0 I → jX12_bestI  n 1 0 0 I = R → J (d + 6) mX12_best (PI (fun x T' I' => T' = T ∧ x = R.1 ∧ I' = R.2)) 0 0 31 [some (.ref 79), none, none] [] T I 0 0) ∧ (∀ (v1 v2 : Int32) (I : IM), jX12_bestO  n 2 v1 v2 I → jX12_bestI  n 2 v1 v2 I = R → J (d + 6) mX12_best (PI (fun x T' I' => T' = T ∧ x = R.1 ∧ I' = R.2)) 0 0 35 [some (.ref 79), some (.int v1), some (.int v2)] [] T I 0 0) := by
  intro n
  induction n with
  | zero => exact ⟨fun _ _ hz => hz.elim, fun _ hz => hz.elim, fun _ _ _ hz => hz.elim⟩
  | succ n ih =>
    refine ⟨?_, ?_, ?_⟩
    · exact fun v1 I hok hit => by
        rw [jX12_bestO_11] at hok
        exact sX12_best_11 d hT    (K11 := fun w1 I_ => (jX12_bestO  n 0 w1 0 I_ ∧ jX12_bestI  n 0 w1 0 I_ = R)) (K31 := fun I_ => (jX12_bestO  n 1 0 0 I_ ∧ jX12_bestI  n 1 0 0 I_ = R)) (K35 := fun w1 w2 I_ => (jX12_bestO  n 2 w1 w2 I_ ∧ jX12_bestI  n 2 w1 w2 I_ = R)) (fun w1 I_ hw => ih.1 w1 I_ hw.1 hw.2) (fun I_ hw => ih.2.1 I_ hw.1 hw.2) (fun w1 w2 I_ hw => ih.2.2 w1 w2 I_ hw.1 hw.2) v1 I (by
          unfold fX12_best_11
          exact ⟨fun hc1 => ⟨(hok).1 hc1, by rw [jX12_bestI_11, if_pos hc1] at hit; exact hit⟩, fun hc1 => ⟨((hok).2 hc1).1, ⟨((hok).2 hc1).2, by rw [jX12_bestI_11, if_neg hc1] at hit; exact hit⟩⟩⟩)
    · exact fun I hok hit => by
        rw [jX12_bestO_31] at hok
        exact sX12_best_31 d hT    (K11 := fun w1 I_ => (jX12_bestO  n 0 w1 0 I_ ∧ jX12_bestI  n 0 w1 0 I_ = R)) (K31 := fun I_ => (jX12_bestO  n 1 0 0 I_ ∧ jX12_bestI  n 1 0 0 I_ = R)) (K35 := fun w1 w2 I_ => (jX12_bestO  n 2 w1 w2 I_ ∧ jX12_bestI  n 2 w1 w2 I_ = R)) (fun w1 I_ hw => ih.1 w1 I_ hw.1 hw.2) (fun I_ hw => ih.2.1 I_ hw.1 hw.2) (fun w1 w2 I_ hw => ih.2.2 w1 w2 I_ hw.1 hw.2) I (by
          unfold fX12_best_31
          exact ⟨hok, by rw [jX12_bestI_31] at hit; exact hit⟩)
    · exact fun v1 v2 I hok hit => by
        rw [jX12_bestO_35] at hok
        exact sX12_best_35 d hT    (K11 := fun w1 I_ => (jX12_bestO  n 0 w1 0 I_ ∧ jX12_bestI  n 0 w1 0 I_ = R)) (K31 := fun I_ => (jX12_bestO  n 1 0 0 I_ ∧ jX12_bestI  n 1 0 0 I_ = R)) (K35 := fun w1 w2 I_ => (jX12_bestO  n 2 w1 w2 I_ ∧ jX12_bestI  n 2 w1 w2 I_ = R)) (fun w1 I_ hw => ih.1 w1 I_ hw.1 hw.2) (fun I_ hw => ih.2.1 I_ hw.1 hw.2) (fun w1 w2 I_ hw => ih.2.2 w1 w2 I_ hw.1 hw.2) v1 v2 I (by
          unfold fX12_best_35
          exact ⟨fun hc1 => ⟨((hok).1 hc1).1, ⟨(((hok).1 hc1).2).1, ⟨((((hok).1 hc1).2).2).1, ⟨fun hc2 => ⟨fun hc3 => ⟨((((((hok).1 hc1).2).2).2).1 hc2).1 hc3, by rw [jX12_bestI_35, if_pos hc1, if_neg hc2, if_neg hc3] at hit; exact hit⟩, fun hc3 => (by rw [jX12_bestI_35, if_pos hc1, if_neg hc2, if_pos hc3] at hit; exact ⟨rfl, by rw [← hit], by rw [← hit]⟩)⟩, fun hc2 => (by rw [jX12_bestI_35, if_pos hc1, if_pos hc2] at hit; exact ⟨rfl, by rw [← hit], by rw [← hit]⟩)⟩⟩⟩⟩, fun hc1 => ⟨((hok).2 hc1).1, ⟨fun hc4 => ⟨(((hok).2 hc1).2).1 hc4, by rw [jX12_bestI_35, if_neg hc1, if_neg hc4] at hit; exact hit⟩, fun hc4 => ⟨fun hc5 => ⟨((((hok).2 hc1).2).2 hc4).1 hc5, by rw [jX12_bestI_35, if_neg hc1, if_pos hc4, if_pos hc5] at hit; exact hit⟩, fun hc5 => ⟨(((((hok).2 hc1).2).2 hc4).2 hc5).1, ⟨((((((hok).2 hc1).2).2 hc4).2 hc5).2).1, ⟨fun hc6 => ⟨(((((((hok).2 hc1).2).2 hc4).2 hc5).2).2).1 hc6, by rw [jX12_bestI_35, if_neg hc1, if_pos hc4, if_neg hc5, if_pos hc6] at hit; exact hit⟩, fun hc6 => ⟨(((((((hok).2 hc1).2).2 hc4).2 hc5).2).2).2 hc6, by rw [jX12_bestI_35, if_neg hc1, if_pos hc4, if_neg hc5, if_neg hc6] at hit; exact hit⟩⟩⟩⟩⟩⟩⟩⟩)
set_option maxRecDepth 10000 in
set_option maxHeartbeats 1000000 in
theorem qX12_best (d : Nat) {T : Topo} {I : IM} (hT : Lay T)   (hp : (jX12_bestK I)) : CtI (d + 6) mX12_best [.ref 79] T I (fun x_ J_ => x_ = (jX12_best I).1 ∧ J_ = (jX12_best I).2) := by
  unfold jX12_bestK at hp
  exact Ct.ofJ (by decide +kernel) rfl (by intro v hv; revert v hv; simp [Value.category]) rfl (sX12_best_0 d hT    (K11 := fun w1 I_ => (jX12_bestO  FU 0 w1 0 I_ ∧ jX12_bestI  FU 0 w1 0 I_ = (jX12_best I ))) (K31 := fun I_ => (jX12_bestO  FU 1 0 0 I_ ∧ jX12_bestI  FU 1 0 0 I_ = (jX12_best I ))) (K35 := fun w1 w2 I_ => (jX12_bestO  FU 2 w1 w2 I_ ∧ jX12_bestI  FU 2 w1 w2 I_ = (jX12_best I ))) (fun w1 I_ hw => (uX12_best d hT    FU).1 w1 I_ hw.1 hw.2) (fun I_ hw => (uX12_best d hT    FU).2.1 I_ hw.1 hw.2) (fun w1 w2 I_ hw => (uX12_best d hT    FU).2.2 w1 w2 I_ hw.1 hw.2) I (by
    unfold fX12_best_0
    exact ⟨(hp).1, ⟨(hp).2, rfl⟩⟩))

def fX12_lay_0 (T : Topo) (a1 : Int32) (Q : Int32 → Topo → IM → Prop) (K64 : Int32 → Int32 → IM → Prop) (I : IM) : Prop :=
  ((((¬ (jX12_isOfThem I a1) = 0) → (((jX12_keepsK (up2 I 79 5 0))) ∧ (((jX12_laysK (jX12_keeps (up2 I 79 5 0)) a1)) ∧ (((((jX12_lays (jX12_keeps (up2 I 79 5 0)) a1).1) = 1) → K64 0 0 (jX12_lays (jX12_keeps (up2 I 79 5 0)) a1).2) ∧ ((¬ ((jX12_lays (jX12_keeps (up2 I 79 5 0)) a1).1) = 1) → (((jX12_backToK (jX12_lays (jX12_keeps (up2 I 79 5 0)) a1).2)) ∧ (((¬ ((jX12_lays (jX12_keeps (up2 I 79 5 0)) a1).1) = (-1000006)) → (Q (jX12_finds (-1000005)) T (jX12_findsM (jX12_backTo (jX12_lays (jX12_keeps (up2 I 79 5 0)) a1).2)))) ∧ ((((jX12_lays (jX12_keeps (up2 I 79 5 0)) a1).1) = (-1000006)) → (Q (jX12_finds (-1000006)) T (jX12_findsM (jX12_backTo (jX12_lays (jX12_keeps (up2 I 79 5 0)) a1).2))))))))))) ∧ (((jX12_isOfThem I a1) = 0) → (Q (jX12_finds (-1000001)) T (jX12_findsM I)))))
def fX12_lay_64 (T : Topo) (a1 : Int32) (Q : Int32 → Topo → IM → Prop) (K64 : Int32 → Int32 → IM → Prop) (v3 v4 : Int32) (I : IM) : Prop :=
  ((((I 79 2) ≤ v4) → Q v3 T I) ∧ ((¬ (I 79 2) ≤ v4) → (vp_in v4 8 ∧ ((((I 106 v4.toNatClampNeg) = 0) → (vp_in v4 8 ∧ ((((I 128 v4.toNatClampNeg) = 0) → K64 (v3 + 0) (v4 + 1) I) ∧ ((¬ (I 128 v4.toNatClampNeg) = 0) → K64 (v3 + 1) (v4 + 1) I)))) ∧ ((¬ (I 106 v4.toNatClampNeg) = 0) → (vp_in v4 8 ∧ (vp_in v4 8 ∧ (((¬ (I 107 v4.toNatClampNeg) = (I 129 v4.toNatClampNeg)) → (vp_in v4 8 ∧ ((((I 128 v4.toNatClampNeg) = 0) → K64 (v3 + 0) (v4 + 1) I) ∧ ((¬ (I 128 v4.toNatClampNeg) = 0) → K64 (v3 + 1) (v4 + 1) I)))) ∧ (((I 107 v4.toNatClampNeg) = (I 129 v4.toNatClampNeg)) → (vp_in v4 8 ∧ (vp_in v4 8 ∧ (((¬ (I 109 v4.toNatClampNeg) = (I 131 v4.toNatClampNeg)) → (vp_in v4 8 ∧ ((((I 128 v4.toNatClampNeg) = 0) → K64 (v3 + 0) (v4 + 1) I) ∧ ((¬ (I 128 v4.toNatClampNeg) = 0) → K64 (v3 + 1) (v4 + 1) I)))) ∧ (((I 109 v4.toNatClampNeg) = (I 131 v4.toNatClampNeg)) → (vp_in v4 8 ∧ (vp_in v4 8 ∧ (((¬ (I 108 v4.toNatClampNeg) = (I 130 v4.toNatClampNeg)) → (vp_in v4 8 ∧ ((((I 128 v4.toNatClampNeg) = 0) → K64 (v3 + 0) (v4 + 1) I) ∧ ((¬ (I 128 v4.toNatClampNeg) = 0) → K64 (v3 + 1) (v4 + 1) I)))) ∧ (((I 108 v4.toNatClampNeg) = (I 130 v4.toNatClampNeg)) → (vp_in v4 8 ∧ (vp_in v4 8 ∧ (((¬ (I 110 v4.toNatClampNeg) = (I 132 v4.toNatClampNeg)) → (vp_in v4 8 ∧ ((((I 128 v4.toNatClampNeg) = 0) → K64 (v3 + 0) (v4 + 1) I) ∧ ((¬ (I 128 v4.toNatClampNeg) = 0) → K64 (v3 + 1) (v4 + 1) I)))) ∧ (((I 110 v4.toNatClampNeg) = (I 132 v4.toNatClampNeg)) → (vp_in v4 8 ∧ (vp_in v4 8 ∧ (((¬ (I 111 v4.toNatClampNeg) = (I 133 v4.toNatClampNeg)) → (vp_in v4 8 ∧ ((((I 128 v4.toNatClampNeg) = 0) → K64 (v3 + 0) (v4 + 1) I) ∧ ((¬ (I 128 v4.toNatClampNeg) = 0) → K64 (v3 + 1) (v4 + 1) I)))) ∧ (((I 111 v4.toNatClampNeg) = (I 133 v4.toNatClampNeg)) → (vp_in v4 8 ∧ ((((I 128 v4.toNatClampNeg) = 0) → K64 (v3 + 0) (v4 + 1) I) ∧ ((¬ (I 128 v4.toNatClampNeg) = 0) → K64 (v3 + 0) (v4 + 1) I))))))))))))))))))))))))))))
set_option maxHeartbeats 4000000 in
set_option maxRecDepth 100000 in
theorem sX12_lay_0 (d : Nat) {T : Topo} (hT : Lay T) (a1 : Int32)    {Q : Int32 → Topo → IM → Prop} {K64 : Int32 → Int32 → IM → Prop} (hK64 : ∀ (v3 v4 : Int32) (I : IM), K64 v3 v4 I → J (d + 6) mX12_lay (PI Q) 0 0 64 [some (.ref 79), none, none, some (.int v3), some (.int v4), none] [] T I 0 0) (I : IM) (h : fX12_lay_0 T a1 Q K64 I) : J (d + 6) mX12_lay (PI Q) 0 0 0 [some (.ref 79), some (.int a1), none, none, none, none] [] T I 0 0 := by
  unfold fX12_lay_0 at h
  refine J.aload_n dX12_lay_0 rfl rfl ?_
  refine J.iload_n dX12_lay_1 rfl rfl ?_
  refine J.callVP (k := 79) (as := [.int a1]) (rest := []) dX12_lay_2 kX12_isOfThem vX12_isOfThem lX12_314 (hT.k 79 rfl) rfl rfl rfl rfl rfl (by omega) (Nat.le_refl _) (Nat.le_refl _) (qX12_isOfThem (d + 5) hT a1 ) ?_
  refine J.if_ne (tgt := 15) dX12_lay_5 (by decide) (fun hc1 => ?_) (fun hc1 => ?_)
  · have h := h.1 hc1
    refine J.aload_n dX12_lay_15 rfl rfl ?_
    refine J.iconst (v := 0) dX12_lay_16 (by decide) ?_
    refine J.putI dX12_lay_17 fX12_301 (hT.k 79 rfl) rfl ?_
    refine J.aload_n dX12_lay_20 rfl rfl ?_
    obtain ⟨hp2, h⟩ := h
    refine J.callVD (k := 79) (as := []) (rest := []) dX12_lay_21 kX12_keeps vX12_keeps lX12_317 (hT.k 79 rfl) rfl rfl rfl rfl rfl (by omega) (Nat.le_refl _) (Nat.le_refl _) (qX12_keeps (d + 5) hT  hp2) ?_
    refine J.aload_n dX12_lay_24 rfl rfl ?_
    refine J.iload_n dX12_lay_25 rfl rfl ?_
    obtain ⟨hp3, h⟩ := h
    refine J.callVE (k := 79) (as := [.int a1]) (rest := []) dX12_lay_26 kX12_lays vX12_lays lX12_320 (hT.k 79 rfl) rfl rfl rfl rfl rfl (by omega) (Nat.le_refl _) (Nat.le_refl _) (qX12_lays (d + 0) hT a1 hp3) ?_
    refine J.istore_n (ls' := [some (.ref 79), some (.int a1), some (.int ((jX12_lays (jX12_keeps (up2 I 79 5 0)) a1).1)), none, none, none]) dX12_lay_29 rfl rfl rfl ?_
    refine J.iload_n dX12_lay_30 rfl rfl ?_
    refine J.iconst (v := 1) dX12_lay_31 (by decide) ?_
    refine J.icmp_eq (tgt := 59) dX12_lay_32 (by decide) (fun hc4 => ?_) (fun hc4 => ?_)
    · have h := h.1 hc4
      refine J.iconst (v := 0) dX12_lay_59 (by decide) ?_
      refine J.istore_n (ls' := [some (.ref 79), some (.int a1), some (.int ((jX12_lays (jX12_keeps (up2 I 79 5 0)) a1).1)), some (.int 0), none, none]) dX12_lay_60 rfl rfl rfl ?_
      refine J.iconst (v := 0) dX12_lay_61 (by decide) ?_
      refine J.istore (ls' := [some (.ref 79), some (.int a1), some (.int ((jX12_lays (jX12_keeps (up2 I 79 5 0)) a1).1)), some (.int 0), some (.int 0), none]) dX12_lay_62 rfl rfl ?_
      exact J.weaken (ls' := [some (.ref 79), none, none, some (.int 0), some (.int 0), none]) (And.intro rfl (And.intro rfl (And.intro rfl trivial))) (hK64 0 0 (jX12_lays (jX12_keeps (up2 I 79 5 0)) a1).2 h)
    · have h := h.2 hc4
      refine J.aload_n dX12_lay_35 rfl rfl ?_
      obtain ⟨hp5, h⟩ := h
      refine J.callVD (k := 79) (as := []) (rest := []) dX12_lay_36 kX12_backTo vX12_backTo lX12_323 (hT.k 79 rfl) rfl rfl rfl rfl rfl (by omega) (Nat.le_refl _) (Nat.le_refl _) (qX12_backTo (d + 5) hT  hp5) ?_
      refine J.aload_n dX12_lay_39 rfl rfl ?_
      refine J.iload_n dX12_lay_40 rfl rfl ?_
      refine J.ldcw (v := (-1000006)) dX12_lay_41 kcX12_304 ?_
      refine J.icmp_ne (tgt := 53) dX12_lay_44 (by decide) (fun hc6 => ?_) (fun hc6 => ?_)
      · have h := h.1 hc6
        refine J.ldc (v := (-1000005)) dX12_lay_53 kcX12_230 ?_
        refine J.callVE (k := 79) (as := [.int (-1000005)]) (rest := []) dX12_lay_55 kX12_finds vX12_finds lX12_200 (hT.k 79 rfl) rfl rfl rfl rfl rfl (by omega) (Nat.le_refl _) (Nat.le_refl _) (qX12_finds (d + 5) hT (-1000005) ) ?_
        exact J.iretQ dX12_lay_58 rfl (Nat.le_refl _) (Nat.le_refl _) h
      · have h := h.2 hc6
        refine J.ldcw (v := (-1000006)) dX12_lay_47 kcX12_304 ?_
        refine J.goto (tgt := 55) dX12_lay_50 (by decide) ?_
        refine J.callVE (k := 79) (as := [.int (-1000006)]) (rest := []) dX12_lay_55 kX12_finds vX12_finds lX12_200 (hT.k 79 rfl) rfl rfl rfl rfl rfl (by omega) (Nat.le_refl _) (Nat.le_refl _) (qX12_finds (d + 5) hT (-1000006) ) ?_
        exact J.iretQ dX12_lay_58 rfl (Nat.le_refl _) (Nat.le_refl _) h
  · have h := h.2 hc1
    refine J.aload_n dX12_lay_8 rfl rfl ?_
    refine J.ldc (v := (-1000001)) dX12_lay_9 kcX12_199 ?_
    refine J.callVE (k := 79) (as := [.int (-1000001)]) (rest := []) dX12_lay_11 kX12_finds vX12_finds lX12_200 (hT.k 79 rfl) rfl rfl rfl rfl rfl (by omega) (Nat.le_refl _) (Nat.le_refl _) (qX12_finds (d + 5) hT (-1000001) ) ?_
    exact J.iretQ dX12_lay_14 rfl (Nat.le_refl _) (Nat.le_refl _) h
set_option maxHeartbeats 4000000 in
set_option maxRecDepth 100000 in
theorem sX12_lay_64 (d : Nat) {T : Topo} (hT : Lay T) (a1 : Int32)    {Q : Int32 → Topo → IM → Prop} {K64 : Int32 → Int32 → IM → Prop} (hK64 : ∀ (v3 v4 : Int32) (I : IM), K64 v3 v4 I → J (d + 6) mX12_lay (PI Q) 0 0 64 [some (.ref 79), none, none, some (.int v3), some (.int v4), none] [] T I 0 0) (v3 v4 : Int32) (I : IM) (h : fX12_lay_64 T a1 Q K64 v3 v4 I) : J (d + 6) mX12_lay (PI Q) 0 0 64 [some (.ref 79), none, none, some (.int v3), some (.int v4), none] [] T I 0 0 := by
  unfold fX12_lay_64 at h
  refine J.iload dX12_lay_64 rfl ?_
  refine J.aload_n dX12_lay_66 rfl rfl ?_
  refine J.getI dX12_lay_67 fX12_196 (hT.k 79 rfl) rfl ?_
  refine J.icmp_ge (tgt := 204) dX12_lay_70 (by decide) (fun hc1 => ?_) (fun hc1 => ?_)
  · have h := h.1 hc1
    refine J.iload_n dX12_lay_204 rfl rfl ?_
    exact J.iretQ dX12_lay_205 rfl (Nat.le_refl _) (Nat.le_refl _) h
  · have h := h.2 hc1
    refine J.aload_n dX12_lay_73 rfl rfl ?_
    refine J.getR (r := 106) dX12_lay_74 fX12_93 (hT.k 79 rfl) rfl (hT.r 79 35 rfl rfl) ?_
    refine J.iload dX12_lay_77 rfl ?_
    obtain ⟨hs2, h⟩ := h
    refine J.bald dX12_lay_79 (hT.k 106 rfl) (hT.l 106 rfl) hs2 ?_
    refine J.if_eq (tgt := 172) dX12_lay_80 (by decide) (fun hc3 => ?_) (fun hc3 => ?_)
    · have h := h.1 hc3
      refine J.iconst (v := 0) dX12_lay_172 (by decide) ?_
      refine J.istore (ls' := [some (.ref 79), none, none, some (.int v3), some (.int v4), some (.int 0)]) dX12_lay_173 rfl rfl ?_
      refine J.iload_n dX12_lay_175 rfl rfl ?_
      refine J.aload_n dX12_lay_176 rfl rfl ?_
      refine J.getR (r := 128) dX12_lay_177 fX12_159 (hT.k 79 rfl) rfl (hT.r 79 59 rfl rfl) ?_
      refine J.iload dX12_lay_180 rfl ?_
      obtain ⟨hs4, h⟩ := h
      refine J.bald dX12_lay_182 (hT.k 128 rfl) (hT.l 128 rfl) hs4 ?_
      refine J.if_eq (tgt := 195) dX12_lay_183 (by decide) (fun hc5 => ?_) (fun hc5 => ?_)
      · have h := h.1 hc5
        refine J.iconst (v := 0) dX12_lay_195 (by decide) ?_
        refine J.iadd dX12_lay_196 ?_
        refine J.istore_n (ls' := [some (.ref 79), none, none, some (.int (v3 + 0)), some (.int v4), some (.int 0)]) dX12_lay_197 rfl rfl rfl ?_
        refine J.iinc (v := (v4 + 1)) (ls' := [some (.ref 79), none, none, some (.int (v3 + 0)), some (.int (v4 + 1)), some (.int 0)]) dX12_lay_198 rfl (by rfl) rfl ?_
        refine J.goto (tgt := 64) dX12_lay_201 (by decide) ?_
        exact J.weaken (ls' := [some (.ref 79), none, none, some (.int (v3 + 0)), some (.int (v4 + 1)), none]) (And.intro rfl (And.intro rfl (And.intro rfl trivial))) (hK64 (v3 + 0) (v4 + 1) I h)
      · have h := h.2 hc5
        refine J.iload dX12_lay_186 rfl ?_
        refine J.if_ne (tgt := 195) dX12_lay_188 (by decide) (fun hc => absurd (by decide) hc) (fun hc => ?_)
        refine J.iconst (v := 1) dX12_lay_191 (by decide) ?_
        refine J.goto (tgt := 196) dX12_lay_192 (by decide) ?_
        refine J.iadd dX12_lay_196 ?_
        refine J.istore_n (ls' := [some (.ref 79), none, none, some (.int (v3 + 1)), some (.int v4), some (.int 0)]) dX12_lay_197 rfl rfl rfl ?_
        refine J.iinc (v := (v4 + 1)) (ls' := [some (.ref 79), none, none, some (.int (v3 + 1)), some (.int (v4 + 1)), some (.int 0)]) dX12_lay_198 rfl (by rfl) rfl ?_
        refine J.atpc (pc' := 201) rfl ?_
        refine J.goto (tgt := 64) dX12_lay_201 (by decide) ?_
        exact J.weaken (ls' := [some (.ref 79), none, none, some (.int (v3 + 1)), some (.int (v4 + 1)), none]) (And.intro rfl (And.intro rfl (And.intro rfl trivial))) (hK64 (v3 + 1) (v4 + 1) I h)
    · have h := h.2 hc3
      refine J.aload_n dX12_lay_83 rfl rfl ?_
      refine J.getR (r := 107) dX12_lay_84 fX12_96 (hT.k 79 rfl) rfl (hT.r 79 36 rfl rfl) ?_
      refine J.iload dX12_lay_87 rfl ?_
      obtain ⟨hs6, h⟩ := h
      refine J.iald dX12_lay_89 (hT.k 107 rfl) (hT.l 107 rfl) hs6 ?_
      refine J.aload_n dX12_lay_90 rfl rfl ?_
      refine J.getR (r := 129) dX12_lay_91 fX12_162 (hT.k 79 rfl) rfl (hT.r 79 60 rfl rfl) ?_
      refine J.iload dX12_lay_94 rfl ?_
      obtain ⟨hs7, h⟩ := h
      refine J.iald dX12_lay_96 (hT.k 129 rfl) (hT.l 129 rfl) hs7 ?_
      refine J.icmp_ne (tgt := 172) dX12_lay_97 (by decide) (fun hc8 => ?_) (fun hc8 => ?_)
      · have h := h.1 hc8
        refine J.iconst (v := 0) dX12_lay_172 (by decide) ?_
        refine J.istore (ls' := [some (.ref 79), none, none, some (.int v3), some (.int v4), some (.int 0)]) dX12_lay_173 rfl rfl ?_
        refine J.iload_n dX12_lay_175 rfl rfl ?_
        refine J.aload_n dX12_lay_176 rfl rfl ?_
        refine J.getR (r := 128) dX12_lay_177 fX12_159 (hT.k 79 rfl) rfl (hT.r 79 59 rfl rfl) ?_
        refine J.iload dX12_lay_180 rfl ?_
        obtain ⟨hs9, h⟩ := h
        refine J.bald dX12_lay_182 (hT.k 128 rfl) (hT.l 128 rfl) hs9 ?_
        refine J.if_eq (tgt := 195) dX12_lay_183 (by decide) (fun hc10 => ?_) (fun hc10 => ?_)
        · have h := h.1 hc10
          refine J.iconst (v := 0) dX12_lay_195 (by decide) ?_
          refine J.iadd dX12_lay_196 ?_
          refine J.istore_n (ls' := [some (.ref 79), none, none, some (.int (v3 + 0)), some (.int v4), some (.int 0)]) dX12_lay_197 rfl rfl rfl ?_
          refine J.iinc (v := (v4 + 1)) (ls' := [some (.ref 79), none, none, some (.int (v3 + 0)), some (.int (v4 + 1)), some (.int 0)]) dX12_lay_198 rfl (by rfl) rfl ?_
          refine J.goto (tgt := 64) dX12_lay_201 (by decide) ?_
          exact J.weaken (ls' := [some (.ref 79), none, none, some (.int (v3 + 0)), some (.int (v4 + 1)), none]) (And.intro rfl (And.intro rfl (And.intro rfl trivial))) (hK64 (v3 + 0) (v4 + 1) I h)
        · have h := h.2 hc10
          refine J.iload dX12_lay_186 rfl ?_
          refine J.if_ne (tgt := 195) dX12_lay_188 (by decide) (fun hc => absurd (by decide) hc) (fun hc => ?_)
          refine J.iconst (v := 1) dX12_lay_191 (by decide) ?_
          refine J.goto (tgt := 196) dX12_lay_192 (by decide) ?_
          refine J.iadd dX12_lay_196 ?_
          refine J.istore_n (ls' := [some (.ref 79), none, none, some (.int (v3 + 1)), some (.int v4), some (.int 0)]) dX12_lay_197 rfl rfl rfl ?_
          refine J.iinc (v := (v4 + 1)) (ls' := [some (.ref 79), none, none, some (.int (v3 + 1)), some (.int (v4 + 1)), some (.int 0)]) dX12_lay_198 rfl (by rfl) rfl ?_
          refine J.atpc (pc' := 201) rfl ?_
          refine J.goto (tgt := 64) dX12_lay_201 (by decide) ?_
          exact J.weaken (ls' := [some (.ref 79), none, none, some (.int (v3 + 1)), some (.int (v4 + 1)), none]) (And.intro rfl (And.intro rfl (And.intro rfl trivial))) (hK64 (v3 + 1) (v4 + 1) I h)
      · have h := h.2 hc8
        refine J.aload_n dX12_lay_100 rfl rfl ?_
        refine J.getR (r := 109) dX12_lay_101 fX12_102 (hT.k 79 rfl) rfl (hT.r 79 38 rfl rfl) ?_
        refine J.iload dX12_lay_104 rfl ?_
        obtain ⟨hs11, h⟩ := h
        refine J.iald dX12_lay_106 (hT.k 109 rfl) (hT.l 109 rfl) hs11 ?_
        refine J.aload_n dX12_lay_107 rfl rfl ?_
        refine J.getR (r := 131) dX12_lay_108 fX12_168 (hT.k 79 rfl) rfl (hT.r 79 62 rfl rfl) ?_
        refine J.iload dX12_lay_111 rfl ?_
        obtain ⟨hs12, h⟩ := h
        refine J.iald dX12_lay_113 (hT.k 131 rfl) (hT.l 131 rfl) hs12 ?_
        refine J.icmp_ne (tgt := 172) dX12_lay_114 (by decide) (fun hc13 => ?_) (fun hc13 => ?_)
        · have h := h.1 hc13
          refine J.iconst (v := 0) dX12_lay_172 (by decide) ?_
          refine J.istore (ls' := [some (.ref 79), none, none, some (.int v3), some (.int v4), some (.int 0)]) dX12_lay_173 rfl rfl ?_
          refine J.iload_n dX12_lay_175 rfl rfl ?_
          refine J.aload_n dX12_lay_176 rfl rfl ?_
          refine J.getR (r := 128) dX12_lay_177 fX12_159 (hT.k 79 rfl) rfl (hT.r 79 59 rfl rfl) ?_
          refine J.iload dX12_lay_180 rfl ?_
          obtain ⟨hs14, h⟩ := h
          refine J.bald dX12_lay_182 (hT.k 128 rfl) (hT.l 128 rfl) hs14 ?_
          refine J.if_eq (tgt := 195) dX12_lay_183 (by decide) (fun hc15 => ?_) (fun hc15 => ?_)
          · have h := h.1 hc15
            refine J.iconst (v := 0) dX12_lay_195 (by decide) ?_
            refine J.iadd dX12_lay_196 ?_
            refine J.istore_n (ls' := [some (.ref 79), none, none, some (.int (v3 + 0)), some (.int v4), some (.int 0)]) dX12_lay_197 rfl rfl rfl ?_
            refine J.iinc (v := (v4 + 1)) (ls' := [some (.ref 79), none, none, some (.int (v3 + 0)), some (.int (v4 + 1)), some (.int 0)]) dX12_lay_198 rfl (by rfl) rfl ?_
            refine J.goto (tgt := 64) dX12_lay_201 (by decide) ?_
            exact J.weaken (ls' := [some (.ref 79), none, none, some (.int (v3 + 0)), some (.int (v4 + 1)), none]) (And.intro rfl (And.intro rfl (And.intro rfl trivial))) (hK64 (v3 + 0) (v4 + 1) I h)
          · have h := h.2 hc15
            refine J.iload dX12_lay_186 rfl ?_
            refine J.if_ne (tgt := 195) dX12_lay_188 (by decide) (fun hc => absurd (by decide) hc) (fun hc => ?_)
            refine J.iconst (v := 1) dX12_lay_191 (by decide) ?_
            refine J.goto (tgt := 196) dX12_lay_192 (by decide) ?_
            refine J.iadd dX12_lay_196 ?_
            refine J.istore_n (ls' := [some (.ref 79), none, none, some (.int (v3 + 1)), some (.int v4), some (.int 0)]) dX12_lay_197 rfl rfl rfl ?_
            refine J.iinc (v := (v4 + 1)) (ls' := [some (.ref 79), none, none, some (.int (v3 + 1)), some (.int (v4 + 1)), some (.int 0)]) dX12_lay_198 rfl (by rfl) rfl ?_
            refine J.atpc (pc' := 201) rfl ?_
            refine J.goto (tgt := 64) dX12_lay_201 (by decide) ?_
            exact J.weaken (ls' := [some (.ref 79), none, none, some (.int (v3 + 1)), some (.int (v4 + 1)), none]) (And.intro rfl (And.intro rfl (And.intro rfl trivial))) (hK64 (v3 + 1) (v4 + 1) I h)
        · have h := h.2 hc13
          refine J.aload_n dX12_lay_117 rfl rfl ?_
          refine J.getR (r := 108) dX12_lay_118 fX12_99 (hT.k 79 rfl) rfl (hT.r 79 37 rfl rfl) ?_
          refine J.iload dX12_lay_121 rfl ?_
          obtain ⟨hs16, h⟩ := h
          refine J.iald dX12_lay_123 (hT.k 108 rfl) (hT.l 108 rfl) hs16 ?_
          refine J.aload_n dX12_lay_124 rfl rfl ?_
          refine J.getR (r := 130) dX12_lay_125 fX12_165 (hT.k 79 rfl) rfl (hT.r 79 61 rfl rfl) ?_
          refine J.iload dX12_lay_128 rfl ?_
          obtain ⟨hs17, h⟩ := h
          refine J.iald dX12_lay_130 (hT.k 130 rfl) (hT.l 130 rfl) hs17 ?_
          refine J.icmp_ne (tgt := 172) dX12_lay_131 (by decide) (fun hc18 => ?_) (fun hc18 => ?_)
          · have h := h.1 hc18
            refine J.iconst (v := 0) dX12_lay_172 (by decide) ?_
            refine J.istore (ls' := [some (.ref 79), none, none, some (.int v3), some (.int v4), some (.int 0)]) dX12_lay_173 rfl rfl ?_
            refine J.iload_n dX12_lay_175 rfl rfl ?_
            refine J.aload_n dX12_lay_176 rfl rfl ?_
            refine J.getR (r := 128) dX12_lay_177 fX12_159 (hT.k 79 rfl) rfl (hT.r 79 59 rfl rfl) ?_
            refine J.iload dX12_lay_180 rfl ?_
            obtain ⟨hs19, h⟩ := h
            refine J.bald dX12_lay_182 (hT.k 128 rfl) (hT.l 128 rfl) hs19 ?_
            refine J.if_eq (tgt := 195) dX12_lay_183 (by decide) (fun hc20 => ?_) (fun hc20 => ?_)
            · have h := h.1 hc20
              refine J.iconst (v := 0) dX12_lay_195 (by decide) ?_
              refine J.iadd dX12_lay_196 ?_
              refine J.istore_n (ls' := [some (.ref 79), none, none, some (.int (v3 + 0)), some (.int v4), some (.int 0)]) dX12_lay_197 rfl rfl rfl ?_
              refine J.iinc (v := (v4 + 1)) (ls' := [some (.ref 79), none, none, some (.int (v3 + 0)), some (.int (v4 + 1)), some (.int 0)]) dX12_lay_198 rfl (by rfl) rfl ?_
              refine J.goto (tgt := 64) dX12_lay_201 (by decide) ?_
              exact J.weaken (ls' := [some (.ref 79), none, none, some (.int (v3 + 0)), some (.int (v4 + 1)), none]) (And.intro rfl (And.intro rfl (And.intro rfl trivial))) (hK64 (v3 + 0) (v4 + 1) I h)
            · have h := h.2 hc20
              refine J.iload dX12_lay_186 rfl ?_
              refine J.if_ne (tgt := 195) dX12_lay_188 (by decide) (fun hc => absurd (by decide) hc) (fun hc => ?_)
              refine J.iconst (v := 1) dX12_lay_191 (by decide) ?_
              refine J.goto (tgt := 196) dX12_lay_192 (by decide) ?_
              refine J.iadd dX12_lay_196 ?_
              refine J.istore_n (ls' := [some (.ref 79), none, none, some (.int (v3 + 1)), some (.int v4), some (.int 0)]) dX12_lay_197 rfl rfl rfl ?_
              refine J.iinc (v := (v4 + 1)) (ls' := [some (.ref 79), none, none, some (.int (v3 + 1)), some (.int (v4 + 1)), some (.int 0)]) dX12_lay_198 rfl (by rfl) rfl ?_
              refine J.atpc (pc' := 201) rfl ?_
              refine J.goto (tgt := 64) dX12_lay_201 (by decide) ?_
              exact J.weaken (ls' := [some (.ref 79), none, none, some (.int (v3 + 1)), some (.int (v4 + 1)), none]) (And.intro rfl (And.intro rfl (And.intro rfl trivial))) (hK64 (v3 + 1) (v4 + 1) I h)
          · have h := h.2 hc18
            refine J.aload_n dX12_lay_134 rfl rfl ?_
            refine J.getR (r := 110) dX12_lay_135 fX12_105 (hT.k 79 rfl) rfl (hT.r 79 39 rfl rfl) ?_
            refine J.iload dX12_lay_138 rfl ?_
            obtain ⟨hs21, h⟩ := h
            refine J.iald dX12_lay_140 (hT.k 110 rfl) (hT.l 110 rfl) hs21 ?_
            refine J.aload_n dX12_lay_141 rfl rfl ?_
            refine J.getR (r := 132) dX12_lay_142 fX12_171 (hT.k 79 rfl) rfl (hT.r 79 63 rfl rfl) ?_
            refine J.iload dX12_lay_145 rfl ?_
            obtain ⟨hs22, h⟩ := h
            refine J.iald dX12_lay_147 (hT.k 132 rfl) (hT.l 132 rfl) hs22 ?_
            refine J.icmp_ne (tgt := 172) dX12_lay_148 (by decide) (fun hc23 => ?_) (fun hc23 => ?_)
            · have h := h.1 hc23
              refine J.iconst (v := 0) dX12_lay_172 (by decide) ?_
              refine J.istore (ls' := [some (.ref 79), none, none, some (.int v3), some (.int v4), some (.int 0)]) dX12_lay_173 rfl rfl ?_
              refine J.iload_n dX12_lay_175 rfl rfl ?_
              refine J.aload_n dX12_lay_176 rfl rfl ?_
              refine J.getR (r := 128) dX12_lay_177 fX12_159 (hT.k 79 rfl) rfl (hT.r 79 59 rfl rfl) ?_
              refine J.iload dX12_lay_180 rfl ?_
              obtain ⟨hs24, h⟩ := h
              refine J.bald dX12_lay_182 (hT.k 128 rfl) (hT.l 128 rfl) hs24 ?_
              refine J.if_eq (tgt := 195) dX12_lay_183 (by decide) (fun hc25 => ?_) (fun hc25 => ?_)
              · have h := h.1 hc25
                refine J.iconst (v := 0) dX12_lay_195 (by decide) ?_
                refine J.iadd dX12_lay_196 ?_
                refine J.istore_n (ls' := [some (.ref 79), none, none, some (.int (v3 + 0)), some (.int v4), some (.int 0)]) dX12_lay_197 rfl rfl rfl ?_
                refine J.iinc (v := (v4 + 1)) (ls' := [some (.ref 79), none, none, some (.int (v3 + 0)), some (.int (v4 + 1)), some (.int 0)]) dX12_lay_198 rfl (by rfl) rfl ?_
                refine J.goto (tgt := 64) dX12_lay_201 (by decide) ?_
                exact J.weaken (ls' := [some (.ref 79), none, none, some (.int (v3 + 0)), some (.int (v4 + 1)), none]) (And.intro rfl (And.intro rfl (And.intro rfl trivial))) (hK64 (v3 + 0) (v4 + 1) I h)
              · have h := h.2 hc25
                refine J.iload dX12_lay_186 rfl ?_
                refine J.if_ne (tgt := 195) dX12_lay_188 (by decide) (fun hc => absurd (by decide) hc) (fun hc => ?_)
                refine J.iconst (v := 1) dX12_lay_191 (by decide) ?_
                refine J.goto (tgt := 196) dX12_lay_192 (by decide) ?_
                refine J.iadd dX12_lay_196 ?_
                refine J.istore_n (ls' := [some (.ref 79), none, none, some (.int (v3 + 1)), some (.int v4), some (.int 0)]) dX12_lay_197 rfl rfl rfl ?_
                refine J.iinc (v := (v4 + 1)) (ls' := [some (.ref 79), none, none, some (.int (v3 + 1)), some (.int (v4 + 1)), some (.int 0)]) dX12_lay_198 rfl (by rfl) rfl ?_
                refine J.atpc (pc' := 201) rfl ?_
                refine J.goto (tgt := 64) dX12_lay_201 (by decide) ?_
                exact J.weaken (ls' := [some (.ref 79), none, none, some (.int (v3 + 1)), some (.int (v4 + 1)), none]) (And.intro rfl (And.intro rfl (And.intro rfl trivial))) (hK64 (v3 + 1) (v4 + 1) I h)
            · have h := h.2 hc23
              refine J.aload_n dX12_lay_151 rfl rfl ?_
              refine J.getR (r := 111) dX12_lay_152 fX12_108 (hT.k 79 rfl) rfl (hT.r 79 40 rfl rfl) ?_
              refine J.iload dX12_lay_155 rfl ?_
              obtain ⟨hs26, h⟩ := h
              refine J.iald dX12_lay_157 (hT.k 111 rfl) (hT.l 111 rfl) hs26 ?_
              refine J.aload_n dX12_lay_158 rfl rfl ?_
              refine J.getR (r := 133) dX12_lay_159 fX12_174 (hT.k 79 rfl) rfl (hT.r 79 64 rfl rfl) ?_
              refine J.iload dX12_lay_162 rfl ?_
              obtain ⟨hs27, h⟩ := h
              refine J.iald dX12_lay_164 (hT.k 133 rfl) (hT.l 133 rfl) hs27 ?_
              refine J.icmp_ne (tgt := 172) dX12_lay_165 (by decide) (fun hc28 => ?_) (fun hc28 => ?_)
              · have h := h.1 hc28
                refine J.iconst (v := 0) dX12_lay_172 (by decide) ?_
                refine J.istore (ls' := [some (.ref 79), none, none, some (.int v3), some (.int v4), some (.int 0)]) dX12_lay_173 rfl rfl ?_
                refine J.iload_n dX12_lay_175 rfl rfl ?_
                refine J.aload_n dX12_lay_176 rfl rfl ?_
                refine J.getR (r := 128) dX12_lay_177 fX12_159 (hT.k 79 rfl) rfl (hT.r 79 59 rfl rfl) ?_
                refine J.iload dX12_lay_180 rfl ?_
                obtain ⟨hs29, h⟩ := h
                refine J.bald dX12_lay_182 (hT.k 128 rfl) (hT.l 128 rfl) hs29 ?_
                refine J.if_eq (tgt := 195) dX12_lay_183 (by decide) (fun hc30 => ?_) (fun hc30 => ?_)
                · have h := h.1 hc30
                  refine J.iconst (v := 0) dX12_lay_195 (by decide) ?_
                  refine J.iadd dX12_lay_196 ?_
                  refine J.istore_n (ls' := [some (.ref 79), none, none, some (.int (v3 + 0)), some (.int v4), some (.int 0)]) dX12_lay_197 rfl rfl rfl ?_
                  refine J.iinc (v := (v4 + 1)) (ls' := [some (.ref 79), none, none, some (.int (v3 + 0)), some (.int (v4 + 1)), some (.int 0)]) dX12_lay_198 rfl (by rfl) rfl ?_
                  refine J.goto (tgt := 64) dX12_lay_201 (by decide) ?_
                  exact J.weaken (ls' := [some (.ref 79), none, none, some (.int (v3 + 0)), some (.int (v4 + 1)), none]) (And.intro rfl (And.intro rfl (And.intro rfl trivial))) (hK64 (v3 + 0) (v4 + 1) I h)
                · have h := h.2 hc30
                  refine J.iload dX12_lay_186 rfl ?_
                  refine J.if_ne (tgt := 195) dX12_lay_188 (by decide) (fun hc => absurd (by decide) hc) (fun hc => ?_)
                  refine J.iconst (v := 1) dX12_lay_191 (by decide) ?_
                  refine J.goto (tgt := 196) dX12_lay_192 (by decide) ?_
                  refine J.iadd dX12_lay_196 ?_
                  refine J.istore_n (ls' := [some (.ref 79), none, none, some (.int (v3 + 1)), some (.int v4), some (.int 0)]) dX12_lay_197 rfl rfl rfl ?_
                  refine J.iinc (v := (v4 + 1)) (ls' := [some (.ref 79), none, none, some (.int (v3 + 1)), some (.int (v4 + 1)), some (.int 0)]) dX12_lay_198 rfl (by rfl) rfl ?_
                  refine J.atpc (pc' := 201) rfl ?_
                  refine J.goto (tgt := 64) dX12_lay_201 (by decide) ?_
                  exact J.weaken (ls' := [some (.ref 79), none, none, some (.int (v3 + 1)), some (.int (v4 + 1)), none]) (And.intro rfl (And.intro rfl (And.intro rfl trivial))) (hK64 (v3 + 1) (v4 + 1) I h)
              · have h := h.2 hc28
                refine J.iconst (v := 1) dX12_lay_168 (by decide) ?_
                refine J.goto (tgt := 173) dX12_lay_169 (by decide) ?_
                refine J.istore (ls' := [some (.ref 79), none, none, some (.int v3), some (.int v4), some (.int 1)]) dX12_lay_173 rfl rfl ?_
                refine J.iload_n dX12_lay_175 rfl rfl ?_
                refine J.aload_n dX12_lay_176 rfl rfl ?_
                refine J.getR (r := 128) dX12_lay_177 fX12_159 (hT.k 79 rfl) rfl (hT.r 79 59 rfl rfl) ?_
                refine J.iload dX12_lay_180 rfl ?_
                refine J.atpc (pc' := 182) rfl ?_
                obtain ⟨hs31, h⟩ := h
                refine J.bald dX12_lay_182 (hT.k 128 rfl) (hT.l 128 rfl) hs31 ?_
                refine J.if_eq (tgt := 195) dX12_lay_183 (by decide) (fun hc32 => ?_) (fun hc32 => ?_)
                · have h := h.1 hc32
                  refine J.iconst (v := 0) dX12_lay_195 (by decide) ?_
                  refine J.iadd dX12_lay_196 ?_
                  refine J.istore_n (ls' := [some (.ref 79), none, none, some (.int (v3 + 0)), some (.int v4), some (.int 1)]) dX12_lay_197 rfl rfl rfl ?_
                  refine J.iinc (v := (v4 + 1)) (ls' := [some (.ref 79), none, none, some (.int (v3 + 0)), some (.int (v4 + 1)), some (.int 1)]) dX12_lay_198 rfl (by rfl) rfl ?_
                  refine J.goto (tgt := 64) dX12_lay_201 (by decide) ?_
                  exact J.weaken (ls' := [some (.ref 79), none, none, some (.int (v3 + 0)), some (.int (v4 + 1)), none]) (And.intro rfl (And.intro rfl (And.intro rfl trivial))) (hK64 (v3 + 0) (v4 + 1) I h)
                · have h := h.2 hc32
                  refine J.iload dX12_lay_186 rfl ?_
                  refine J.if_ne (tgt := 195) dX12_lay_188 (by decide) (fun hc => ?_) (fun hc => absurd hc (by decide))
                  refine J.iconst (v := 0) dX12_lay_195 (by decide) ?_
                  refine J.iadd dX12_lay_196 ?_
                  refine J.istore_n (ls' := [some (.ref 79), none, none, some (.int (v3 + 0)), some (.int v4), some (.int 1)]) dX12_lay_197 rfl rfl rfl ?_
                  refine J.iinc (v := (v4 + 1)) (ls' := [some (.ref 79), none, none, some (.int (v3 + 0)), some (.int (v4 + 1)), some (.int 1)]) dX12_lay_198 rfl (by rfl) rfl ?_
                  refine J.goto (tgt := 64) dX12_lay_201 (by decide) ?_
                  exact J.weaken (ls' := [some (.ref 79), none, none, some (.int (v3 + 0)), some (.int (v4 + 1)), none]) (And.intro rfl (And.intro rfl (And.intro rfl trivial))) (hK64 (v3 + 0) (v4 + 1) I h)
set_option maxHeartbeats 4000000 in
set_option maxRecDepth 100000 in
theorem wX12_lay (d : Nat) {T : Topo} (hT : Lay T) (a1 : Int32)   {Q : Int32 → Topo → IM → Prop} (V64 : Int32 → Int32 → IM → Prop) (μ64 : Int32 → Int32 → IM → Nat) (vc64 : ∀ (v3 v4 : Int32) (I : IM), V64 v3 v4 I → fX12_lay_64 T a1 Q (fun w3 w4 I_ => V64 w3 w4 I_ ∧ μ64 w3 w4 I_ < μ64 v3 v4 I) v3 v4 I) {I : IM} (h : fX12_lay_0 T a1 Q V64 I) : Ct (d + 6) mX12_lay [.ref 79, .int a1] T I 0 0 (PI Q) := by
  have all : ∀ n : Nat, (∀ (v3 v4 : Int32) (I : IM), V64 v3 v4 I → μ64 v3 v4 I < n → J (d + 6) mX12_lay (PI Q) 0 0 64 [some (.ref 79), none, none, some (.int v3), some (.int v4), none] [] T I 0 0) := by
    intro n
    induction n with
    | zero => exact fun _ _ _ _ hn => absurd hn (Nat.not_lt_zero _)
    | succ n ih =>
      exact fun v3 v4 I hv hn => sX12_lay_64 d hT a1   (fun w3 w4 I_ hw => ih w3 w4 I_ hw.1 (by have := hw.2; omega)) v3 v4 I (vc64 v3 v4 I hv)
  exact Ct.ofJ (by decide +kernel) rfl (by intro v hv; revert v hv; simp [Value.category]) rfl (sX12_lay_0 d hT a1   (fun w3 w4 I_ hw => (all (μ64 w3 w4 I_ + 1)) w3 w4 I_ hw (Nat.lt_succ_self _)) I h)

def jX12_layI (a1 : Int32) : Nat → Int32 → Int32 → IM → Int32 × IM
  | 0 => fun _ _ I => (0, I)
  | n + 1 => fun v3 v4 I => (if (I 79 2) ≤ v4 then (v3, I) else (if (I 106 v4.toNatClampNeg) = 0 then (if (I 128 v4.toNatClampNeg) = 0 then (jX12_layI a1 n (v3 + 0) (v4 + 1) I) else (jX12_layI a1 n (v3 + 1) (v4 + 1) I)) else (if (I 107 v4.toNatClampNeg) = (I 129 v4.toNatClampNeg) then (if (I 109 v4.toNatClampNeg) = (I 131 v4.toNatClampNeg) then (if (I 108 v4.toNatClampNeg) = (I 130 v4.toNatClampNeg) then (if (I 110 v4.toNatClampNeg) = (I 132 v4.toNatClampNeg) then (if (I 111 v4.toNatClampNeg) = (I 133 v4.toNatClampNeg) then (jX12_layI a1 n (v3 + 0) (v4 + 1) I) else (if (I 128 v4.toNatClampNeg) = 0 then (jX12_layI a1 n (v3 + 0) (v4 + 1) I) else (jX12_layI a1 n (v3 + 1) (v4 + 1) I))) else (if (I 128 v4.toNatClampNeg) = 0 then (jX12_layI a1 n (v3 + 0) (v4 + 1) I) else (jX12_layI a1 n (v3 + 1) (v4 + 1) I))) else (if (I 128 v4.toNatClampNeg) = 0 then (jX12_layI a1 n (v3 + 0) (v4 + 1) I) else (jX12_layI a1 n (v3 + 1) (v4 + 1) I))) else (if (I 128 v4.toNatClampNeg) = 0 then (jX12_layI a1 n (v3 + 0) (v4 + 1) I) else (jX12_layI a1 n (v3 + 1) (v4 + 1) I))) else (if (I 128 v4.toNatClampNeg) = 0 then (jX12_layI a1 n (v3 + 0) (v4 + 1) I) else (jX12_layI a1 n (v3 + 1) (v4 + 1) I)))))
def jX12_layO (a1 : Int32) : Nat → Int32 → Int32 → IM → Prop
  | 0 => fun _ _ _ => False
  | n + 1 => fun v3 v4 I => ((((I 79 2) ≤ v4) → True) ∧ ((¬ (I 79 2) ≤ v4) → (vp_in v4 8 ∧ ((((I 106 v4.toNatClampNeg) = 0) → (vp_in v4 8 ∧ ((((I 128 v4.toNatClampNeg) = 0) → (jX12_layO a1 n (v3 + 0) (v4 + 1) I)) ∧ ((¬ (I 128 v4.toNatClampNeg) = 0) → (jX12_layO a1 n (v3 + 1) (v4 + 1) I))))) ∧ ((¬ (I 106 v4.toNatClampNeg) = 0) → (vp_in v4 8 ∧ (vp_in v4 8 ∧ (((¬ (I 107 v4.toNatClampNeg) = (I 129 v4.toNatClampNeg)) → (vp_in v4 8 ∧ ((((I 128 v4.toNatClampNeg) = 0) → (jX12_layO a1 n (v3 + 0) (v4 + 1) I)) ∧ ((¬ (I 128 v4.toNatClampNeg) = 0) → (jX12_layO a1 n (v3 + 1) (v4 + 1) I))))) ∧ (((I 107 v4.toNatClampNeg) = (I 129 v4.toNatClampNeg)) → (vp_in v4 8 ∧ (vp_in v4 8 ∧ (((¬ (I 109 v4.toNatClampNeg) = (I 131 v4.toNatClampNeg)) → (vp_in v4 8 ∧ ((((I 128 v4.toNatClampNeg) = 0) → (jX12_layO a1 n (v3 + 0) (v4 + 1) I)) ∧ ((¬ (I 128 v4.toNatClampNeg) = 0) → (jX12_layO a1 n (v3 + 1) (v4 + 1) I))))) ∧ (((I 109 v4.toNatClampNeg) = (I 131 v4.toNatClampNeg)) → (vp_in v4 8 ∧ (vp_in v4 8 ∧ (((¬ (I 108 v4.toNatClampNeg) = (I 130 v4.toNatClampNeg)) → (vp_in v4 8 ∧ ((((I 128 v4.toNatClampNeg) = 0) → (jX12_layO a1 n (v3 + 0) (v4 + 1) I)) ∧ ((¬ (I 128 v4.toNatClampNeg) = 0) → (jX12_layO a1 n (v3 + 1) (v4 + 1) I))))) ∧ (((I 108 v4.toNatClampNeg) = (I 130 v4.toNatClampNeg)) → (vp_in v4 8 ∧ (vp_in v4 8 ∧ (((¬ (I 110 v4.toNatClampNeg) = (I 132 v4.toNatClampNeg)) → (vp_in v4 8 ∧ ((((I 128 v4.toNatClampNeg) = 0) → (jX12_layO a1 n (v3 + 0) (v4 + 1) I)) ∧ ((¬ (I 128 v4.toNatClampNeg) = 0) → (jX12_layO a1 n (v3 + 1) (v4 + 1) I))))) ∧ (((I 110 v4.toNatClampNeg) = (I 132 v4.toNatClampNeg)) → (vp_in v4 8 ∧ (vp_in v4 8 ∧ (((¬ (I 111 v4.toNatClampNeg) = (I 133 v4.toNatClampNeg)) → (vp_in v4 8 ∧ ((((I 128 v4.toNatClampNeg) = 0) → (jX12_layO a1 n (v3 + 0) (v4 + 1) I)) ∧ ((¬ (I 128 v4.toNatClampNeg) = 0) → (jX12_layO a1 n (v3 + 1) (v4 + 1) I))))) ∧ (((I 111 v4.toNatClampNeg) = (I 133 v4.toNatClampNeg)) → (vp_in v4 8 ∧ ((((I 128 v4.toNatClampNeg) = 0) → (jX12_layO a1 n (v3 + 0) (v4 + 1) I)) ∧ ((¬ (I 128 v4.toNatClampNeg) = 0) → (jX12_layO a1 n (v3 + 0) (v4 + 1) I)))))))))))))))))))))))))))))
theorem jX12_layI_64 (a1 : Int32) (n : Nat) (v3 v4 : Int32) (I : IM) : jX12_layI a1 (n + 1) v3 v4 I = (if (I 79 2) ≤ v4 then (v3, I) else (if (I 106 v4.toNatClampNeg) = 0 then (if (I 128 v4.toNatClampNeg) = 0 then (jX12_layI a1 n (v3 + 0) (v4 + 1) I) else (jX12_layI a1 n (v3 + 1) (v4 + 1) I)) else (if (I 107 v4.toNatClampNeg) = (I 129 v4.toNatClampNeg) then (if (I 109 v4.toNatClampNeg) = (I 131 v4.toNatClampNeg) then (if (I 108 v4.toNatClampNeg) = (I 130 v4.toNatClampNeg) then (if (I 110 v4.toNatClampNeg) = (I 132 v4.toNatClampNeg) then (if (I 111 v4.toNatClampNeg) = (I 133 v4.toNatClampNeg) then (jX12_layI a1 n (v3 + 0) (v4 + 1) I) else (if (I 128 v4.toNatClampNeg) = 0 then (jX12_layI a1 n (v3 + 0) (v4 + 1) I) else (jX12_layI a1 n (v3 + 1) (v4 + 1) I))) else (if (I 128 v4.toNatClampNeg) = 0 then (jX12_layI a1 n (v3 + 0) (v4 + 1) I) else (jX12_layI a1 n (v3 + 1) (v4 + 1) I))) else (if (I 128 v4.toNatClampNeg) = 0 then (jX12_layI a1 n (v3 + 0) (v4 + 1) I) else (jX12_layI a1 n (v3 + 1) (v4 + 1) I))) else (if (I 128 v4.toNatClampNeg) = 0 then (jX12_layI a1 n (v3 + 0) (v4 + 1) I) else (jX12_layI a1 n (v3 + 1) (v4 + 1) I))) else (if (I 128 v4.toNatClampNeg) = 0 then (jX12_layI a1 n (v3 + 0) (v4 + 1) I) else (jX12_layI a1 n (v3 + 1) (v4 + 1) I))))) := rfl
theorem jX12_layO_64 (a1 : Int32) (n : Nat) (v3 v4 : Int32) (I : IM) : jX12_layO a1 (n + 1) v3 v4 I = ((((I 79 2) ≤ v4) → True) ∧ ((¬ (I 79 2) ≤ v4) → (vp_in v4 8 ∧ ((((I 106 v4.toNatClampNeg) = 0) → (vp_in v4 8 ∧ ((((I 128 v4.toNatClampNeg) = 0) → (jX12_layO a1 n (v3 + 0) (v4 + 1) I)) ∧ ((¬ (I 128 v4.toNatClampNeg) = 0) → (jX12_layO a1 n (v3 + 1) (v4 + 1) I))))) ∧ ((¬ (I 106 v4.toNatClampNeg) = 0) → (vp_in v4 8 ∧ (vp_in v4 8 ∧ (((¬ (I 107 v4.toNatClampNeg) = (I 129 v4.toNatClampNeg)) → (vp_in v4 8 ∧ ((((I 128 v4.toNatClampNeg) = 0) → (jX12_layO a1 n (v3 + 0) (v4 + 1) I)) ∧ ((¬ (I 128 v4.toNatClampNeg) = 0) → (jX12_layO a1 n (v3 + 1) (v4 + 1) I))))) ∧ (((I 107 v4.toNatClampNeg) = (I 129 v4.toNatClampNeg)) → (vp_in v4 8 ∧ (vp_in v4 8 ∧ (((¬ (I 109 v4.toNatClampNeg) = (I 131 v4.toNatClampNeg)) → (vp_in v4 8 ∧ ((((I 128 v4.toNatClampNeg) = 0) → (jX12_layO a1 n (v3 + 0) (v4 + 1) I)) ∧ ((¬ (I 128 v4.toNatClampNeg) = 0) → (jX12_layO a1 n (v3 + 1) (v4 + 1) I))))) ∧ (((I 109 v4.toNatClampNeg) = (I 131 v4.toNatClampNeg)) → (vp_in v4 8 ∧ (vp_in v4 8 ∧ (((¬ (I 108 v4.toNatClampNeg) = (I 130 v4.toNatClampNeg)) → (vp_in v4 8 ∧ ((((I 128 v4.toNatClampNeg) = 0) → (jX12_layO a1 n (v3 + 0) (v4 + 1) I)) ∧ ((¬ (I 128 v4.toNatClampNeg) = 0) → (jX12_layO a1 n (v3 + 1) (v4 + 1) I))))) ∧ (((I 108 v4.toNatClampNeg) = (I 130 v4.toNatClampNeg)) → (vp_in v4 8 ∧ (vp_in v4 8 ∧ (((¬ (I 110 v4.toNatClampNeg) = (I 132 v4.toNatClampNeg)) → (vp_in v4 8 ∧ ((((I 128 v4.toNatClampNeg) = 0) → (jX12_layO a1 n (v3 + 0) (v4 + 1) I)) ∧ ((¬ (I 128 v4.toNatClampNeg) = 0) → (jX12_layO a1 n (v3 + 1) (v4 + 1) I))))) ∧ (((I 110 v4.toNatClampNeg) = (I 132 v4.toNatClampNeg)) → (vp_in v4 8 ∧ (vp_in v4 8 ∧ (((¬ (I 111 v4.toNatClampNeg) = (I 133 v4.toNatClampNeg)) → (vp_in v4 8 ∧ ((((I 128 v4.toNatClampNeg) = 0) → (jX12_layO a1 n (v3 + 0) (v4 + 1) I)) ∧ ((¬ (I 128 v4.toNatClampNeg) = 0) → (jX12_layO a1 n (v3 + 1) (v4 + 1) I))))) ∧ (((I 111 v4.toNatClampNeg) = (I 133 v4.toNatClampNeg)) → (vp_in v4 8 ∧ ((((I 128 v4.toNatClampNeg) = 0) → (jX12_layO a1 n (v3 + 0) (v4 + 1) I)) ∧ ((¬ (I 128 v4.toNatClampNeg) = 0) → (jX12_layO a1 n (v3 + 0) (v4 + 1) I))))))))))))))))))))))))))))) := rfl
def jX12_lay (I : IM) (a1 : Int32) : Int32 × IM := (if (jX12_isOfThem I a1) = 0 then ((jX12_finds (-1000001)), (jX12_findsM I)) else (if ((jX12_lays (jX12_keeps (up2 I 79 5 0)) a1).1) = 1 then (jX12_layI a1 FU 0 0 ((jX12_lays (jX12_keeps (up2 I 79 5 0)) a1).2)) else (if ((jX12_lays (jX12_keeps (up2 I 79 5 0)) a1).1) = (-1000006) then ((jX12_finds (-1000006)), (jX12_findsM (jX12_backTo (jX12_lays (jX12_keeps (up2 I 79 5 0)) a1).2))) else ((jX12_finds (-1000005)), (jX12_findsM (jX12_backTo (jX12_lays (jX12_keeps (up2 I 79 5 0)) a1).2))))))
def jX12_layK (I : IM) (a1 : Int32) : Prop := (((¬ (jX12_isOfThem I a1) = 0) → (((jX12_keepsK (up2 I 79 5 0))) ∧ (((jX12_laysK (jX12_keeps (up2 I 79 5 0)) a1)) ∧ (((((jX12_lays (jX12_keeps (up2 I 79 5 0)) a1).1) = 1) → (jX12_layO a1 FU 0 0 ((jX12_lays (jX12_keeps (up2 I 79 5 0)) a1).2))) ∧ ((¬ ((jX12_lays (jX12_keeps (up2 I 79 5 0)) a1).1) = 1) → ((jX12_backToK (jX12_lays (jX12_keeps (up2 I 79 5 0)) a1).2))))))) ∧ (((jX12_isOfThem I a1) = 0) → True))
set_option maxRecDepth 10000 in
set_option maxHeartbeats 1000000 in
theorem uX12_lay (d : Nat) {T : Topo} (hT : Lay T) (a1 : Int32)   {R : Int32 × IM} : ∀ n : Nat, (∀ (v3 v4 : Int32) (I : IM), jX12_layO a1 n v3 v4 I → jX12_layI a1 n v3 v4 I = R → J (d + 6) mX12_lay (PI (fun x T' I' => T' = T ∧ x = R.1 ∧ I' = R.2)) 0 0 64 [some (.ref 79), none, none, some (.int v3), some (.int v4), none] [] T I 0 0) := by
  intro n
  induction n with
  | zero => exact fun _ _ _ hz => hz.elim
  | succ n ih =>
    exact fun v3 v4 I hok hit => by
        rw [jX12_layO_64] at hok
        exact sX12_lay_64 d hT a1   (K64 := fun w3 w4 I_ => (jX12_layO a1 n w3 w4 I_ ∧ jX12_layI a1 n w3 w4 I_ = R)) (fun w3 w4 I_ hw => ih w3 w4 I_ hw.1 hw.2) v3 v4 I (by
          unfold fX12_lay_64
          exact ⟨fun hc1 => (by rw [jX12_layI_64, if_pos hc1] at hit; exact ⟨rfl, by rw [← hit], by rw [← hit]⟩), fun hc1 => ⟨((hok).2 hc1).1, ⟨fun hc2 => ⟨((((hok).2 hc1).2).1 hc2).1, ⟨fun hc3 => ⟨(((((hok).2 hc1).2).1 hc2).2).1 hc3, by rw [jX12_layI_64, if_neg hc1, if_pos hc2, if_pos hc3] at hit; exact hit⟩, fun hc3 => ⟨(((((hok).2 hc1).2).1 hc2).2).2 hc3, by rw [jX12_layI_64, if_neg hc1, if_pos hc2, if_neg hc3] at hit; exact hit⟩⟩⟩, fun hc2 => ⟨((((hok).2 hc1).2).2 hc2).1, ⟨(((((hok).2 hc1).2).2 hc2).2).1, ⟨fun hc4 => ⟨(((((((hok).2 hc1).2).2 hc2).2).2).1 hc4).1, ⟨fun hc5 => ⟨((((((((hok).2 hc1).2).2 hc2).2).2).1 hc4).2).1 hc5, by rw [jX12_layI_64, if_neg hc1, if_neg hc2, if_neg hc4, if_pos hc5] at hit; exact hit⟩, fun hc5 => ⟨((((((((hok).2 hc1).2).2 hc2).2).2).1 hc4).2).2 hc5, by rw [jX12_layI_64, if_neg hc1, if_neg hc2, if_neg hc4, if_neg hc5] at hit; exact hit⟩⟩⟩, fun hc4 => ⟨(((((((hok).2 hc1).2).2 hc2).2).2).2 hc4).1, ⟨((((((((hok).2 hc1).2).2 hc2).2).2).2 hc4).2).1, ⟨fun hc6 => ⟨((((((((((hok).2 hc1).2).2 hc2).2).2).2 hc4).2).2).1 hc6).1, ⟨fun hc7 => ⟨(((((((((((hok).2 hc1).2).2 hc2).2).2).2 hc4).2).2).1 hc6).2).1 hc7, by rw [jX12_layI_64, if_neg hc1, if_neg hc2, if_pos hc4, if_neg hc6, if_pos hc7] at hit; exact hit⟩, fun hc7 => ⟨(((((((((((hok).2 hc1).2).2 hc2).2).2).2 hc4).2).2).1 hc6).2).2 hc7, by rw [jX12_layI_64, if_neg hc1, if_neg hc2, if_pos hc4, if_neg hc6, if_neg hc7] at hit; exact hit⟩⟩⟩, fun hc6 => ⟨((((((((((hok).2 hc1).2).2 hc2).2).2).2 hc4).2).2).2 hc6).1, ⟨(((((((((((hok).2 hc1).2).2 hc2).2).2).2 hc4).2).2).2 hc6).2).1, ⟨fun hc8 => ⟨(((((((((((((hok).2 hc1).2).2 hc2).2).2).2 hc4).2).2).2 hc6).2).2).1 hc8).1, ⟨fun hc9 => ⟨((((((((((((((hok).2 hc1).2).2 hc2).2).2).2 hc4).2).2).2 hc6).2).2).1 hc8).2).1 hc9, by rw [jX12_layI_64, if_neg hc1, if_neg hc2, if_pos hc4, if_pos hc6, if_neg hc8, if_pos hc9] at hit; exact hit⟩, fun hc9 => ⟨((((((((((((((hok).2 hc1).2).2 hc2).2).2).2 hc4).2).2).2 hc6).2).2).1 hc8).2).2 hc9, by rw [jX12_layI_64, if_neg hc1, if_neg hc2, if_pos hc4, if_pos hc6, if_neg hc8, if_neg hc9] at hit; exact hit⟩⟩⟩, fun hc8 => ⟨(((((((((((((hok).2 hc1).2).2 hc2).2).2).2 hc4).2).2).2 hc6).2).2).2 hc8).1, ⟨((((((((((((((hok).2 hc1).2).2 hc2).2).2).2 hc4).2).2).2 hc6).2).2).2 hc8).2).1, ⟨fun hc10 => ⟨((((((((((((((((hok).2 hc1).2).2 hc2).2).2).2 hc4).2).2).2 hc6).2).2).2 hc8).2).2).1 hc10).1, ⟨fun hc11 => ⟨(((((((((((((((((hok).2 hc1).2).2 hc2).2).2).2 hc4).2).2).2 hc6).2).2).2 hc8).2).2).1 hc10).2).1 hc11, by rw [jX12_layI_64, if_neg hc1, if_neg hc2, if_pos hc4, if_pos hc6, if_pos hc8, if_neg hc10, if_pos hc11] at hit; exact hit⟩, fun hc11 => ⟨(((((((((((((((((hok).2 hc1).2).2 hc2).2).2).2 hc4).2).2).2 hc6).2).2).2 hc8).2).2).1 hc10).2).2 hc11, by rw [jX12_layI_64, if_neg hc1, if_neg hc2, if_pos hc4, if_pos hc6, if_pos hc8, if_neg hc10, if_neg hc11] at hit; exact hit⟩⟩⟩, fun hc10 => ⟨((((((((((((((((hok).2 hc1).2).2 hc2).2).2).2 hc4).2).2).2 hc6).2).2).2 hc8).2).2).2 hc10).1, ⟨(((((((((((((((((hok).2 hc1).2).2 hc2).2).2).2 hc4).2).2).2 hc6).2).2).2 hc8).2).2).2 hc10).2).1, ⟨fun hc12 => ⟨(((((((((((((((((((hok).2 hc1).2).2 hc2).2).2).2 hc4).2).2).2 hc6).2).2).2 hc8).2).2).2 hc10).2).2).1 hc12).1, ⟨fun hc13 => ⟨((((((((((((((((((((hok).2 hc1).2).2 hc2).2).2).2 hc4).2).2).2 hc6).2).2).2 hc8).2).2).2 hc10).2).2).1 hc12).2).1 hc13, by rw [jX12_layI_64, if_neg hc1, if_neg hc2, if_pos hc4, if_pos hc6, if_pos hc8, if_pos hc10, if_neg hc12, if_pos hc13] at hit; exact hit⟩, fun hc13 => ⟨((((((((((((((((((((hok).2 hc1).2).2 hc2).2).2).2 hc4).2).2).2 hc6).2).2).2 hc8).2).2).2 hc10).2).2).1 hc12).2).2 hc13, by rw [jX12_layI_64, if_neg hc1, if_neg hc2, if_pos hc4, if_pos hc6, if_pos hc8, if_pos hc10, if_neg hc12, if_neg hc13] at hit; exact hit⟩⟩⟩, fun hc12 => ⟨(((((((((((((((((((hok).2 hc1).2).2 hc2).2).2).2 hc4).2).2).2 hc6).2).2).2 hc8).2).2).2 hc10).2).2).2 hc12).1, ⟨fun hc14 => ⟨((((((((((((((((((((hok).2 hc1).2).2 hc2).2).2).2 hc4).2).2).2 hc6).2).2).2 hc8).2).2).2 hc10).2).2).2 hc12).2).1 hc14, by rw [jX12_layI_64, if_neg hc1, if_neg hc2, if_pos hc4, if_pos hc6, if_pos hc8, if_pos hc10, if_pos hc12] at hit; exact hit⟩, fun hc14 => ⟨((((((((((((((((((((hok).2 hc1).2).2 hc2).2).2).2 hc4).2).2).2 hc6).2).2).2 hc8).2).2).2 hc10).2).2).2 hc12).2).2 hc14, by rw [jX12_layI_64, if_neg hc1, if_neg hc2, if_pos hc4, if_pos hc6, if_pos hc8, if_pos hc10, if_pos hc12] at hit; exact hit⟩⟩⟩⟩⟩⟩⟩⟩⟩⟩⟩⟩⟩⟩⟩⟩⟩⟩⟩⟩⟩)
set_option maxRecDepth 10000 in
set_option maxHeartbeats 1000000 in
theorem qX12_lay (d : Nat) {T : Topo} {I : IM} (hT : Lay T) (a1 : Int32)  (hp : (jX12_layK I a1)) : CtI (d + 6) mX12_lay [.ref 79, .int a1] T I (fun x_ J_ => x_ = (jX12_lay I a1).1 ∧ J_ = (jX12_lay I a1).2) := by
  unfold jX12_layK at hp
  exact Ct.ofJ (by decide +kernel) rfl (by intro v hv; revert v hv; simp [Value.category]) rfl (sX12_lay_0 d hT a1   (K64 := fun w3 w4 I_ => (jX12_layO a1 FU w3 w4 I_ ∧ jX12_layI a1 FU w3 w4 I_ = (jX12_lay I a1))) (fun w3 w4 I_ hw => uX12_lay d hT a1   FU w3 w4 I_ hw.1 hw.2) I (by
    unfold fX12_lay_0
    exact ⟨fun hc1 => ⟨((hp).1 hc1).1, ⟨(((hp).1 hc1).2).1, ⟨fun hc2 => ⟨((((hp).1 hc1).2).2).1 hc2, by unfold jX12_lay; rw [if_neg hc1, if_pos hc2]⟩, fun hc2 => ⟨((((hp).1 hc1).2).2).2 hc2, ⟨fun hc3 => ⟨rfl, by unfold jX12_lay; rw [if_neg hc1, if_neg hc2, if_neg hc3], by unfold jX12_lay; rw [if_neg hc1, if_neg hc2, if_neg hc3]⟩, fun hc3 => ⟨rfl, by unfold jX12_lay; rw [if_neg hc1, if_neg hc2, if_pos hc3], by unfold jX12_lay; rw [if_neg hc1, if_neg hc2, if_pos hc3]⟩⟩⟩⟩⟩⟩, fun hc1 => ⟨rfl, by unfold jX12_lay; rw [if_pos hc1], by unfold jX12_lay; rw [if_pos hc1]⟩⟩))

end
