noncomputable section
def fJ9_max_7cf53_0 (T : Topo) (a1 : Int32) (a2 : Int32) (Q : Int32 → Topo → IM → Prop)  (I : IM) : Prop :=
  (((a1 < a2) → Q a2 T I) ∧ ((¬ a1 < a2) → Q a1 T I))
set_option maxHeartbeats 4000000 in
set_option maxRecDepth 100000 in
theorem sJ9_max_7cf53_0 (d : Nat) {T : Topo} (hT : Lay T) (a1 : Int32) (a2 : Int32)    {Q : Int32 → Topo → IM → Prop}   (I : IM) (h : fJ9_max_7cf53_0 T a1 a2 Q  I) : J (d + 0) mJ9_max_7cf53 (PI Q) 0 0 0 [some (.int a1), some (.int a2)] [] T I 0 0 := by
  unfold fJ9_max_7cf53_0 at h
  refine J.iload_n dJ9_max_7cf53_0 rfl rfl ?_
  refine J.iload_n dJ9_max_7cf53_1 rfl rfl ?_
  refine J.icmp_lt (tgt := 9) dJ9_max_7cf53_2 (by decide) (fun hc1 => ?_) (fun hc1 => ?_)
  · have h := h.1 hc1
    refine J.iload_n dJ9_max_7cf53_9 rfl rfl ?_
    exact J.iretQ dJ9_max_7cf53_10 rfl (Nat.le_refl _) (Nat.le_refl _) h
  · have h := h.2 hc1
    refine J.iload_n dJ9_max_7cf53_5 rfl rfl ?_
    refine J.goto (tgt := 10) dJ9_max_7cf53_6 (by decide) ?_
    exact J.iretQ dJ9_max_7cf53_10 rfl (Nat.le_refl _) (Nat.le_refl _) h
set_option maxHeartbeats 4000000 in
set_option maxRecDepth 100000 in
theorem wJ9_max_7cf53 (d : Nat) {T : Topo} (hT : Lay T) (a1 : Int32) (a2 : Int32)   {Q : Int32 → Topo → IM → Prop} {I : IM} (h : fJ9_max_7cf53_0 T a1 a2 Q I) : Ct (d + 0) mJ9_max_7cf53 [.int a1, .int a2] T I 0 0 (PI Q) :=
  Ct.ofJF (by decide +kernel) rfl (by intro v hv; revert v hv; simp [Value.category]) rfl (sJ9_max_7cf53_0 d hT a1 a2   I h)

def jMax (a1 : Int32) (a2 : Int32) : Int32 := (if a1 < a2 then a2 else a1)
set_option maxRecDepth 10000 in
theorem qJ9_max_7cf53 (d : Nat) {T : Topo} {I : IM} (hT : Lay T) (a1 : Int32) (a2 : Int32)   : CtP (d + 0) mJ9_max_7cf53 [.int a1, .int a2] T I ((jMax a1 a2)) :=
  wJ9_max_7cf53 d hT a1 a2   (by
  unfold fJ9_max_7cf53_0
  exact ⟨fun hc1 => ⟨by unfold jMax; rw [if_pos hc1], rfl, rfl⟩, fun hc1 => ⟨by unfold jMax; rw [if_neg hc1], rfl, rfl⟩⟩)

def fJ9_min_7cf53_0 (T : Topo) (a1 : Int32) (a2 : Int32) (Q : Int32 → Topo → IM → Prop)  (I : IM) : Prop :=
  (((a2 < a1) → Q a2 T I) ∧ ((¬ a2 < a1) → Q a1 T I))
set_option maxHeartbeats 4000000 in
set_option maxRecDepth 100000 in
theorem sJ9_min_7cf53_0 (d : Nat) {T : Topo} (hT : Lay T) (a1 : Int32) (a2 : Int32)    {Q : Int32 → Topo → IM → Prop}   (I : IM) (h : fJ9_min_7cf53_0 T a1 a2 Q  I) : J (d + 0) mJ9_min_7cf53 (PI Q) 0 0 0 [some (.int a1), some (.int a2)] [] T I 0 0 := by
  unfold fJ9_min_7cf53_0 at h
  refine J.iload_n dJ9_min_7cf53_0 rfl rfl ?_
  refine J.iload_n dJ9_min_7cf53_1 rfl rfl ?_
  refine J.icmp_gt (tgt := 9) dJ9_min_7cf53_2 (by decide) (fun hc1 => ?_) (fun hc1 => ?_)
  · have h := h.1 hc1
    refine J.iload_n dJ9_min_7cf53_9 rfl rfl ?_
    exact J.iretQ dJ9_min_7cf53_10 rfl (Nat.le_refl _) (Nat.le_refl _) h
  · have h := h.2 hc1
    refine J.iload_n dJ9_min_7cf53_5 rfl rfl ?_
    refine J.goto (tgt := 10) dJ9_min_7cf53_6 (by decide) ?_
    exact J.iretQ dJ9_min_7cf53_10 rfl (Nat.le_refl _) (Nat.le_refl _) h
set_option maxHeartbeats 4000000 in
set_option maxRecDepth 100000 in
theorem wJ9_min_7cf53 (d : Nat) {T : Topo} (hT : Lay T) (a1 : Int32) (a2 : Int32)   {Q : Int32 → Topo → IM → Prop} {I : IM} (h : fJ9_min_7cf53_0 T a1 a2 Q I) : Ct (d + 0) mJ9_min_7cf53 [.int a1, .int a2] T I 0 0 (PI Q) :=
  Ct.ofJF (by decide +kernel) rfl (by intro v hv; revert v hv; simp [Value.category]) rfl (sJ9_min_7cf53_0 d hT a1 a2   I h)

def jMin (a1 : Int32) (a2 : Int32) : Int32 := (if a2 < a1 then a2 else a1)
set_option maxRecDepth 10000 in
theorem qJ9_min_7cf53 (d : Nat) {T : Topo} {I : IM} (hT : Lay T) (a1 : Int32) (a2 : Int32)   : CtP (d + 0) mJ9_min_7cf53 [.int a1, .int a2] T I ((jMin a1 a2)) :=
  wJ9_min_7cf53 d hT a1 a2   (by
  unfold fJ9_min_7cf53_0
  exact ⟨fun hc1 => ⟨by unfold jMin; rw [if_pos hc1], rfl, rfl⟩, fun hc1 => ⟨by unfold jMin; rw [if_neg hc1], rfl, rfl⟩⟩)

def jBits (a1 : Int32) : Int32 := ((((((((a1 - (((a1.toUInt32 >>> ((1 : Int32).toUInt32 &&& Int32.toUInt32 31)).toInt32) &&& 1431655765)) &&& 858993459) + ((((a1 - (((a1.toUInt32 >>> ((1 : Int32).toUInt32 &&& Int32.toUInt32 31)).toInt32) &&& 1431655765)).toUInt32 >>> ((2 : Int32).toUInt32 &&& Int32.toUInt32 31)).toInt32) &&& 858993459)) + (((((a1 - (((a1.toUInt32 >>> ((1 : Int32).toUInt32 &&& Int32.toUInt32 31)).toInt32) &&& 1431655765)) &&& 858993459) + ((((a1 - (((a1.toUInt32 >>> ((1 : Int32).toUInt32 &&& Int32.toUInt32 31)).toInt32) &&& 1431655765)).toUInt32 >>> ((2 : Int32).toUInt32 &&& Int32.toUInt32 31)).toInt32) &&& 858993459)).toUInt32 >>> ((4 : Int32).toUInt32 &&& Int32.toUInt32 31)).toInt32)) &&& 252645135) + (((((((a1 - (((a1.toUInt32 >>> ((1 : Int32).toUInt32 &&& Int32.toUInt32 31)).toInt32) &&& 1431655765)) &&& 858993459) + ((((a1 - (((a1.toUInt32 >>> ((1 : Int32).toUInt32 &&& Int32.toUInt32 31)).toInt32) &&& 1431655765)).toUInt32 >>> ((2 : Int32).toUInt32 &&& Int32.toUInt32 31)).toInt32) &&& 858993459)) + (((((a1 - (((a1.toUInt32 >>> ((1 : Int32).toUInt32 &&& Int32.toUInt32 31)).toInt32) &&& 1431655765)) &&& 858993459) + ((((a1 - (((a1.toUInt32 >>> ((1 : Int32).toUInt32 &&& Int32.toUInt32 31)).toInt32) &&& 1431655765)).toUInt32 >>> ((2 : Int32).toUInt32 &&& Int32.toUInt32 31)).toInt32) &&& 858993459)).toUInt32 >>> ((4 : Int32).toUInt32 &&& Int32.toUInt32 31)).toInt32)) &&& 252645135).toUInt32 >>> ((8 : Int32).toUInt32 &&& Int32.toUInt32 31)).toInt32)) + ((((((((a1 - (((a1.toUInt32 >>> ((1 : Int32).toUInt32 &&& Int32.toUInt32 31)).toInt32) &&& 1431655765)) &&& 858993459) + ((((a1 - (((a1.toUInt32 >>> ((1 : Int32).toUInt32 &&& Int32.toUInt32 31)).toInt32) &&& 1431655765)).toUInt32 >>> ((2 : Int32).toUInt32 &&& Int32.toUInt32 31)).toInt32) &&& 858993459)) + (((((a1 - (((a1.toUInt32 >>> ((1 : Int32).toUInt32 &&& Int32.toUInt32 31)).toInt32) &&& 1431655765)) &&& 858993459) + ((((a1 - (((a1.toUInt32 >>> ((1 : Int32).toUInt32 &&& Int32.toUInt32 31)).toInt32) &&& 1431655765)).toUInt32 >>> ((2 : Int32).toUInt32 &&& Int32.toUInt32 31)).toInt32) &&& 858993459)).toUInt32 >>> ((4 : Int32).toUInt32 &&& Int32.toUInt32 31)).toInt32)) &&& 252645135) + (((((((a1 - (((a1.toUInt32 >>> ((1 : Int32).toUInt32 &&& Int32.toUInt32 31)).toInt32) &&& 1431655765)) &&& 858993459) + ((((a1 - (((a1.toUInt32 >>> ((1 : Int32).toUInt32 &&& Int32.toUInt32 31)).toInt32) &&& 1431655765)).toUInt32 >>> ((2 : Int32).toUInt32 &&& Int32.toUInt32 31)).toInt32) &&& 858993459)) + (((((a1 - (((a1.toUInt32 >>> ((1 : Int32).toUInt32 &&& Int32.toUInt32 31)).toInt32) &&& 1431655765)) &&& 858993459) + ((((a1 - (((a1.toUInt32 >>> ((1 : Int32).toUInt32 &&& Int32.toUInt32 31)).toInt32) &&& 1431655765)).toUInt32 >>> ((2 : Int32).toUInt32 &&& Int32.toUInt32 31)).toInt32) &&& 858993459)).toUInt32 >>> ((4 : Int32).toUInt32 &&& Int32.toUInt32 31)).toInt32)) &&& 252645135).toUInt32 >>> ((8 : Int32).toUInt32 &&& Int32.toUInt32 31)).toInt32)).toUInt32 >>> ((16 : Int32).toUInt32 &&& Int32.toUInt32 31)).toInt32)) &&& 63)
def fJ6_bitCount_0f7a4_0 (T : Topo) (a1 : Int32) (Q : Int32 → Topo → IM → Prop)  (I : IM) : Prop :=
  Q ((((((((a1 - (((a1.toUInt32 >>> ((1 : Int32).toUInt32 &&& Int32.toUInt32 31)).toInt32) &&& 1431655765)) &&& 858993459) + ((((a1 - (((a1.toUInt32 >>> ((1 : Int32).toUInt32 &&& Int32.toUInt32 31)).toInt32) &&& 1431655765)).toUInt32 >>> ((2 : Int32).toUInt32 &&& Int32.toUInt32 31)).toInt32) &&& 858993459)) + (((((a1 - (((a1.toUInt32 >>> ((1 : Int32).toUInt32 &&& Int32.toUInt32 31)).toInt32) &&& 1431655765)) &&& 858993459) + ((((a1 - (((a1.toUInt32 >>> ((1 : Int32).toUInt32 &&& Int32.toUInt32 31)).toInt32) &&& 1431655765)).toUInt32 >>> ((2 : Int32).toUInt32 &&& Int32.toUInt32 31)).toInt32) &&& 858993459)).toUInt32 >>> ((4 : Int32).toUInt32 &&& Int32.toUInt32 31)).toInt32)) &&& 252645135) + (((((((a1 - (((a1.toUInt32 >>> ((1 : Int32).toUInt32 &&& Int32.toUInt32 31)).toInt32) &&& 1431655765)) &&& 858993459) + ((((a1 - (((a1.toUInt32 >>> ((1 : Int32).toUInt32 &&& Int32.toUInt32 31)).toInt32) &&& 1431655765)).toUInt32 >>> ((2 : Int32).toUInt32 &&& Int32.toUInt32 31)).toInt32) &&& 858993459)) + (((((a1 - (((a1.toUInt32 >>> ((1 : Int32).toUInt32 &&& Int32.toUInt32 31)).toInt32) &&& 1431655765)) &&& 858993459) + ((((a1 - (((a1.toUInt32 >>> ((1 : Int32).toUInt32 &&& Int32.toUInt32 31)).toInt32) &&& 1431655765)).toUInt32 >>> ((2 : Int32).toUInt32 &&& Int32.toUInt32 31)).toInt32) &&& 858993459)).toUInt32 >>> ((4 : Int32).toUInt32 &&& Int32.toUInt32 31)).toInt32)) &&& 252645135).toUInt32 >>> ((8 : Int32).toUInt32 &&& Int32.toUInt32 31)).toInt32)) + ((((((((a1 - (((a1.toUInt32 >>> ((1 : Int32).toUInt32 &&& Int32.toUInt32 31)).toInt32) &&& 1431655765)) &&& 858993459) + ((((a1 - (((a1.toUInt32 >>> ((1 : Int32).toUInt32 &&& Int32.toUInt32 31)).toInt32) &&& 1431655765)).toUInt32 >>> ((2 : Int32).toUInt32 &&& Int32.toUInt32 31)).toInt32) &&& 858993459)) + (((((a1 - (((a1.toUInt32 >>> ((1 : Int32).toUInt32 &&& Int32.toUInt32 31)).toInt32) &&& 1431655765)) &&& 858993459) + ((((a1 - (((a1.toUInt32 >>> ((1 : Int32).toUInt32 &&& Int32.toUInt32 31)).toInt32) &&& 1431655765)).toUInt32 >>> ((2 : Int32).toUInt32 &&& Int32.toUInt32 31)).toInt32) &&& 858993459)).toUInt32 >>> ((4 : Int32).toUInt32 &&& Int32.toUInt32 31)).toInt32)) &&& 252645135) + (((((((a1 - (((a1.toUInt32 >>> ((1 : Int32).toUInt32 &&& Int32.toUInt32 31)).toInt32) &&& 1431655765)) &&& 858993459) + ((((a1 - (((a1.toUInt32 >>> ((1 : Int32).toUInt32 &&& Int32.toUInt32 31)).toInt32) &&& 1431655765)).toUInt32 >>> ((2 : Int32).toUInt32 &&& Int32.toUInt32 31)).toInt32) &&& 858993459)) + (((((a1 - (((a1.toUInt32 >>> ((1 : Int32).toUInt32 &&& Int32.toUInt32 31)).toInt32) &&& 1431655765)) &&& 858993459) + ((((a1 - (((a1.toUInt32 >>> ((1 : Int32).toUInt32 &&& Int32.toUInt32 31)).toInt32) &&& 1431655765)).toUInt32 >>> ((2 : Int32).toUInt32 &&& Int32.toUInt32 31)).toInt32) &&& 858993459)).toUInt32 >>> ((4 : Int32).toUInt32 &&& Int32.toUInt32 31)).toInt32)) &&& 252645135).toUInt32 >>> ((8 : Int32).toUInt32 &&& Int32.toUInt32 31)).toInt32)).toUInt32 >>> ((16 : Int32).toUInt32 &&& Int32.toUInt32 31)).toInt32)) &&& 63) T I
set_option maxHeartbeats 4000000 in
set_option maxRecDepth 100000 in
theorem sJ6_bitCount_0f7a4_0 (d : Nat) {T : Topo} (hT : Lay T) (a1 : Int32)    {Q : Int32 → Topo → IM → Prop}   (I : IM) (h : fJ6_bitCount_0f7a4_0 T a1 Q  I) : J (d + 0) mJ6_bitCount_0f7a4 (PI Q) 0 0 0 [some (.int a1)] [] T I 0 0 := by
  unfold fJ6_bitCount_0f7a4_0 at h
  refine J.iload_n dJ6_bitCount_0f7a4_0 rfl rfl ?_
  refine J.iload_n dJ6_bitCount_0f7a4_1 rfl rfl ?_
  refine J.iconst (v := 1) dJ6_bitCount_0f7a4_2 (by decide) ?_
  refine J.iushr dJ6_bitCount_0f7a4_3 ?_
  refine J.ldcw (v := 1431655765) dJ6_bitCount_0f7a4_4 kcJ6_265 ?_
  refine J.iand dJ6_bitCount_0f7a4_7 ?_
  refine J.isub dJ6_bitCount_0f7a4_8 ?_
  refine J.atpc (pc' := 9) rfl ?_
  refine J.istore_n (ls' := [some (.int (a1 - (((a1.toUInt32 >>> ((1 : Int32).toUInt32 &&& Int32.toUInt32 31)).toInt32) &&& 1431655765)))]) dJ6_bitCount_0f7a4_9 rfl rfl rfl ?_
  refine J.iload_n dJ6_bitCount_0f7a4_10 rfl rfl ?_
  refine J.ldcw (v := 858993459) dJ6_bitCount_0f7a4_11 kcJ6_266 ?_
  refine J.iand dJ6_bitCount_0f7a4_14 ?_
  refine J.iload_n dJ6_bitCount_0f7a4_15 rfl rfl ?_
  refine J.iconst (v := 2) dJ6_bitCount_0f7a4_16 (by decide) ?_
  refine J.iushr dJ6_bitCount_0f7a4_17 ?_
  refine J.ldcw (v := 858993459) dJ6_bitCount_0f7a4_18 kcJ6_266 ?_
  refine J.atpc (pc' := 21) rfl ?_
  refine J.iand dJ6_bitCount_0f7a4_21 ?_
  refine J.iadd dJ6_bitCount_0f7a4_22 ?_
  refine J.istore_n (ls' := [some (.int (((a1 - (((a1.toUInt32 >>> ((1 : Int32).toUInt32 &&& Int32.toUInt32 31)).toInt32) &&& 1431655765)) &&& 858993459) + ((((a1 - (((a1.toUInt32 >>> ((1 : Int32).toUInt32 &&& Int32.toUInt32 31)).toInt32) &&& 1431655765)).toUInt32 >>> ((2 : Int32).toUInt32 &&& Int32.toUInt32 31)).toInt32) &&& 858993459)))]) dJ6_bitCount_0f7a4_23 rfl rfl rfl ?_
  refine J.iload_n dJ6_bitCount_0f7a4_24 rfl rfl ?_
  refine J.iload_n dJ6_bitCount_0f7a4_25 rfl rfl ?_
  refine J.iconst (v := 4) dJ6_bitCount_0f7a4_26 (by decide) ?_
  refine J.iushr dJ6_bitCount_0f7a4_27 ?_
  refine J.iadd dJ6_bitCount_0f7a4_28 ?_
  refine J.atpc (pc' := 29) rfl ?_
  refine J.ldcw (v := 252645135) dJ6_bitCount_0f7a4_29 kcJ6_267 ?_
  refine J.iand dJ6_bitCount_0f7a4_32 ?_
  refine J.istore_n (ls' := [some (.int (((((a1 - (((a1.toUInt32 >>> ((1 : Int32).toUInt32 &&& Int32.toUInt32 31)).toInt32) &&& 1431655765)) &&& 858993459) + ((((a1 - (((a1.toUInt32 >>> ((1 : Int32).toUInt32 &&& Int32.toUInt32 31)).toInt32) &&& 1431655765)).toUInt32 >>> ((2 : Int32).toUInt32 &&& Int32.toUInt32 31)).toInt32) &&& 858993459)) + (((((a1 - (((a1.toUInt32 >>> ((1 : Int32).toUInt32 &&& Int32.toUInt32 31)).toInt32) &&& 1431655765)) &&& 858993459) + ((((a1 - (((a1.toUInt32 >>> ((1 : Int32).toUInt32 &&& Int32.toUInt32 31)).toInt32) &&& 1431655765)).toUInt32 >>> ((2 : Int32).toUInt32 &&& Int32.toUInt32 31)).toInt32) &&& 858993459)).toUInt32 >>> ((4 : Int32).toUInt32 &&& Int32.toUInt32 31)).toInt32)) &&& 252645135))]) dJ6_bitCount_0f7a4_33 rfl rfl rfl ?_
  refine J.iload_n dJ6_bitCount_0f7a4_34 rfl rfl ?_
  refine J.iload_n dJ6_bitCount_0f7a4_35 rfl rfl ?_
  refine J.bipush (v := 8) dJ6_bitCount_0f7a4_36 (by decide) ?_
  refine J.iushr dJ6_bitCount_0f7a4_38 ?_
  refine J.iadd dJ6_bitCount_0f7a4_39 ?_
  refine J.atpc (pc' := 40) rfl ?_
  refine J.istore_n (ls' := [some (.int ((((((a1 - (((a1.toUInt32 >>> ((1 : Int32).toUInt32 &&& Int32.toUInt32 31)).toInt32) &&& 1431655765)) &&& 858993459) + ((((a1 - (((a1.toUInt32 >>> ((1 : Int32).toUInt32 &&& Int32.toUInt32 31)).toInt32) &&& 1431655765)).toUInt32 >>> ((2 : Int32).toUInt32 &&& Int32.toUInt32 31)).toInt32) &&& 858993459)) + (((((a1 - (((a1.toUInt32 >>> ((1 : Int32).toUInt32 &&& Int32.toUInt32 31)).toInt32) &&& 1431655765)) &&& 858993459) + ((((a1 - (((a1.toUInt32 >>> ((1 : Int32).toUInt32 &&& Int32.toUInt32 31)).toInt32) &&& 1431655765)).toUInt32 >>> ((2 : Int32).toUInt32 &&& Int32.toUInt32 31)).toInt32) &&& 858993459)).toUInt32 >>> ((4 : Int32).toUInt32 &&& Int32.toUInt32 31)).toInt32)) &&& 252645135) + (((((((a1 - (((a1.toUInt32 >>> ((1 : Int32).toUInt32 &&& Int32.toUInt32 31)).toInt32) &&& 1431655765)) &&& 858993459) + ((((a1 - (((a1.toUInt32 >>> ((1 : Int32).toUInt32 &&& Int32.toUInt32 31)).toInt32) &&& 1431655765)).toUInt32 >>> ((2 : Int32).toUInt32 &&& Int32.toUInt32 31)).toInt32) &&& 858993459)) + (((((a1 - (((a1.toUInt32 >>> ((1 : Int32).toUInt32 &&& Int32.toUInt32 31)).toInt32) &&& 1431655765)) &&& 858993459) + ((((a1 - (((a1.toUInt32 >>> ((1 : Int32).toUInt32 &&& Int32.toUInt32 31)).toInt32) &&& 1431655765)).toUInt32 >>> ((2 : Int32).toUInt32 &&& Int32.toUInt32 31)).toInt32) &&& 858993459)).toUInt32 >>> ((4 : Int32).toUInt32 &&& Int32.toUInt32 31)).toInt32)) &&& 252645135).toUInt32 >>> ((8 : Int32).toUInt32 &&& Int32.toUInt32 31)).toInt32)))]) dJ6_bitCount_0f7a4_40 rfl rfl rfl ?_
  refine J.iload_n dJ6_bitCount_0f7a4_41 rfl rfl ?_
  refine J.iload_n dJ6_bitCount_0f7a4_42 rfl rfl ?_
  refine J.bipush (v := 16) dJ6_bitCount_0f7a4_43 (by decide) ?_
  refine J.iushr dJ6_bitCount_0f7a4_45 ?_
  refine J.iadd dJ6_bitCount_0f7a4_46 ?_
  refine J.istore_n (ls' := [some (.int (((((((a1 - (((a1.toUInt32 >>> ((1 : Int32).toUInt32 &&& Int32.toUInt32 31)).toInt32) &&& 1431655765)) &&& 858993459) + ((((a1 - (((a1.toUInt32 >>> ((1 : Int32).toUInt32 &&& Int32.toUInt32 31)).toInt32) &&& 1431655765)).toUInt32 >>> ((2 : Int32).toUInt32 &&& Int32.toUInt32 31)).toInt32) &&& 858993459)) + (((((a1 - (((a1.toUInt32 >>> ((1 : Int32).toUInt32 &&& Int32.toUInt32 31)).toInt32) &&& 1431655765)) &&& 858993459) + ((((a1 - (((a1.toUInt32 >>> ((1 : Int32).toUInt32 &&& Int32.toUInt32 31)).toInt32) &&& 1431655765)).toUInt32 >>> ((2 : Int32).toUInt32 &&& Int32.toUInt32 31)).toInt32) &&& 858993459)).toUInt32 >>> ((4 : Int32).toUInt32 &&& Int32.toUInt32 31)).toInt32)) &&& 252645135) + (((((((a1 - (((a1.toUInt32 >>> ((1 : Int32).toUInt32 &&& Int32.toUInt32 31)).toInt32) &&& 1431655765)) &&& 858993459) + ((((a1 - (((a1.toUInt32 >>> ((1 : Int32).toUInt32 &&& Int32.toUInt32 31)).toInt32) &&& 1431655765)).toUInt32 >>> ((2 : Int32).toUInt32 &&& Int32.toUInt32 31)).toInt32) &&& 858993459)) + (((((a1 - (((a1.toUInt32 >>> ((1 : Int32).toUInt32 &&& Int32.toUInt32 31)).toInt32) &&& 1431655765)) &&& 858993459) + ((((a1 - (((a1.toUInt32 >>> ((1 : Int32).toUInt32 &&& Int32.toUInt32 31)).toInt32) &&& 1431655765)).toUInt32 >>> ((2 : Int32).toUInt32 &&& Int32.toUInt32 31)).toInt32) &&& 858993459)).toUInt32 >>> ((4 : Int32).toUInt32 &&& Int32.toUInt32 31)).toInt32)) &&& 252645135).toUInt32 >>> ((8 : Int32).toUInt32 &&& Int32.toUInt32 31)).toInt32)) + ((((((((a1 - (((a1.toUInt32 >>> ((1 : Int32).toUInt32 &&& Int32.toUInt32 31)).toInt32) &&& 1431655765)) &&& 858993459) + ((((a1 - (((a1.toUInt32 >>> ((1 : Int32).toUInt32 &&& Int32.toUInt32 31)).toInt32) &&& 1431655765)).toUInt32 >>> ((2 : Int32).toUInt32 &&& Int32.toUInt32 31)).toInt32) &&& 858993459)) + (((((a1 - (((a1.toUInt32 >>> ((1 : Int32).toUInt32 &&& Int32.toUInt32 31)).toInt32) &&& 1431655765)) &&& 858993459) + ((((a1 - (((a1.toUInt32 >>> ((1 : Int32).toUInt32 &&& Int32.toUInt32 31)).toInt32) &&& 1431655765)).toUInt32 >>> ((2 : Int32).toUInt32 &&& Int32.toUInt32 31)).toInt32) &&& 858993459)).toUInt32 >>> ((4 : Int32).toUInt32 &&& Int32.toUInt32 31)).toInt32)) &&& 252645135) + (((((((a1 - (((a1.toUInt32 >>> ((1 : Int32).toUInt32 &&& Int32.toUInt32 31)).toInt32) &&& 1431655765)) &&& 858993459) + ((((a1 - (((a1.toUInt32 >>> ((1 : Int32).toUInt32 &&& Int32.toUInt32 31)).toInt32) &&& 1431655765)).toUInt32 >>> ((2 : Int32).toUInt32 &&& Int32.toUInt32 31)).toInt32) &&& 858993459)) + (((((a1 - (((a1.toUInt32 >>> ((1 : Int32).toUInt32 &&& Int32.toUInt32 31)).toInt32) &&& 1431655765)) &&& 858993459) + ((((a1 - (((a1.toUInt32 >>> ((1 : Int32).toUInt32 &&& Int32.toUInt32 31)).toInt32) &&& 1431655765)).toUInt32 >>> ((2 : Int32).toUInt32 &&& Int32.toUInt32 31)).toInt32) &&& 858993459)).toUInt32 >>> ((4 : Int32).toUInt32 &&& Int32.toUInt32 31)).toInt32)) &&& 252645135).toUInt32 >>> ((8 : Int32).toUInt32 &&& Int32.toUInt32 31)).toInt32)).toUInt32 >>> ((16 : Int32).toUInt32 &&& Int32.toUInt32 31)).toInt32)))]) dJ6_bitCount_0f7a4_47 rfl rfl rfl ?_
  refine J.iload_n dJ6_bitCount_0f7a4_48 rfl rfl ?_
  refine J.atpc (pc' := 49) rfl ?_
  refine J.bipush (v := 63) dJ6_bitCount_0f7a4_49 (by decide) ?_
  refine J.iand dJ6_bitCount_0f7a4_51 ?_
  exact J.iretQ dJ6_bitCount_0f7a4_52 rfl (Nat.le_refl _) (Nat.le_refl _) h
set_option maxHeartbeats 4000000 in
set_option maxRecDepth 100000 in
theorem wJ6_bitCount_0f7a4 (d : Nat) {T : Topo} (hT : Lay T) (a1 : Int32)   {Q : Int32 → Topo → IM → Prop} {I : IM} (h : fJ6_bitCount_0f7a4_0 T a1 Q I) : Ct (d + 0) mJ6_bitCount_0f7a4 [.int a1] T I 0 0 (PI Q) :=
  Ct.ofJF (by decide +kernel) rfl (by intro v hv; revert v hv; simp [Value.category]) rfl (sJ6_bitCount_0f7a4_0 d hT a1   I h)

theorem qJ6_bitCount_0f7a4 (d : Nat) {T : Topo} {I : IM} (hT : Lay T) (a1 : Int32)  : CtP (d + 0) mJ6_bitCount_0f7a4 [.int a1] T I ((jBits a1)) :=
  wJ6_bitCount_0f7a4 d hT a1  (by
  unfold fJ6_bitCount_0f7a4_0
  exact ⟨by rfl, rfl, rfl⟩)

def fX4_otherEnd_0 (T : Topo) (i : Nat) (a1 : Int32) (Q : Int32 → Topo → IM → Prop)  (I : IM) : Prop :=
  (((¬ a1 = (I (6 + i) 0)) → (((¬ a1 = (I (6 + i) 1)) → Q (-1) T I) ∧ ((a1 = (I (6 + i) 1)) → Q (I (6 + i) 0) T I))) ∧ ((a1 = (I (6 + i) 0)) → Q (I (6 + i) 1) T I))
set_option maxHeartbeats 4000000 in
set_option maxRecDepth 100000 in
theorem sX4_otherEnd_0 (d : Nat) {T : Topo} (hT : Lay T) (i : Nat) (a1 : Int32) (hi : i < 9)   {Q : Int32 → Topo → IM → Prop}   (I : IM) (h : fX4_otherEnd_0 T i a1 Q  I) : J (d + 0) mX4_otherEnd (PI Q) 0 0 0 [some (.ref (6 + i)), some (.int a1)] [] T I 0 0 := by
  unfold fX4_otherEnd_0 at h
  refine J.iload_n dX4_otherEnd_0 rfl rfl ?_
  refine J.aload_n dX4_otherEnd_1 rfl rfl ?_
  refine J.getI dX4_otherEnd_2 fX4_7 (hT.lineK hi) rfl ?_
  refine J.icmp_ne (tgt := 13) dX4_otherEnd_5 (by decide) (fun hc1 => ?_) (fun hc1 => ?_)
  · have h := h.1 hc1
    refine J.iload_n dX4_otherEnd_13 rfl rfl ?_
    refine J.aload_n dX4_otherEnd_14 rfl rfl ?_
    refine J.getI dX4_otherEnd_15 fX4_13 (hT.lineK hi) rfl ?_
    refine J.icmp_ne (tgt := 28) dX4_otherEnd_18 (by decide) (fun hc2 => ?_) (fun hc2 => ?_)
    · have h := h.1 hc2
      refine J.iconst (v := (-1)) dX4_otherEnd_28 (by decide) ?_
      exact J.iretQ dX4_otherEnd_29 rfl (Nat.le_refl _) (Nat.le_refl _) h
    · have h := h.2 hc2
      refine J.aload_n dX4_otherEnd_21 rfl rfl ?_
      refine J.getI dX4_otherEnd_22 fX4_7 (hT.lineK hi) rfl ?_
      refine J.goto (tgt := 29) dX4_otherEnd_25 (by decide) ?_
      exact J.iretQ dX4_otherEnd_29 rfl (Nat.le_refl _) (Nat.le_refl _) h
  · have h := h.2 hc1
    refine J.aload_n dX4_otherEnd_8 rfl rfl ?_
    refine J.getI dX4_otherEnd_9 fX4_13 (hT.lineK hi) rfl ?_
    exact J.iretQ dX4_otherEnd_12 rfl (Nat.le_refl _) (Nat.le_refl _) h
set_option maxHeartbeats 4000000 in
set_option maxRecDepth 100000 in
theorem wX4_otherEnd (d : Nat) {T : Topo} (hT : Lay T) (i : Nat) (a1 : Int32) (hi : i < 9)  {Q : Int32 → Topo → IM → Prop} {I : IM} (h : fX4_otherEnd_0 T i a1 Q I) : Ct (d + 0) mX4_otherEnd [.ref (6 + i), .int a1] T I 0 0 (PI Q) :=
  Ct.ofJ (by decide +kernel) rfl (by intro v hv; revert v hv; simp [Value.category]) rfl (sX4_otherEnd_0 d hT i a1 hi  I h)

def jOther (I : IM) (i : Nat) (a1 : Int32) : Int32 := (if a1 = (I (6 + i) 0) then (I (6 + i) 1) else (if a1 = (I (6 + i) 1) then (I (6 + i) 0) else (-1)))
set_option maxRecDepth 10000 in
theorem qX4_otherEnd (d : Nat) {T : Topo} {I : IM} (hT : Lay T) (i : Nat) (hi : i < 9) (a1 : Int32)   : CtP (d + 0) mX4_otherEnd [.ref (6 + i), .int a1] T I ((jOther I i a1)) :=
  wX4_otherEnd d hT i a1 hi  (by
  unfold fX4_otherEnd_0
  exact ⟨fun hc1 => ⟨fun hc2 => ⟨by unfold jOther; rw [if_neg hc1, if_neg hc2], rfl, rfl⟩, fun hc2 => ⟨by unfold jOther; rw [if_neg hc1, if_pos hc2], rfl, rfl⟩⟩, fun hc1 => ⟨by unfold jOther; rw [if_pos hc1], rfl, rfl⟩⟩)

def fX4_leftNow_0 (T : Topo) (i : Nat) (Q : Int32 → Topo → IM → Prop)  (I : IM) : Prop :=
  Q ((I (6 + i) 2) - (I (6 + i) 6)) T I
set_option maxHeartbeats 4000000 in
set_option maxRecDepth 100000 in
theorem sX4_leftNow_0 (d : Nat) {T : Topo} (hT : Lay T) (i : Nat) (hi : i < 9)   {Q : Int32 → Topo → IM → Prop}   (I : IM) (h : fX4_leftNow_0 T i Q  I) : J (d + 0) mX4_leftNow (PI Q) 0 0 0 [some (.ref (6 + i))] [] T I 0 0 := by
  unfold fX4_leftNow_0 at h
  refine J.aload_n dX4_leftNow_0 rfl rfl ?_
  refine J.getI dX4_leftNow_1 fX4_16 (hT.lineK hi) rfl ?_
  refine J.aload_n dX4_leftNow_4 rfl rfl ?_
  refine J.getI dX4_leftNow_5 fX4_19 (hT.lineK hi) rfl ?_
  refine J.isub dX4_leftNow_8 ?_
  exact J.iretQ dX4_leftNow_9 rfl (Nat.le_refl _) (Nat.le_refl _) h
set_option maxHeartbeats 4000000 in
set_option maxRecDepth 100000 in
theorem wX4_leftNow (d : Nat) {T : Topo} (hT : Lay T) (i : Nat) (hi : i < 9)  {Q : Int32 → Topo → IM → Prop} {I : IM} (h : fX4_leftNow_0 T i Q I) : Ct (d + 0) mX4_leftNow [.ref (6 + i)] T I 0 0 (PI Q) :=
  Ct.ofJ (by decide +kernel) rfl (by intro v hv; revert v hv; simp [Value.category]) rfl (sX4_leftNow_0 d hT i hi  I h)

def jLeft (I : IM) (i : Nat) : Int32 := ((I (6 + i) 2) - (I (6 + i) 6))
set_option maxRecDepth 10000 in
theorem qX4_leftNow (d : Nat) {T : Topo} {I : IM} (hT : Lay T) (i : Nat) (hi : i < 9)   : CtP (d + 0) mX4_leftNow [.ref (6 + i)] T I ((jLeft I i)) :=
  wX4_leftNow d hT i hi  (by
  unfold fX4_leftNow_0
  exact ⟨by unfold jLeft; rfl, rfl, rfl⟩)

def fX4_pass_0 (T : Topo) (i : Nat) (a1 : Int32) (Q : Topo → IM → Prop)  (I : IM) : Prop :=
  Q T (up2 (up2 (up2 I (6 + i) 5 ((I (6 + i) 5) + a1)) (6 + i) 6 ((I (6 + i) 6) + a1)) (6 + i) 7 ((I (6 + i) 7) + (a1 * (I (6 + i) 4))))
set_option maxHeartbeats 4000000 in
set_option maxRecDepth 100000 in
theorem sX4_pass_0 (d : Nat) {T : Topo} (hT : Lay T) (i : Nat) (a1 : Int32) (hi : i < 9)   {Q : Topo → IM → Prop}   (I : IM) (h : fX4_pass_0 T i a1 Q  I) : J (d + 0) mX4_pass (PV Q) 0 0 0 [some (.ref (6 + i)), some (.int a1)] [] T I 0 0 := by
  unfold fX4_pass_0 at h
  refine J.aload_n dX4_pass_0 rfl rfl ?_
  refine J.dup dX4_pass_1 rfl ?_
  refine J.getI dX4_pass_2 fX4_22 (hT.lineK hi) rfl ?_
  refine J.iload_n dX4_pass_5 rfl rfl ?_
  refine J.iadd dX4_pass_6 ?_
  refine J.putI dX4_pass_7 fX4_22 (hT.lineK hi) rfl ?_
  refine J.aload_n dX4_pass_10 rfl rfl ?_
  refine J.atpc (pc' := 11) rfl ?_
  refine J.dup dX4_pass_11 rfl ?_
  refine J.getI dX4_pass_12 fX4_19 (hT.lineK hi) rfl ?_
  refine J.topEq (y := (I (6 + i) 6)) (up2_sj _ _ _ (by decide)) ?_
  refine J.iload_n dX4_pass_15 rfl rfl ?_
  refine J.iadd dX4_pass_16 ?_
  refine J.putI dX4_pass_17 fX4_19 (hT.lineK hi) rfl ?_
  refine J.aload_n dX4_pass_20 rfl rfl ?_
  refine J.dup dX4_pass_21 rfl ?_
  refine J.getI dX4_pass_22 fX4_25 (hT.lineK hi) rfl ?_
  refine J.topEq (y := (I (6 + i) 7)) (Eq.trans (up2_sj _ _ _ (by decide)) (up2_sj _ _ _ (by decide))) ?_
  refine J.atpc (pc' := 25) rfl ?_
  refine J.iload_n dX4_pass_25 rfl rfl ?_
  refine J.aload_n dX4_pass_26 rfl rfl ?_
  refine J.getI dX4_pass_27 fX4_28 (hT.lineK hi) rfl ?_
  refine J.topEq (y := (I (6 + i) 4)) (Eq.trans (up2_sj _ _ _ (by decide)) (up2_sj _ _ _ (by decide))) ?_
  refine J.imul dX4_pass_30 ?_
  refine J.iadd dX4_pass_31 ?_
  refine J.putI dX4_pass_32 fX4_25 (hT.lineK hi) rfl ?_
  exact J.vretQ dX4_pass_35 rfl (Nat.le_refl _) (Nat.le_refl _) h
set_option maxHeartbeats 4000000 in
set_option maxRecDepth 100000 in
theorem wX4_pass (d : Nat) {T : Topo} (hT : Lay T) (i : Nat) (a1 : Int32) (hi : i < 9)  {Q : Topo → IM → Prop} {I : IM} (h : fX4_pass_0 T i a1 Q I) : Ct (d + 0) mX4_pass [.ref (6 + i), .int a1] T I 0 0 (PV Q) :=
  Ct.ofJ (by decide +kernel) rfl (by intro v hv; revert v hv; simp [Value.category]) rfl (sX4_pass_0 d hT i a1 hi  I h)

def jPassM (I : IM) (i : Nat) (a1 : Int32) : IM := (up2 (up2 (up2 I (6 + i) 5 ((I (6 + i) 5) + a1)) (6 + i) 6 ((I (6 + i) 6) + a1)) (6 + i) 7 ((I (6 + i) 7) + (a1 * (I (6 + i) 4))))
set_option maxRecDepth 10000 in
theorem qX4_pass (d : Nat) {T : Topo} {I : IM} (hT : Lay T) (i : Nat) (hi : i < 9) (a1 : Int32)   : CtV (d + 0) mX4_pass [.ref (6 + i), .int a1] T I (fun J_ => J_ = (jPassM I i a1)) :=
  wX4_pass d hT i a1 hi  (by
  unfold fX4_pass_0
  exact ⟨rfl, by unfold jPassM; rfl⟩)

theorem swd_0_7 {x : Int32} (h : x.toInt < 0 ∨ 7 < x.toInt) : ¬ x = 0 ∧ ¬ x = 1 ∧ ¬ x = 2 ∧ ¬ x = 3 ∧ ¬ x = 4 ∧ ¬ x = 5 ∧ ¬ x = 6 ∧ ¬ x = 7 := by
  refine ⟨?_, ?_, ?_, ?_, ?_, ?_, ?_, ?_⟩ <;> (intro e; subst e; revert h; decide)
theorem sw_0_7 (x : Int32) : x = 0 ∨ x = 1 ∨ x = 2 ∨ x = 3 ∨ x = 4 ∨ x = 5 ∨ x = 6 ∨ x = 7 ∨ (x.toInt < 0 ∨ 7 < x.toInt) := by
  by_cases hr : x.toInt < 0 ∨ 7 < x.toInt
  · exact Or.inr (Or.inr (Or.inr (Or.inr (Or.inr (Or.inr (Or.inr (Or.inr (hr))))))))
  · have hc : x.toInt = 0 ∨ x.toInt = 1 ∨ x.toInt = 2 ∨ x.toInt = 3 ∨ x.toInt = 4 ∨ x.toInt = 5 ∨ x.toInt = 6 ∨ x.toInt = 7 := by omega
    rcases hc with hc | hc | hc | hc | hc | hc | hc | hc
    · exact Or.inl (Int32.toInt_inj.mp (hc.trans (by decide)))
    · exact Or.inr (Or.inl (Int32.toInt_inj.mp (hc.trans (by decide))))
    · exact Or.inr (Or.inr (Or.inl (Int32.toInt_inj.mp (hc.trans (by decide)))))
    · exact Or.inr (Or.inr (Or.inr (Or.inl (Int32.toInt_inj.mp (hc.trans (by decide))))))
    · exact Or.inr (Or.inr (Or.inr (Or.inr (Or.inl (Int32.toInt_inj.mp (hc.trans (by decide)))))))
    · exact Or.inr (Or.inr (Or.inr (Or.inr (Or.inr (Or.inl (Int32.toInt_inj.mp (hc.trans (by decide))))))))
    · exact Or.inr (Or.inr (Or.inr (Or.inr (Or.inr (Or.inr (Or.inl (Int32.toInt_inj.mp (hc.trans (by decide)))))))))
    · exact Or.inr (Or.inr (Or.inr (Or.inr (Or.inr (Or.inr (Or.inr (Or.inl (Int32.toInt_inj.mp (hc.trans (by decide))))))))))

def fX4_tell_0 (T : Topo) (i : Nat) (a1 : Int32) (Q : Int32 → Topo → IM → Prop)  (I : IM) : Prop :=
  ((a1 = 0 → Q (I (6 + i) 0) T I) ∧ (a1 = 1 → Q (I (6 + i) 1) T I) ∧ (a1 = 2 → Q (I (6 + i) 2) T I) ∧ (a1 = 3 → Q (I (6 + i) 3) T I) ∧ (a1 = 4 → Q (I (6 + i) 4) T I) ∧ (a1 = 5 → Q (I (6 + i) 7) T I) ∧ (a1 = 6 → Q (I (6 + i) 5) T I) ∧ (a1 = 7 → Q (I (6 + i) 6) T I) ∧ ((a1.toInt < 0 ∨ 7 < a1.toInt) → Q (I (6 + i) 7) T I))
set_option maxHeartbeats 4000000 in
set_option maxRecDepth 100000 in
theorem sX4_tell_0 (d : Nat) {T : Topo} (hT : Lay T) (i : Nat) (a1 : Int32) (hi : i < 9)   {Q : Int32 → Topo → IM → Prop}   (I : IM) (h : fX4_tell_0 T i a1 Q  I) : J (d + 0) mX4_tell (PI Q) 0 0 0 [some (.ref (6 + i)), some (.int a1)] [] T I 0 0 := by
  unfold fX4_tell_0 at h
  refine J.iload_n dX4_tell_0 rfl rfl ?_
  obtain ⟨h0_, h1_, h2_, h3_, h4_, h5_, h6_, h7_, hdf⟩ := h
  rcases sw_0_7 a1 with e | e | e | e | e | e | e | e | e
  · refine J.tableIn (off := 47) (tgt := 48) dX4_tell_1 (by rw [e]; decide) (by rw [e]; decide) (by rw [e]; decide) (by decide) ?_
    have h := h0_ e
    refine J.aload_n dX4_tell_48 rfl rfl ?_
    refine J.getI dX4_tell_49 fX4_7 (hT.lineK hi) rfl ?_
    exact J.iretQ dX4_tell_52 rfl (Nat.le_refl _) (Nat.le_refl _) h
  · refine J.tableIn (off := 52) (tgt := 53) dX4_tell_1 (by rw [e]; decide) (by rw [e]; decide) (by rw [e]; decide) (by decide) ?_
    have h := h1_ e
    refine J.aload_n dX4_tell_53 rfl rfl ?_
    refine J.getI dX4_tell_54 fX4_13 (hT.lineK hi) rfl ?_
    exact J.iretQ dX4_tell_57 rfl (Nat.le_refl _) (Nat.le_refl _) h
  · refine J.tableIn (off := 57) (tgt := 58) dX4_tell_1 (by rw [e]; decide) (by rw [e]; decide) (by rw [e]; decide) (by decide) ?_
    have h := h2_ e
    refine J.aload_n dX4_tell_58 rfl rfl ?_
    refine J.getI dX4_tell_59 fX4_16 (hT.lineK hi) rfl ?_
    exact J.iretQ dX4_tell_62 rfl (Nat.le_refl _) (Nat.le_refl _) h
  · refine J.tableIn (off := 62) (tgt := 63) dX4_tell_1 (by rw [e]; decide) (by rw [e]; decide) (by rw [e]; decide) (by decide) ?_
    have h := h3_ e
    refine J.aload_n dX4_tell_63 rfl rfl ?_
    refine J.getI dX4_tell_64 fX4_31 (hT.lineK hi) rfl ?_
    exact J.iretQ dX4_tell_67 rfl (Nat.le_refl _) (Nat.le_refl _) h
  · refine J.tableIn (off := 67) (tgt := 68) dX4_tell_1 (by rw [e]; decide) (by rw [e]; decide) (by rw [e]; decide) (by decide) ?_
    have h := h4_ e
    refine J.aload_n dX4_tell_68 rfl rfl ?_
    refine J.getI dX4_tell_69 fX4_28 (hT.lineK hi) rfl ?_
    exact J.iretQ dX4_tell_72 rfl (Nat.le_refl _) (Nat.le_refl _) h
  · refine J.tableIn (off := 82) (tgt := 83) dX4_tell_1 (by rw [e]; decide) (by rw [e]; decide) (by rw [e]; decide) (by decide) ?_
    have h := h5_ e
    refine J.aload_n dX4_tell_83 rfl rfl ?_
    refine J.getI dX4_tell_84 fX4_25 (hT.lineK hi) rfl ?_
    exact J.iretQ dX4_tell_87 rfl (Nat.le_refl _) (Nat.le_refl _) h
  · refine J.tableIn (off := 72) (tgt := 73) dX4_tell_1 (by rw [e]; decide) (by rw [e]; decide) (by rw [e]; decide) (by decide) ?_
    have h := h6_ e
    refine J.aload_n dX4_tell_73 rfl rfl ?_
    refine J.getI dX4_tell_74 fX4_22 (hT.lineK hi) rfl ?_
    exact J.iretQ dX4_tell_77 rfl (Nat.le_refl _) (Nat.le_refl _) h
  · refine J.tableIn (off := 77) (tgt := 78) dX4_tell_1 (by rw [e]; decide) (by rw [e]; decide) (by rw [e]; decide) (by decide) ?_
    have h := h7_ e
    refine J.aload_n dX4_tell_78 rfl rfl ?_
    refine J.getI dX4_tell_79 fX4_19 (hT.lineK hi) rfl ?_
    exact J.iretQ dX4_tell_82 rfl (Nat.le_refl _) (Nat.le_refl _) h
  · refine J.tableOut (tgt := 83) dX4_tell_1 e (by decide) ?_
    have h := hdf e
    refine J.aload_n dX4_tell_83 rfl rfl ?_
    refine J.getI dX4_tell_84 fX4_25 (hT.lineK hi) rfl ?_
    exact J.iretQ dX4_tell_87 rfl (Nat.le_refl _) (Nat.le_refl _) h
set_option maxHeartbeats 4000000 in
set_option maxRecDepth 100000 in
theorem wX4_tell (d : Nat) {T : Topo} (hT : Lay T) (i : Nat) (a1 : Int32) (hi : i < 9)  {Q : Int32 → Topo → IM → Prop} {I : IM} (h : fX4_tell_0 T i a1 Q I) : Ct (d + 0) mX4_tell [.ref (6 + i), .int a1] T I 0 0 (PI Q) :=
  Ct.ofJ (by decide +kernel) rfl (by intro v hv; revert v hv; simp [Value.category]) rfl (sX4_tell_0 d hT i a1 hi  I h)

def jTell (I : IM) (i : Nat) (a1 : Int32) : Int32 := (if a1 = 0 then (I (6 + i) 0) else (if a1 = 1 then (I (6 + i) 1) else (if a1 = 2 then (I (6 + i) 2) else (if a1 = 3 then (I (6 + i) 3) else (if a1 = 4 then (I (6 + i) 4) else (if a1 = 5 then (I (6 + i) 7) else (if a1 = 6 then (I (6 + i) 5) else (if a1 = 7 then (I (6 + i) 6) else (I (6 + i) 7)))))))))
set_option maxRecDepth 10000 in
theorem qX4_tell (d : Nat) {T : Topo} {I : IM} (hT : Lay T) (i : Nat) (hi : i < 9) (a1 : Int32)   : CtP (d + 0) mX4_tell [.ref (6 + i), .int a1] T I ((jTell I i a1)) :=
  wX4_tell d hT i a1 hi  (by
  unfold fX4_tell_0
  exact ⟨fun hw1 => ⟨by unfold jTell; rw [if_pos hw1], rfl, rfl⟩, fun hw1 => ⟨by unfold jTell; rw [if_neg (show ¬ a1 = 0 by rw [hw1]; decide), if_pos hw1], rfl, rfl⟩, fun hw1 => ⟨by unfold jTell; rw [if_neg (show ¬ a1 = 0 by rw [hw1]; decide), if_neg (show ¬ a1 = 1 by rw [hw1]; decide), if_pos hw1], rfl, rfl⟩, fun hw1 => ⟨by unfold jTell; rw [if_neg (show ¬ a1 = 0 by rw [hw1]; decide), if_neg (show ¬ a1 = 1 by rw [hw1]; decide), if_neg (show ¬ a1 = 2 by rw [hw1]; decide), if_pos hw1], rfl, rfl⟩, fun hw1 => ⟨by unfold jTell; rw [if_neg (show ¬ a1 = 0 by rw [hw1]; decide), if_neg (show ¬ a1 = 1 by rw [hw1]; decide), if_neg (show ¬ a1 = 2 by rw [hw1]; decide), if_neg (show ¬ a1 = 3 by rw [hw1]; decide), if_pos hw1], rfl, rfl⟩, fun hw1 => ⟨by unfold jTell; rw [if_neg (show ¬ a1 = 0 by rw [hw1]; decide), if_neg (show ¬ a1 = 1 by rw [hw1]; decide), if_neg (show ¬ a1 = 2 by rw [hw1]; decide), if_neg (show ¬ a1 = 3 by rw [hw1]; decide), if_neg (show ¬ a1 = 4 by rw [hw1]; decide), if_pos hw1], rfl, rfl⟩, fun hw1 => ⟨by unfold jTell; rw [if_neg (show ¬ a1 = 0 by rw [hw1]; decide), if_neg (show ¬ a1 = 1 by rw [hw1]; decide), if_neg (show ¬ a1 = 2 by rw [hw1]; decide), if_neg (show ¬ a1 = 3 by rw [hw1]; decide), if_neg (show ¬ a1 = 4 by rw [hw1]; decide), if_neg (show ¬ a1 = 5 by rw [hw1]; decide), if_pos hw1], rfl, rfl⟩, fun hw1 => ⟨by unfold jTell; rw [if_neg (show ¬ a1 = 0 by rw [hw1]; decide), if_neg (show ¬ a1 = 1 by rw [hw1]; decide), if_neg (show ¬ a1 = 2 by rw [hw1]; decide), if_neg (show ¬ a1 = 3 by rw [hw1]; decide), if_neg (show ¬ a1 = 4 by rw [hw1]; decide), if_neg (show ¬ a1 = 5 by rw [hw1]; decide), if_neg (show ¬ a1 = 6 by rw [hw1]; decide), if_pos hw1], rfl, rfl⟩, fun hw1 => ⟨by unfold jTell; rw [if_neg (swd_0_7 hw1).1, if_neg (swd_0_7 hw1).2.1, if_neg (swd_0_7 hw1).2.2.1, if_neg (swd_0_7 hw1).2.2.2.1, if_neg (swd_0_7 hw1).2.2.2.2.1, if_neg (swd_0_7 hw1).2.2.2.2.2.1, if_neg (swd_0_7 hw1).2.2.2.2.2.2.1, if_neg (swd_0_7 hw1).2.2.2.2.2.2.2], rfl, rfl⟩⟩)

def fX7_isMissing_0 (T : Topo) (i : Nat) (Q : Int32 → Topo → IM → Prop)  (I : IM) : Prop :=
  (((¬ (I (71 + 2 * i) 1) = 0) → Q 0 T I) ∧ (((I (71 + 2 * i) 1) = 0) → Q 1 T I))
set_option maxHeartbeats 4000000 in
set_option maxRecDepth 100000 in
theorem sX7_isMissing_0 (d : Nat) {T : Topo} (hT : Lay T) (i : Nat) (hi : i < 4)   {Q : Int32 → Topo → IM → Prop}   (I : IM) (h : fX7_isMissing_0 T i Q  I) : J (d + 0) mX7_isMissing (PI Q) 0 0 0 [some (.ref (71 + 2 * i))] [] T I 0 0 := by
  unfold fX7_isMissing_0 at h
  refine J.aload_n dX7_isMissing_0 rfl rfl ?_
  refine J.getI dX7_isMissing_1 fX7_15 (hT.sheetK hi) rfl ?_
  refine J.if_ne (tgt := 11) dX7_isMissing_4 (by decide) (fun hc1 => ?_) (fun hc1 => ?_)
  · have h := h.1 hc1
    refine J.iconst (v := 0) dX7_isMissing_11 (by decide) ?_
    exact J.zretQ dX7_isMissing_12 rfl (Or.inl rfl) (Nat.le_refl _) (Nat.le_refl _) h
  · have h := h.2 hc1
    refine J.iconst (v := 1) dX7_isMissing_7 (by decide) ?_
    refine J.goto (tgt := 12) dX7_isMissing_8 (by decide) ?_
    exact J.zretQ dX7_isMissing_12 rfl (Or.inr rfl) (Nat.le_refl _) (Nat.le_refl _) h
set_option maxHeartbeats 4000000 in
set_option maxRecDepth 100000 in
theorem wX7_isMissing (d : Nat) {T : Topo} (hT : Lay T) (i : Nat) (hi : i < 4)  {Q : Int32 → Topo → IM → Prop} {I : IM} (h : fX7_isMissing_0 T i Q I) : Ct (d + 0) mX7_isMissing [.ref (71 + 2 * i)] T I 0 0 (PI Q) :=
  Ct.ofJ (by decide +kernel) rfl (by intro v hv; revert v hv; simp [Value.category]) rfl (sX7_isMissing_0 d hT i hi  I h)

set_option maxRecDepth 10000 in
theorem qX7_isMissing (d : Nat) {T : Topo} {I : IM} (hT : Lay T) (i : Nat) (hi : i < 4)   : CtP (d + 0) mX7_isMissing [.ref (71 + 2 * i)] T I (bI (I (71 + 2 * i) 1 = 0)) :=
  wX7_isMissing d hT i hi  (by
  unfold fX7_isMissing_0
  exact ⟨fun hc1 => ⟨by first | exact (bI_t (by first | assumption | simp_all)).symm | exact (bI_f (by first | assumption | simp_all)).symm, rfl, rfl⟩, fun hc1 => ⟨by first | exact (bI_t (by first | assumption | simp_all)).symm | exact (bI_f (by first | assumption | simp_all)).symm, rfl, rfl⟩⟩)

def fX7_lowest_0 (T : Topo) (i : Nat) (a1 : Int32) (Q : Int32 → Topo → IM → Prop)  (I : IM) : Prop :=
  (((¬ (I (71 + 2 * i) 1) = 8) → (((¬ (I (71 + 2 * i) 1) = 16) → Q a1 T I) ∧ (((I (71 + 2 * i) 1) = 16) → Q (a1.toInt16.toInt32) T I))) ∧ (((I (71 + 2 * i) 1) = 8) → Q (a1.toInt8.toInt32) T I))
set_option maxHeartbeats 4000000 in
set_option maxRecDepth 100000 in
theorem sX7_lowest_0 (d : Nat) {T : Topo} (hT : Lay T) (i : Nat) (a1 : Int32) (hi : i < 4)   {Q : Int32 → Topo → IM → Prop}   (I : IM) (h : fX7_lowest_0 T i a1 Q  I) : J (d + 0) mX7_lowest (PI Q) 0 0 0 [some (.ref (71 + 2 * i)), some (.int a1)] [] T I 0 0 := by
  unfold fX7_lowest_0 at h
  refine J.aload_n dX7_lowest_0 rfl rfl ?_
  refine J.getI dX7_lowest_1 fX7_15 (hT.sheetK hi) rfl ?_
  refine J.bipush (v := 8) dX7_lowest_4 (by decide) ?_
  refine J.icmp_ne (tgt := 12) dX7_lowest_6 (by decide) (fun hc1 => ?_) (fun hc1 => ?_)
  · have h := h.1 hc1
    refine J.aload_n dX7_lowest_12 rfl rfl ?_
    refine J.getI dX7_lowest_13 fX7_15 (hT.sheetK hi) rfl ?_
    refine J.bipush (v := 16) dX7_lowest_16 (by decide) ?_
    refine J.icmp_ne (tgt := 26) dX7_lowest_18 (by decide) (fun hc2 => ?_) (fun hc2 => ?_)
    · have h := h.1 hc2
      refine J.iload_n dX7_lowest_26 rfl rfl ?_
      exact J.iretQ dX7_lowest_27 rfl (Nat.le_refl _) (Nat.le_refl _) h
    · have h := h.2 hc2
      refine J.iload_n dX7_lowest_21 rfl rfl ?_
      refine J.i2s dX7_lowest_22 ?_
      refine J.goto (tgt := 27) dX7_lowest_23 (by decide) ?_
      exact J.iretQ dX7_lowest_27 rfl (Nat.le_refl _) (Nat.le_refl _) h
  · have h := h.2 hc1
    refine J.iload_n dX7_lowest_9 rfl rfl ?_
    refine J.i2b dX7_lowest_10 ?_
    exact J.iretQ dX7_lowest_11 rfl (Nat.le_refl _) (Nat.le_refl _) h
set_option maxHeartbeats 4000000 in
set_option maxRecDepth 100000 in
theorem wX7_lowest (d : Nat) {T : Topo} (hT : Lay T) (i : Nat) (a1 : Int32) (hi : i < 4)  {Q : Int32 → Topo → IM → Prop} {I : IM} (h : fX7_lowest_0 T i a1 Q I) : Ct (d + 0) mX7_lowest [.ref (71 + 2 * i), .int a1] T I 0 0 (PI Q) :=
  Ct.ofJ (by decide +kernel) rfl (by intro v hv; revert v hv; simp [Value.category]) rfl (sX7_lowest_0 d hT i a1 hi  I h)

def jLowest (I : IM) (i : Nat) (a1 : Int32) : Int32 := (if (I (71 + 2 * i) 1) = 8 then (a1.toInt8.toInt32) else (if (I (71 + 2 * i) 1) = 16 then (a1.toInt16.toInt32) else a1))
set_option maxRecDepth 10000 in
theorem qX7_lowest (d : Nat) {T : Topo} {I : IM} (hT : Lay T) (i : Nat) (hi : i < 4) (a1 : Int32)   : CtP (d + 0) mX7_lowest [.ref (71 + 2 * i), .int a1] T I ((jLowest I i a1)) :=
  wX7_lowest d hT i a1 hi  (by
  unfold fX7_lowest_0
  exact ⟨fun hc1 => ⟨fun hc2 => ⟨by unfold jLowest; rw [if_neg hc1, if_neg hc2], rfl, rfl⟩, fun hc2 => ⟨by unfold jLowest; rw [if_neg hc1, if_pos hc2], rfl, rfl⟩⟩, fun hc1 => ⟨by unfold jLowest; rw [if_pos hc1], rfl, rfl⟩⟩)

def fX7_put_0 (T : Topo) (i : Nat) (a1 : Int32) (a2 : Int32) (Q : Int32 → Topo → IM → Prop)  (I : IM) : Prop :=
  (vp_in a1 8 ∧ ((vp_in a1 8 ∧ Q (I (72 + 2 * i) a1.toNatClampNeg) T (up2 I (72 + 2 * i) a1.toNatClampNeg (jLowest I i a2)))))
set_option maxHeartbeats 4000000 in
set_option maxRecDepth 100000 in
theorem sX7_put_0 (d : Nat) {T : Topo} (hT : Lay T) (i : Nat) (a1 : Int32) (a2 : Int32) (hi : i < 4)   {Q : Int32 → Topo → IM → Prop}   (I : IM) (h : fX7_put_0 T i a1 a2 Q  I) : J (d + 1) mX7_put (PI Q) 0 0 0 [some (.ref (71 + 2 * i)), some (.int a1), some (.int a2), none] [] T I 0 0 := by
  unfold fX7_put_0 at h
  refine J.aload_n dX7_put_0 rfl rfl ?_
  refine J.getR (r := (72 + 2 * i)) dX7_put_1 fX7_9 (hT.sheetK hi) rfl (hT.sheetN hi) ?_
  refine J.iload_n dX7_put_4 rfl rfl ?_
  obtain ⟨hs1, h⟩ := h
  refine J.iald dX7_put_5 (hT.sheetA hi) (hT.sheetL hi) hs1 ?_
  refine J.istore_n (ls' := [some (.ref (71 + 2 * i)), some (.int a1), some (.int a2), some (.int (I (72 + 2 * i) a1.toNatClampNeg))]) dX7_put_6 rfl rfl rfl ?_
  refine J.aload_n dX7_put_7 rfl rfl ?_
  refine J.getR (r := (72 + 2 * i)) dX7_put_8 fX7_9 (hT.sheetK hi) rfl (hT.sheetN hi) ?_
  refine J.iload_n dX7_put_11 rfl rfl ?_
  refine J.aload_n dX7_put_12 rfl rfl ?_
  refine J.iload_n dX7_put_13 rfl rfl ?_
  refine J.callVP (k := (71 + 2 * i)) (as := [.int a2]) (rest := [.int a1, .ref (72 + 2 * i)]) dX7_put_14 kX7_lowest vX7_lowest lX7_22 (hT.sheetK hi) rfl rfl rfl rfl rfl (by omega) (Nat.le_refl _) (Nat.le_refl _) (qX7_lowest (d + 0) hT i hi a2 ) ?_
  obtain ⟨hs2, h⟩ := h
  refine J.iast dX7_put_17 (hT.sheetA hi) (hT.sheetL hi) hs2 ?_
  refine J.iload_n dX7_put_18 rfl rfl ?_
  exact J.iretQ dX7_put_19 rfl (Nat.le_refl _) (Nat.le_refl _) h
set_option maxHeartbeats 4000000 in
set_option maxRecDepth 100000 in
theorem wX7_put (d : Nat) {T : Topo} (hT : Lay T) (i : Nat) (a1 : Int32) (a2 : Int32) (hi : i < 4)  {Q : Int32 → Topo → IM → Prop} {I : IM} (h : fX7_put_0 T i a1 a2 Q I) : Ct (d + 1) mX7_put [.ref (71 + 2 * i), .int a1, .int a2] T I 0 0 (PI Q) :=
  Ct.ofJ (by decide +kernel) rfl (by intro v hv; revert v hv; simp [Value.category]) rfl (sX7_put_0 d hT i a1 a2 hi  I h)

def jPut (I : IM) (i : Nat) (a1 : Int32) : Int32 := (I (72 + 2 * i) a1.toNatClampNeg)
def jPutM (I : IM) (i : Nat) (a1 : Int32) (a2 : Int32) : IM := (up2 I (72 + 2 * i) a1.toNatClampNeg (jLowest I i a2))
def jPutK (a1 : Int32) : Prop := (vp_in a1 8 ∧ vp_in a1 8)
set_option maxRecDepth 10000 in
theorem qX7_put (d : Nat) {T : Topo} {I : IM} (hT : Lay T) (i : Nat) (hi : i < 4) (a1 : Int32) (a2 : Int32)  (hp : (jPutK a1)) : CtI (d + 1) mX7_put [.ref (71 + 2 * i), .int a1, .int a2] T I (fun x_ J_ => x_ = (jPut I i a1) ∧ J_ = (jPutM I i a1 a2)) :=
  wX7_put d hT i a1 a2 hi  (by
  unfold fX7_put_0
  exact ⟨(hp).1, ⟨(hp).2, ⟨rfl, by unfold jPut; rfl, by unfold jPutM; rfl⟩⟩⟩)

def fX7_unitsAt_0 (T : Topo) (i : Nat) (a1 : Int32) (Q : Int32 → Topo → IM → Prop)  (I : IM) : Prop :=
  (vp_in a1 8 ∧ (Q (jMax (I (72 + 2 * i) a1.toNatClampNeg) 0) T I))
set_option maxHeartbeats 4000000 in
set_option maxRecDepth 100000 in
theorem sX7_unitsAt_0 (d : Nat) {T : Topo} (hT : Lay T) (i : Nat) (a1 : Int32) (hi : i < 4)   {Q : Int32 → Topo → IM → Prop}   (I : IM) (h : fX7_unitsAt_0 T i a1 Q  I) : J (d + 1) mX7_unitsAt (PI Q) 0 0 0 [some (.ref (71 + 2 * i)), some (.int a1)] [] T I 0 0 := by
  unfold fX7_unitsAt_0 at h
  refine J.aload_n dX7_unitsAt_0 rfl rfl ?_
  refine J.getR (r := (72 + 2 * i)) dX7_unitsAt_1 fX7_9 (hT.sheetK hi) rfl (hT.sheetN hi) ?_
  refine J.iload_n dX7_unitsAt_4 rfl rfl ?_
  obtain ⟨hs1, h⟩ := h
  refine J.iald dX7_unitsAt_5 (hT.sheetA hi) (hT.sheetL hi) hs1 ?_
  refine J.iconst (v := 0) dX7_unitsAt_6 (by decide) ?_
  refine J.callSP (as := [.int (I (72 + 2 * i) a1.toNatClampNeg), .int 0]) (rest := []) dX7_unitsAt_7 kJ9_max_7cf53 vJ9_max_7cf53 lX7_26 rfl rfl rfl (by omega) (Nat.le_refl _) (Nat.le_refl _) (qJ9_max_7cf53 (d + 0) hT (I (72 + 2 * i) a1.toNatClampNeg) 0 ) ?_
  exact J.iretQ dX7_unitsAt_10 rfl (Nat.le_refl _) (Nat.le_refl _) h
set_option maxHeartbeats 4000000 in
set_option maxRecDepth 100000 in
theorem wX7_unitsAt (d : Nat) {T : Topo} (hT : Lay T) (i : Nat) (a1 : Int32) (hi : i < 4)  {Q : Int32 → Topo → IM → Prop} {I : IM} (h : fX7_unitsAt_0 T i a1 Q I) : Ct (d + 1) mX7_unitsAt [.ref (71 + 2 * i), .int a1] T I 0 0 (PI Q) :=
  Ct.ofJ (by decide +kernel) rfl (by intro v hv; revert v hv; simp [Value.category]) rfl (sX7_unitsAt_0 d hT i a1 hi  I h)

def jUnits (I : IM) (i : Nat) (a1 : Int32) : Int32 := (jMax (I (72 + 2 * i) a1.toNatClampNeg) 0)
def jUnitsK (a1 : Int32) : Prop := vp_in a1 8
set_option maxRecDepth 10000 in
theorem qX7_unitsAt (d : Nat) {T : Topo} {I : IM} (hT : Lay T) (i : Nat) (hi : i < 4) (a1 : Int32)  (hp : (jUnitsK a1)) : CtP (d + 1) mX7_unitsAt [.ref (71 + 2 * i), .int a1] T I ((jUnits I i a1)) :=
  wX7_unitsAt d hT i a1 hi  (by
  unfold fX7_unitsAt_0
  exact ⟨hp, ⟨by unfold jUnits; rfl, rfl, rfl⟩⟩)

end
