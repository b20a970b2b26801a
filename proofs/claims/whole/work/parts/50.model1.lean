noncomputable section
theorem and1 (x : Int32) : x &&& 1 = 0 ∨ x &&& 1 = 1 := by
  rw [pk_and x (m := 1) 1 (by decide)]
  rcases Nat.mod_two_eq_zero_or_one (x.toBitVec.toNat) with h | h
  · left; rw [show (2 : Nat) ^ 1 = 2 from rfl, h]; rfl
  · right; rw [show (2 : Nat) ^ 1 = 2 from rfl, h]; rfl
theorem and1' (x : Int32) : x &&& 1 = 1 ↔ ¬ x &&& 1 = 0 := by
  rcases and1 x with h | h <;> rw [h] <;> decide

def fX12_in_0 (T : Topo) (a1 : Int32) (a2 : Int32) (a3 : Int32) (Q : Int32 → Topo → IM → Prop)  (I : IM) : Prop :=
  (((a1 < a2) → Q 0 T I) ∧ ((¬ a1 < a2) → (((a3 < a1) → Q 0 T I) ∧ ((¬ a3 < a1) → Q 1 T I))))
set_option maxHeartbeats 4000000 in
set_option maxRecDepth 100000 in
theorem sX12_in_0 (d : Nat) {T : Topo} (hT : Lay T) (a1 : Int32) (a2 : Int32) (a3 : Int32)    {Q : Int32 → Topo → IM → Prop}   (I : IM) (h : fX12_in_0 T a1 a2 a3 Q  I) : J (d + 0) mX12_in (PI Q) 0 0 0 [some (.int a1), some (.int a2), some (.int a3)] [] T I 0 0 := by
  unfold fX12_in_0 at h
  refine J.iload_n dX12_in_0 rfl rfl ?_
  refine J.iload_n dX12_in_1 rfl rfl ?_
  refine J.icmp_lt (tgt := 14) dX12_in_2 (by decide) (fun hc1 => ?_) (fun hc1 => ?_)
  · have h := h.1 hc1
    refine J.iconst (v := 0) dX12_in_14 (by decide) ?_
    exact J.zretQ dX12_in_15 rfl (Or.inl rfl) (Nat.le_refl _) (Nat.le_refl _) h
  · have h := h.2 hc1
    refine J.iload_n dX12_in_5 rfl rfl ?_
    refine J.iload_n dX12_in_6 rfl rfl ?_
    refine J.icmp_gt (tgt := 14) dX12_in_7 (by decide) (fun hc2 => ?_) (fun hc2 => ?_)
    · have h := h.1 hc2
      refine J.iconst (v := 0) dX12_in_14 (by decide) ?_
      exact J.zretQ dX12_in_15 rfl (Or.inl rfl) (Nat.le_refl _) (Nat.le_refl _) h
    · have h := h.2 hc2
      refine J.iconst (v := 1) dX12_in_10 (by decide) ?_
      refine J.goto (tgt := 15) dX12_in_11 (by decide) ?_
      exact J.zretQ dX12_in_15 rfl (Or.inr rfl) (Nat.le_refl _) (Nat.le_refl _) h
set_option maxHeartbeats 4000000 in
set_option maxRecDepth 100000 in
theorem wX12_in (d : Nat) {T : Topo} (hT : Lay T) (a1 : Int32) (a2 : Int32) (a3 : Int32)   {Q : Int32 → Topo → IM → Prop} {I : IM} (h : fX12_in_0 T a1 a2 a3 Q I) : Ct (d + 0) mX12_in [.int a1, .int a2, .int a3] T I 0 0 (PI Q) :=
  Ct.ofJ (by decide +kernel) rfl (by intro v hv; revert v hv; simp [Value.category]) rfl (sX12_in_0 d hT a1 a2 a3   I h)

theorem qX12_in (d : Nat) {T : Topo} {I : IM} (hT : Lay T) (a1 : Int32) (a2 : Int32) (a3 : Int32)  : CtP (d + 0) mX12_in [.int a1, .int a2, .int a3] T I (bI (wi a1 a2 a3)) :=
  wX12_in d hT a1 a2 a3  (by
  unfold fX12_in_0
  exact ⟨fun hc2 => ⟨by (simp only [bI, wi]; first | exact (if_pos (by first | assumption | (simp only [Int32.lt_iff_toInt_lt, Int32.le_iff_toInt_le, ← Int32.toInt_inj] at *; omega))).symm | exact (if_neg (by first | assumption | (simp only [Int32.lt_iff_toInt_lt, Int32.le_iff_toInt_le, ← Int32.toInt_inj] at *; omega))).symm), rfl, rfl⟩, fun hc2 => ⟨fun hc1 => ⟨by (simp only [bI, wi]; first | exact (if_pos (by first | assumption | (simp only [Int32.lt_iff_toInt_lt, Int32.le_iff_toInt_le, ← Int32.toInt_inj] at *; omega))).symm | exact (if_neg (by first | assumption | (simp only [Int32.lt_iff_toInt_lt, Int32.le_iff_toInt_le, ← Int32.toInt_inj] at *; omega))).symm), rfl, rfl⟩, fun hc1 => ⟨by (simp only [bI, wi]; first | exact (if_pos (by first | assumption | (simp only [Int32.lt_iff_toInt_lt, Int32.le_iff_toInt_le, ← Int32.toInt_inj] at *; omega))).symm | exact (if_neg (by first | assumption | (simp only [Int32.lt_iff_toInt_lt, Int32.le_iff_toInt_le, ← Int32.toInt_inj] at *; omega))).symm), rfl, rfl⟩⟩⟩)

def fX12_has_0 (T : Topo) (a1 : Int32) (a2 : Int32) (Q : Int32 → Topo → IM → Prop)  (I : IM) : Prop :=
  (((¬ ((a1 >>> (a2 &&& 31)) &&& 1) = 1) → Q 0 T I) ∧ ((((a1 >>> (a2 &&& 31)) &&& 1) = 1) → Q 1 T I))
set_option maxHeartbeats 4000000 in
set_option maxRecDepth 100000 in
theorem sX12_has_0 (d : Nat) {T : Topo} (hT : Lay T) (a1 : Int32) (a2 : Int32)    {Q : Int32 → Topo → IM → Prop}   (I : IM) (h : fX12_has_0 T a1 a2 Q  I) : J (d + 0) mX12_has (PI Q) 0 0 0 [some (.int a1), some (.int a2)] [] T I 0 0 := by
  unfold fX12_has_0 at h
  refine J.iload_n dX12_has_0 rfl rfl ?_
  refine J.iload_n dX12_has_1 rfl rfl ?_
  refine J.ishr dX12_has_2 ?_
  refine J.iconst (v := 1) dX12_has_3 (by decide) ?_
  refine J.iand dX12_has_4 ?_
  refine J.iconst (v := 1) dX12_has_5 (by decide) ?_
  refine J.icmp_ne (tgt := 13) dX12_has_6 (by decide) (fun hc1 => ?_) (fun hc1 => ?_)
  · have h := h.1 hc1
    refine J.iconst (v := 0) dX12_has_13 (by decide) ?_
    exact J.zretQ dX12_has_14 rfl (Or.inl rfl) (Nat.le_refl _) (Nat.le_refl _) h
  · have h := h.2 hc1
    refine J.iconst (v := 1) dX12_has_9 (by decide) ?_
    refine J.goto (tgt := 14) dX12_has_10 (by decide) ?_
    exact J.zretQ dX12_has_14 rfl (Or.inr rfl) (Nat.le_refl _) (Nat.le_refl _) h
set_option maxHeartbeats 4000000 in
set_option maxRecDepth 100000 in
theorem wX12_has (d : Nat) {T : Topo} (hT : Lay T) (a1 : Int32) (a2 : Int32)   {Q : Int32 → Topo → IM → Prop} {I : IM} (h : fX12_has_0 T a1 a2 Q I) : Ct (d + 0) mX12_has [.int a1, .int a2] T I 0 0 (PI Q) :=
  Ct.ofJ (by decide +kernel) rfl (by intro v hv; revert v hv; simp [Value.category]) rfl (sX12_has_0 d hT a1 a2   I h)

theorem qX12_has (d : Nat) {T : Topo} {I : IM} (hT : Lay T) (a1 : Int32) (a2 : Int32)  : CtP (d + 0) mX12_has [.int a1, .int a2] T I (bI (hs a1 a2)) :=
  wX12_has d hT a1 a2  (by
  unfold fX12_has_0
  exact ⟨fun hc1 => ⟨by first | exact (bI_t ((and1' _).mp hc1)).symm | exact (bI_f (fun z => hc1 ((and1' _).mpr z))).symm, rfl, rfl⟩, fun hc1 => ⟨by first | exact (bI_t ((and1' _).mp hc1)).symm | exact (bI_f (fun z => hc1 ((and1' _).mpr z))).symm, rfl, rfl⟩⟩)

def fX12_isNode_0 (T : Topo) (a1 : Int32) (Q : Int32 → Topo → IM → Prop)  (I : IM) : Prop :=
  (Q (bI (wi a1 0 ((I 79 0) - 1))) T I)
set_option maxHeartbeats 4000000 in
set_option maxRecDepth 100000 in
theorem sX12_isNode_0 (d : Nat) {T : Topo} (hT : Lay T) (a1 : Int32)    {Q : Int32 → Topo → IM → Prop}   (I : IM) (h : fX12_isNode_0 T a1 Q  I) : J (d + 1) mX12_isNode (PI Q) 0 0 0 [some (.ref 79), some (.int a1)] [] T I 0 0 := by
  unfold fX12_isNode_0 at h
  refine J.iload_n dX12_isNode_0 rfl rfl ?_
  refine J.iconst (v := 0) dX12_isNode_1 (by decide) ?_
  refine J.aload_n dX12_isNode_2 rfl rfl ?_
  refine J.getI dX12_isNode_3 fX12_186 (hT.k 79 rfl) rfl ?_
  refine J.iconst (v := 1) dX12_isNode_6 (by decide) ?_
  refine J.isub dX12_isNode_7 ?_
  refine J.callSP (as := [.int a1, .int 0, .int ((I 79 0) - 1)]) (rest := []) dX12_isNode_8 kX12_in vX12_in lX12_189 rfl rfl rfl (by omega) (Nat.le_refl _) (Nat.le_refl _) (qX12_in (d + 0) hT a1 0 ((I 79 0) - 1) ) ?_
  exact J.zretQ dX12_isNode_11 rfl (bI_01 _) (Nat.le_refl _) (Nat.le_refl _) h
set_option maxHeartbeats 4000000 in
set_option maxRecDepth 100000 in
theorem wX12_isNode (d : Nat) {T : Topo} (hT : Lay T) (a1 : Int32)   {Q : Int32 → Topo → IM → Prop} {I : IM} (h : fX12_isNode_0 T a1 Q I) : Ct (d + 1) mX12_isNode [.ref 79, .int a1] T I 0 0 (PI Q) :=
  Ct.ofJ (by decide +kernel) rfl (by intro v hv; revert v hv; simp [Value.category]) rfl (sX12_isNode_0 d hT a1   I h)

theorem qX12_isNode (d : Nat) {T : Topo} {I : IM} (hT : Lay T) (a1 : Int32)  : CtP (d + 1) mX12_isNode [.ref 79, .int a1] T I (bI (wi a1 0 (I 79 0 - 1))) :=
  wX12_isNode d hT a1  (by
  unfold fX12_isNode_0
  exact ⟨by rfl, rfl, rfl⟩)

def fX12_isLine_0 (T : Topo) (a1 : Int32) (Q : Int32 → Topo → IM → Prop)  (I : IM) : Prop :=
  (Q (bI (wi a1 0 ((I 79 1) - 1))) T I)
set_option maxHeartbeats 4000000 in
set_option maxRecDepth 100000 in
theorem sX12_isLine_0 (d : Nat) {T : Topo} (hT : Lay T) (a1 : Int32)    {Q : Int32 → Topo → IM → Prop}   (I : IM) (h : fX12_isLine_0 T a1 Q  I) : J (d + 1) mX12_isLine (PI Q) 0 0 0 [some (.ref 79), some (.int a1)] [] T I 0 0 := by
  unfold fX12_isLine_0 at h
  refine J.iload_n dX12_isLine_0 rfl rfl ?_
  refine J.iconst (v := 0) dX12_isLine_1 (by decide) ?_
  refine J.aload_n dX12_isLine_2 rfl rfl ?_
  refine J.getI dX12_isLine_3 fX12_193 (hT.k 79 rfl) rfl ?_
  refine J.iconst (v := 1) dX12_isLine_6 (by decide) ?_
  refine J.isub dX12_isLine_7 ?_
  refine J.callSP (as := [.int a1, .int 0, .int ((I 79 1) - 1)]) (rest := []) dX12_isLine_8 kX12_in vX12_in lX12_189 rfl rfl rfl (by omega) (Nat.le_refl _) (Nat.le_refl _) (qX12_in (d + 0) hT a1 0 ((I 79 1) - 1) ) ?_
  exact J.zretQ dX12_isLine_11 rfl (bI_01 _) (Nat.le_refl _) (Nat.le_refl _) h
set_option maxHeartbeats 4000000 in
set_option maxRecDepth 100000 in
theorem wX12_isLine (d : Nat) {T : Topo} (hT : Lay T) (a1 : Int32)   {Q : Int32 → Topo → IM → Prop} {I : IM} (h : fX12_isLine_0 T a1 Q I) : Ct (d + 1) mX12_isLine [.ref 79, .int a1] T I 0 0 (PI Q) :=
  Ct.ofJ (by decide +kernel) rfl (by intro v hv; revert v hv; simp [Value.category]) rfl (sX12_isLine_0 d hT a1   I h)

theorem qX12_isLine (d : Nat) {T : Topo} {I : IM} (hT : Lay T) (a1 : Int32)  : CtP (d + 1) mX12_isLine [.ref 79, .int a1] T I (bI (wi a1 0 (I 79 1 - 1))) :=
  wX12_isLine d hT a1  (by
  unfold fX12_isLine_0
  exact ⟨by rfl, rfl, rfl⟩)

def fX12_isSlice_0 (T : Topo) (a1 : Int32) (Q : Int32 → Topo → IM → Prop)  (I : IM) : Prop :=
  (Q (bI (wi a1 0 ((I 79 2) - 1))) T I)
set_option maxHeartbeats 4000000 in
set_option maxRecDepth 100000 in
theorem sX12_isSlice_0 (d : Nat) {T : Topo} (hT : Lay T) (a1 : Int32)    {Q : Int32 → Topo → IM → Prop}   (I : IM) (h : fX12_isSlice_0 T a1 Q  I) : J (d + 1) mX12_isSlice (PI Q) 0 0 0 [some (.ref 79), some (.int a1)] [] T I 0 0 := by
  unfold fX12_isSlice_0 at h
  refine J.iload_n dX12_isSlice_0 rfl rfl ?_
  refine J.iconst (v := 0) dX12_isSlice_1 (by decide) ?_
  refine J.aload_n dX12_isSlice_2 rfl rfl ?_
  refine J.getI dX12_isSlice_3 fX12_196 (hT.k 79 rfl) rfl ?_
  refine J.iconst (v := 1) dX12_isSlice_6 (by decide) ?_
  refine J.isub dX12_isSlice_7 ?_
  refine J.callSP (as := [.int a1, .int 0, .int ((I 79 2) - 1)]) (rest := []) dX12_isSlice_8 kX12_in vX12_in lX12_189 rfl rfl rfl (by omega) (Nat.le_refl _) (Nat.le_refl _) (qX12_in (d + 0) hT a1 0 ((I 79 2) - 1) ) ?_
  exact J.zretQ dX12_isSlice_11 rfl (bI_01 _) (Nat.le_refl _) (Nat.le_refl _) h
set_option maxHeartbeats 4000000 in
set_option maxRecDepth 100000 in
theorem wX12_isSlice (d : Nat) {T : Topo} (hT : Lay T) (a1 : Int32)   {Q : Int32 → Topo → IM → Prop} {I : IM} (h : fX12_isSlice_0 T a1 Q I) : Ct (d + 1) mX12_isSlice [.ref 79, .int a1] T I 0 0 (PI Q) :=
  Ct.ofJ (by decide +kernel) rfl (by intro v hv; revert v hv; simp [Value.category]) rfl (sX12_isSlice_0 d hT a1   I h)

theorem qX12_isSlice (d : Nat) {T : Topo} {I : IM} (hT : Lay T) (a1 : Int32)  : CtP (d + 1) mX12_isSlice [.ref 79, .int a1] T I (bI (wi a1 0 (I 79 2 - 1))) :=
  wX12_isSlice d hT a1  (by
  unfold fX12_isSlice_0
  exact ⟨by rfl, rfl, rfl⟩)

def fX12_isTick_0 (T : Topo) (a1 : Int32) (Q : Int32 → Topo → IM → Prop)  (I : IM) : Prop :=
  (Q (bI (wi a1 0 23)) T I)
set_option maxHeartbeats 4000000 in
set_option maxRecDepth 100000 in
theorem sX12_isTick_0 (d : Nat) {T : Topo} (hT : Lay T) (a1 : Int32)    {Q : Int32 → Topo → IM → Prop}   (I : IM) (h : fX12_isTick_0 T a1 Q  I) : J (d + 1) mX12_isTick (PI Q) 0 0 0 [some (.int a1)] [] T I 0 0 := by
  unfold fX12_isTick_0 at h
  refine J.iload_n dX12_isTick_0 rfl rfl ?_
  refine J.iconst (v := 0) dX12_isTick_1 (by decide) ?_
  refine J.bipush (v := 23) dX12_isTick_2 (by decide) ?_
  refine J.callSP (as := [.int a1, .int 0, .int 23]) (rest := []) dX12_isTick_4 kX12_in vX12_in lX12_189 rfl rfl rfl (by omega) (Nat.le_refl _) (Nat.le_refl _) (qX12_in (d + 0) hT a1 0 23 ) ?_
  exact J.zretQ dX12_isTick_7 rfl (bI_01 _) (Nat.le_refl _) (Nat.le_refl _) h
set_option maxHeartbeats 4000000 in
set_option maxRecDepth 100000 in
theorem wX12_isTick (d : Nat) {T : Topo} (hT : Lay T) (a1 : Int32)   {Q : Int32 → Topo → IM → Prop} {I : IM} (h : fX12_isTick_0 T a1 Q I) : Ct (d + 1) mX12_isTick [.int a1] T I 0 0 (PI Q) :=
  Ct.ofJ (by decide +kernel) rfl (by intro v hv; revert v hv; simp [Value.category]) rfl (sX12_isTick_0 d hT a1   I h)

theorem qX12_isTick (d : Nat) {T : Topo} {I : IM} (hT : Lay T) (a1 : Int32)  : CtP (d + 1) mX12_isTick [.int a1] T I (bI (wi a1 0 23)) :=
  wX12_isTick d hT a1  (by
  unfold fX12_isTick_0
  exact ⟨by rfl, rfl, rfl⟩)

def fX12_isSheet_0 (T : Topo) (a1 : Int32) (Q : Int32 → Topo → IM → Prop)  (I : IM) : Prop :=
  (Q (bI (wi a1 0 3)) T I)
set_option maxHeartbeats 4000000 in
set_option maxRecDepth 100000 in
theorem sX12_isSheet_0 (d : Nat) {T : Topo} (hT : Lay T) (a1 : Int32)    {Q : Int32 → Topo → IM → Prop}   (I : IM) (h : fX12_isSheet_0 T a1 Q  I) : J (d + 1) mX12_isSheet (PI Q) 0 0 0 [some (.int a1)] [] T I 0 0 := by
  unfold fX12_isSheet_0 at h
  refine J.iload_n dX12_isSheet_0 rfl rfl ?_
  refine J.iconst (v := 0) dX12_isSheet_1 (by decide) ?_
  refine J.iconst (v := 3) dX12_isSheet_2 (by decide) ?_
  refine J.callSP (as := [.int a1, .int 0, .int 3]) (rest := []) dX12_isSheet_3 kX12_in vX12_in lX12_189 rfl rfl rfl (by omega) (Nat.le_refl _) (Nat.le_refl _) (qX12_in (d + 0) hT a1 0 3 ) ?_
  exact J.zretQ dX12_isSheet_6 rfl (bI_01 _) (Nat.le_refl _) (Nat.le_refl _) h
set_option maxHeartbeats 4000000 in
set_option maxRecDepth 100000 in
theorem wX12_isSheet (d : Nat) {T : Topo} (hT : Lay T) (a1 : Int32)   {Q : Int32 → Topo → IM → Prop} {I : IM} (h : fX12_isSheet_0 T a1 Q I) : Ct (d + 1) mX12_isSheet [.int a1] T I 0 0 (PI Q) :=
  Ct.ofJ (by decide +kernel) rfl (by intro v hv; revert v hv; simp [Value.category]) rfl (sX12_isSheet_0 d hT a1   I h)

theorem qX12_isSheet (d : Nat) {T : Topo} {I : IM} (hT : Lay T) (a1 : Int32)  : CtP (d + 1) mX12_isSheet [.int a1] T I (bI (wi a1 0 3)) :=
  wX12_isSheet d hT a1  (by
  unfold fX12_isSheet_0
  exact ⟨by rfl, rfl, rfl⟩)

abbrev twM (I : IM) (a b : Int32) : Prop := wi a 0 (I 79 0 - 1) ∧ wi b 0 (I 79 0 - 1) ∧ ¬ a = b
def fX12_areNodes_0 (T : Topo) (a1 : Int32) (a2 : Int32) (Q : Int32 → Topo → IM → Prop)  (I : IM) : Prop :=
  ((((¬ (wi a1 0 (I 79 0 - 1))) → Q 0 T I) ∧ ((wi a1 0 (I 79 0 - 1)) → ((((¬ (wi a2 0 (I 79 0 - 1))) → Q 0 T I) ∧ ((wi a2 0 (I 79 0 - 1)) → (((a1 = a2) → Q 0 T I) ∧ ((¬ a1 = a2) → Q 1 T I))))))))
set_option maxHeartbeats 4000000 in
set_option maxRecDepth 100000 in
theorem sX12_areNodes_0 (d : Nat) {T : Topo} (hT : Lay T) (a1 : Int32) (a2 : Int32)    {Q : Int32 → Topo → IM → Prop}   (I : IM) (h : fX12_areNodes_0 T a1 a2 Q  I) : J (d + 2) mX12_areNodes (PI Q) 0 0 0 [some (.ref 79), some (.int a1), some (.int a2)] [] T I 0 0 := by
  unfold fX12_areNodes_0 at h
  refine J.aload_n dX12_areNodes_0 rfl rfl ?_
  refine J.iload_n dX12_areNodes_1 rfl rfl ?_
  refine J.callVP (k := 79) (as := [.int a1]) (rest := []) dX12_areNodes_2 kX12_isNode vX12_isNode lX12_205 (hT.k 79 rfl) rfl rfl rfl rfl rfl (by omega) (Nat.le_refl _) (Nat.le_refl _) (qX12_isNode (d + 0) hT a1 ) ?_
  refine J.bz_eq (tgt := 25) dX12_areNodes_5 (by decide) (fun hc1 => ?_) (fun hc1 => ?_)
  · have h := h.1 hc1
    refine J.iconst (v := 0) dX12_areNodes_25 (by decide) ?_
    exact J.zretQ dX12_areNodes_26 rfl (Or.inl rfl) (Nat.le_refl _) (Nat.le_refl _) h
  · have h := h.2 hc1
    refine J.aload_n dX12_areNodes_8 rfl rfl ?_
    refine J.iload_n dX12_areNodes_9 rfl rfl ?_
    refine J.callVP (k := 79) (as := [.int a2]) (rest := []) dX12_areNodes_10 kX12_isNode vX12_isNode lX12_205 (hT.k 79 rfl) rfl rfl rfl rfl rfl (by omega) (Nat.le_refl _) (Nat.le_refl _) (qX12_isNode (d + 0) hT a2 ) ?_
    refine J.bz_eq (tgt := 25) dX12_areNodes_13 (by decide) (fun hc2 => ?_) (fun hc2 => ?_)
    · have h := h.1 hc2
      refine J.iconst (v := 0) dX12_areNodes_25 (by decide) ?_
      exact J.zretQ dX12_areNodes_26 rfl (Or.inl rfl) (Nat.le_refl _) (Nat.le_refl _) h
    · have h := h.2 hc2
      refine J.iload_n dX12_areNodes_16 rfl rfl ?_
      refine J.iload_n dX12_areNodes_17 rfl rfl ?_
      refine J.icmp_eq (tgt := 25) dX12_areNodes_18 (by decide) (fun hc3 => ?_) (fun hc3 => ?_)
      · have h := h.1 hc3
        refine J.iconst (v := 0) dX12_areNodes_25 (by decide) ?_
        exact J.zretQ dX12_areNodes_26 rfl (Or.inl rfl) (Nat.le_refl _) (Nat.le_refl _) h
      · have h := h.2 hc3
        refine J.iconst (v := 1) dX12_areNodes_21 (by decide) ?_
        refine J.goto (tgt := 26) dX12_areNodes_22 (by decide) ?_
        exact J.zretQ dX12_areNodes_26 rfl (Or.inr rfl) (Nat.le_refl _) (Nat.le_refl _) h
set_option maxHeartbeats 4000000 in
set_option maxRecDepth 100000 in
theorem wX12_areNodes (d : Nat) {T : Topo} (hT : Lay T) (a1 : Int32) (a2 : Int32)   {Q : Int32 → Topo → IM → Prop} {I : IM} (h : fX12_areNodes_0 T a1 a2 Q I) : Ct (d + 2) mX12_areNodes [.ref 79, .int a1, .int a2] T I 0 0 (PI Q) :=
  Ct.ofJ (by decide +kernel) rfl (by intro v hv; revert v hv; simp [Value.category]) rfl (sX12_areNodes_0 d hT a1 a2   I h)

theorem qX12_areNodes (d : Nat) {T : Topo} {I : IM} (hT : Lay T) (a1 : Int32) (a2 : Int32)  : CtP (d + 2) mX12_areNodes [.ref 79, .int a1, .int a2] T I (bI (twM I a1 a2)) :=
  wX12_areNodes d hT a1 a2  (by
  unfold fX12_areNodes_0
  exact ⟨fun hc3 => ⟨by first | exact (bI_t ⟨hc3, hc2, hc1⟩).symm | exact (bI_f (fun z => hc3 z.1)).symm | exact (bI_f (fun z => hc2 z.2.1)).symm | exact (bI_f (fun z => z.2.2 hc1)).symm, rfl, rfl⟩, fun hc3 => ⟨fun hc2 => ⟨by first | exact (bI_t ⟨hc3, hc2, hc1⟩).symm | exact (bI_f (fun z => hc3 z.1)).symm | exact (bI_f (fun z => hc2 z.2.1)).symm | exact (bI_f (fun z => z.2.2 hc1)).symm, rfl, rfl⟩, fun hc2 => ⟨fun hc1 => ⟨by first | exact (bI_t ⟨hc3, hc2, hc1⟩).symm | exact (bI_f (fun z => hc3 z.1)).symm | exact (bI_f (fun z => hc2 z.2.1)).symm | exact (bI_f (fun z => z.2.2 hc1)).symm, rfl, rfl⟩, fun hc1 => ⟨by first | exact (bI_t ⟨hc3, hc2, hc1⟩).symm | exact (bI_f (fun z => hc3 z.1)).symm | exact (bI_f (fun z => hc2 z.2.1)).symm | exact (bI_f (fun z => z.2.2 hc1)).symm, rfl, rfl⟩⟩⟩⟩)

def fX12_finds_0 (T : Topo) (a1 : Int32) (Q : Int32 → Topo → IM → Prop)  (I : IM) : Prop :=
  Q a1 T (up2 I 79 4 ((I 79 4) + 1))
set_option maxHeartbeats 4000000 in
set_option maxRecDepth 100000 in
theorem sX12_finds_0 (d : Nat) {T : Topo} (hT : Lay T) (a1 : Int32)    {Q : Int32 → Topo → IM → Prop}   (I : IM) (h : fX12_finds_0 T a1 Q  I) : J (d + 0) mX12_finds (PI Q) 0 0 0 [some (.ref 79), some (.int a1)] [] T I 0 0 := by
  unfold fX12_finds_0 at h
  refine J.aload_n dX12_finds_0 rfl rfl ?_
  refine J.dup dX12_finds_1 rfl ?_
  refine J.getI dX12_finds_2 fX12_183 (hT.k 79 rfl) rfl ?_
  refine J.iconst (v := 1) dX12_finds_5 (by decide) ?_
  refine J.iadd dX12_finds_6 ?_
  refine J.putI dX12_finds_7 fX12_183 (hT.k 79 rfl) rfl ?_
  refine J.iload_n dX12_finds_10 rfl rfl ?_
  refine J.atpc (pc' := 11) rfl ?_
  exact J.iretQ dX12_finds_11 rfl (Nat.le_refl _) (Nat.le_refl _) h
set_option maxHeartbeats 4000000 in
set_option maxRecDepth 100000 in
theorem wX12_finds (d : Nat) {T : Topo} (hT : Lay T) (a1 : Int32)   {Q : Int32 → Topo → IM → Prop} {I : IM} (h : fX12_finds_0 T a1 Q I) : Ct (d + 0) mX12_finds [.ref 79, .int a1] T I 0 0 (PI Q) :=
  Ct.ofJ (by decide +kernel) rfl (by intro v hv; revert v hv; simp [Value.category]) rfl (sX12_finds_0 d hT a1   I h)

def jX12_finds (a1 : Int32) : Int32 := a1
def jX12_findsM (I : IM)  : IM := (up2 I 79 4 ((I 79 4) + 1))
set_option maxRecDepth 10000 in
theorem qX12_finds (d : Nat) {T : Topo} {I : IM} (hT : Lay T) (a1 : Int32)   : CtI (d + 0) mX12_finds [.ref 79, .int a1] T I (fun x_ J_ => x_ = (jX12_finds a1) ∧ J_ = (jX12_findsM I)) :=
  wX12_finds d hT a1   (by
  unfold fX12_finds_0
  exact ⟨rfl, by unfold jX12_finds; rfl, by unfold jX12_findsM; rfl⟩)

def fX12_node_0 (T : Topo) (a1 : Int32) (Q : Int32 → Topo → IM → Prop)  (I : IM) : Prop :=
  ((((wi a1 0 100) → (((¬ (I 79 0) = 6) → (vp_in (I 79 0) 6 ∧ Q (((I 79 0) + 1) - 1) T (up2 (up2 I 80 (I 79 0).toNatClampNeg a1) 79 0 ((I 79 0) + 1)))) ∧ (((I 79 0) = 6) → (Q (jX12_finds (-1000002)) T (jX12_findsM I))))) ∧ ((¬ (wi a1 0 100)) → (Q (jX12_finds (-1000001)) T (jX12_findsM I)))))
set_option maxHeartbeats 4000000 in
set_option maxRecDepth 100000 in
theorem sX12_node_0 (d : Nat) {T : Topo} (hT : Lay T) (a1 : Int32)    {Q : Int32 → Topo → IM → Prop}   (I : IM) (h : fX12_node_0 T a1 Q  I) : J (d + 1) mX12_node (PI Q) 0 0 0 [some (.ref 79), some (.int a1)] [] T I 0 0 := by
  unfold fX12_node_0 at h
  refine J.iload_n dX12_node_0 rfl rfl ?_
  refine J.iconst (v := 0) dX12_node_1 (by decide) ?_
  refine J.bipush (v := 100) dX12_node_2 (by decide) ?_
  refine J.callSP (as := [.int a1, .int 0, .int 100]) (rest := []) dX12_node_4 kX12_in vX12_in lX12_189 rfl rfl rfl (by omega) (Nat.le_refl _) (Nat.le_refl _) (qX12_in (d + 0) hT a1 0 100 ) ?_
  refine J.bz_ne (tgt := 17) dX12_node_7 (by decide) (fun hc1 => ?_) (fun hc1 => ?_)
  · have h := h.1 hc1
    refine J.aload_n dX12_node_17 rfl rfl ?_
    refine J.getI dX12_node_18 fX12_186 (hT.k 79 rfl) rfl ?_
    refine J.bipush (v := 6) dX12_node_21 (by decide) ?_
    refine J.icmp_ne (tgt := 33) dX12_node_23 (by decide) (fun hc2 => ?_) (fun hc2 => ?_)
    · have h := h.1 hc2
      refine J.aload_n dX12_node_33 rfl rfl ?_
      refine J.getR (r := 80) dX12_node_34 fX12_13 (hT.k 79 rfl) rfl (hT.r 79 9 rfl rfl) ?_
      refine J.aload_n dX12_node_37 rfl rfl ?_
      refine J.getI dX12_node_38 fX12_186 (hT.k 79 rfl) rfl ?_
      refine J.iload_n dX12_node_41 rfl rfl ?_
      obtain ⟨hs3, h⟩ := h
      refine J.iast dX12_node_42 (hT.k 80 rfl) (hT.l 80 rfl) hs3 ?_
      refine J.aload_n dX12_node_43 rfl rfl ?_
      refine J.dup dX12_node_44 rfl ?_
      refine J.getI dX12_node_45 fX12_186 (hT.k 79 rfl) rfl ?_
      refine J.topEq (y := (I 79 0)) (up2_o _ _ _ _ (by decide)) ?_
      refine J.iconst (v := 1) dX12_node_48 (by decide) ?_
      refine J.iadd dX12_node_49 ?_
      refine J.putI dX12_node_50 fX12_186 (hT.k 79 rfl) rfl ?_
      refine J.aload_n dX12_node_53 rfl rfl ?_
      refine J.atpc (pc' := 54) rfl ?_
      refine J.getI dX12_node_54 fX12_186 (hT.k 79 rfl) rfl ?_
      refine J.topEq (y := ((I 79 0) + 1)) (up2_at _ _ _ _) ?_
      refine J.iconst (v := 1) dX12_node_57 (by decide) ?_
      refine J.isub dX12_node_58 ?_
      exact J.iretQ dX12_node_59 rfl (Nat.le_refl _) (Nat.le_refl _) h
    · have h := h.2 hc2
      refine J.aload_n dX12_node_26 rfl rfl ?_
      refine J.ldc (v := (-1000002)) dX12_node_27 kcX12_204 ?_
      refine J.callVE (k := 79) (as := [.int (-1000002)]) (rest := []) dX12_node_29 kX12_finds vX12_finds lX12_200 (hT.k 79 rfl) rfl rfl rfl rfl rfl (by omega) (Nat.le_refl _) (Nat.le_refl _) (qX12_finds (d + 0) hT (-1000002) ) ?_
      exact J.iretQ dX12_node_32 rfl (Nat.le_refl _) (Nat.le_refl _) h
  · have h := h.2 hc1
    refine J.aload_n dX12_node_10 rfl rfl ?_
    refine J.ldc (v := (-1000001)) dX12_node_11 kcX12_199 ?_
    refine J.callVE (k := 79) (as := [.int (-1000001)]) (rest := []) dX12_node_13 kX12_finds vX12_finds lX12_200 (hT.k 79 rfl) rfl rfl rfl rfl rfl (by omega) (Nat.le_refl _) (Nat.le_refl _) (qX12_finds (d + 0) hT (-1000001) ) ?_
    exact J.iretQ dX12_node_16 rfl (Nat.le_refl _) (Nat.le_refl _) h
set_option maxHeartbeats 4000000 in
set_option maxRecDepth 100000 in
theorem wX12_node (d : Nat) {T : Topo} (hT : Lay T) (a1 : Int32)   {Q : Int32 → Topo → IM → Prop} {I : IM} (h : fX12_node_0 T a1 Q I) : Ct (d + 1) mX12_node [.ref 79, .int a1] T I 0 0 (PI Q) :=
  Ct.ofJ (by decide +kernel) rfl (by intro v hv; revert v hv; simp [Value.category]) rfl (sX12_node_0 d hT a1   I h)

def jX12_node (I : IM) (a1 : Int32) : Int32 := (if wi a1 0 100 then (if (I 79 0) = 6 then (jX12_finds (-1000002)) else (((I 79 0) + 1) - 1)) else (jX12_finds (-1000001)))
def jX12_nodeM (I : IM) (a1 : Int32) : IM := (if wi a1 0 100 then (if (I 79 0) = 6 then (jX12_findsM I) else (up2 (up2 I 80 (I 79 0).toNatClampNeg a1) 79 0 ((I 79 0) + 1))) else (jX12_findsM I))
def jX12_nodeK (I : IM) (a1 : Int32) : Prop := (((wi a1 0 100) → (((¬ (I 79 0) = 6) → vp_in (I 79 0) 6) ∧ (((I 79 0) = 6) → True))) ∧ ((¬ (wi a1 0 100)) → True))
set_option maxRecDepth 10000 in
theorem qX12_node (d : Nat) {T : Topo} {I : IM} (hT : Lay T) (a1 : Int32)  (hp : (jX12_nodeK I a1)) : CtI (d + 1) mX12_node [.ref 79, .int a1] T I (fun x_ J_ => x_ = (jX12_node I a1) ∧ J_ = (jX12_nodeM I a1)) :=
  wX12_node d hT a1   (by
  unfold fX12_node_0
  exact ⟨fun hc1 => ⟨fun hc2 => ⟨((hp).1 hc1).1 hc2, ⟨rfl, by unfold jX12_node; rw [if_pos hc1, if_neg hc2], by unfold jX12_nodeM; rw [if_pos hc1, if_neg hc2]⟩⟩, fun hc2 => ⟨rfl, by unfold jX12_node; rw [if_pos hc1, if_pos hc2], by unfold jX12_nodeM; rw [if_pos hc1, if_pos hc2]⟩⟩, fun hc1 => ⟨rfl, by unfold jX12_node; rw [if_neg hc1], by unfold jX12_nodeM; rw [if_neg hc1]⟩⟩)

def fX12_line_0 (T : Topo) (a1 : Int32) (a2 : Int32) (a3 : Int32) (a4 : Int32) (a5 : Int32) (Q : Int32 → Topo → IM → Prop)  (I : IM) : Prop :=
  ((((¬ (wi a1 0 (I 79 0 - 1))) → (Q (jX12_finds (-1000001)) T (jX12_findsM I))) ∧ ((wi a1 0 (I 79 0 - 1)) → ((((¬ (wi a2 0 (I 79 0 - 1))) → (Q (jX12_finds (-1000001)) T (jX12_findsM I))) ∧ ((wi a2 0 (I 79 0 - 1)) → (((a1 = a2) → (Q (jX12_finds (-1000001)) T (jX12_findsM I))) ∧ ((¬ a1 = a2) → ((((¬ (wi a3 1 50)) → (Q (jX12_finds (-1000001)) T (jX12_findsM I))) ∧ ((wi a3 1 50) → ((((¬ (wi a4 1 9)) → (Q (jX12_finds (-1000001)) T (jX12_findsM I))) ∧ ((wi a4 1 9) → ((((wi a5 0 9) → (((¬ (I 79 1) = 9) → (vp_in (I 79 1) 9 ∧ (vp_in (I 79 1) 9 ∧ (vp_in (I 79 1) 9 ∧ (vp_in (I 79 1) 9 ∧ (vp_in (I 79 1) 9 ∧ (vp_in (I 79 1) 9 ∧ Q (((I 79 1) + 1) - 1) T (up2 (up2 (up2 (up2 (up2 (up2 (up2 I 81 (I 79 1).toNatClampNeg a1) 82 (I 79 1).toNatClampNeg a2) 83 (I 79 1).toNatClampNeg a3) 84 (I 79 1).toNatClampNeg a4) 85 (I 79 1).toNatClampNeg a5) 89 (I 79 1).toNatClampNeg 1) 79 1 ((I 79 1) + 1))))))))) ∧ (((I 79 1) = 9) → (Q (jX12_finds (-1000002)) T (jX12_findsM I))))) ∧ ((¬ (wi a5 0 9)) → (Q (jX12_finds (-1000001)) T (jX12_findsM I)))))))))))))))))))
set_option maxHeartbeats 4000000 in
set_option maxRecDepth 100000 in
theorem sX12_line_0 (d : Nat) {T : Topo} (hT : Lay T) (a1 : Int32) (a2 : Int32) (a3 : Int32) (a4 : Int32) (a5 : Int32)    {Q : Int32 → Topo → IM → Prop}   (I : IM) (h : fX12_line_0 T a1 a2 a3 a4 a5 Q  I) : J (d + 2) mX12_line (PI Q) 0 0 0 [some (.ref 79), some (.int a1), some (.int a2), some (.int a3), some (.int a4), some (.int a5)] [] T I 0 0 := by
  unfold fX12_line_0 at h
  refine J.aload_n dX12_line_0 rfl rfl ?_
  refine J.iload_n dX12_line_1 rfl rfl ?_
  refine J.callVP (k := 79) (as := [.int a1]) (rest := []) dX12_line_2 kX12_isNode vX12_isNode lX12_205 (hT.k 79 rfl) rfl rfl rfl rfl rfl (by omega) (Nat.le_refl _) (Nat.le_refl _) (qX12_isNode (d + 0) hT a1 ) ?_
  refine J.bz_eq (tgt := 53) dX12_line_5 (by decide) (fun hc1 => ?_) (fun hc1 => ?_)
  · have h := h.1 hc1
    refine J.aload_n dX12_line_53 rfl rfl ?_
    refine J.ldc (v := (-1000001)) dX12_line_54 kcX12_199 ?_
    refine J.callVE (k := 79) (as := [.int (-1000001)]) (rest := []) dX12_line_56 kX12_finds vX12_finds lX12_200 (hT.k 79 rfl) rfl rfl rfl rfl rfl (by omega) (Nat.le_refl _) (Nat.le_refl _) (qX12_finds (d + 1) hT (-1000001) ) ?_
    exact J.iretQ dX12_line_59 rfl (Nat.le_refl _) (Nat.le_refl _) h
  · have h := h.2 hc1
    refine J.aload_n dX12_line_8 rfl rfl ?_
    refine J.iload_n dX12_line_9 rfl rfl ?_
    refine J.callVP (k := 79) (as := [.int a2]) (rest := []) dX12_line_10 kX12_isNode vX12_isNode lX12_205 (hT.k 79 rfl) rfl rfl rfl rfl rfl (by omega) (Nat.le_refl _) (Nat.le_refl _) (qX12_isNode (d + 0) hT a2 ) ?_
    refine J.bz_eq (tgt := 53) dX12_line_13 (by decide) (fun hc2 => ?_) (fun hc2 => ?_)
    · have h := h.1 hc2
      refine J.aload_n dX12_line_53 rfl rfl ?_
      refine J.ldc (v := (-1000001)) dX12_line_54 kcX12_199 ?_
      refine J.callVE (k := 79) (as := [.int (-1000001)]) (rest := []) dX12_line_56 kX12_finds vX12_finds lX12_200 (hT.k 79 rfl) rfl rfl rfl rfl rfl (by omega) (Nat.le_refl _) (Nat.le_refl _) (qX12_finds (d + 1) hT (-1000001) ) ?_
      exact J.iretQ dX12_line_59 rfl (Nat.le_refl _) (Nat.le_refl _) h
    · have h := h.2 hc2
      refine J.iload_n dX12_line_16 rfl rfl ?_
      refine J.iload_n dX12_line_17 rfl rfl ?_
      refine J.icmp_eq (tgt := 53) dX12_line_18 (by decide) (fun hc3 => ?_) (fun hc3 => ?_)
      · have h := h.1 hc3
        refine J.aload_n dX12_line_53 rfl rfl ?_
        refine J.ldc (v := (-1000001)) dX12_line_54 kcX12_199 ?_
        refine J.callVE (k := 79) (as := [.int (-1000001)]) (rest := []) dX12_line_56 kX12_finds vX12_finds lX12_200 (hT.k 79 rfl) rfl rfl rfl rfl rfl (by omega) (Nat.le_refl _) (Nat.le_refl _) (qX12_finds (d + 1) hT (-1000001) ) ?_
        exact J.iretQ dX12_line_59 rfl (Nat.le_refl _) (Nat.le_refl _) h
      · have h := h.2 hc3
        refine J.iload_n dX12_line_21 rfl rfl ?_
        refine J.iconst (v := 1) dX12_line_22 (by decide) ?_
        refine J.bipush (v := 50) dX12_line_23 (by decide) ?_
        refine J.callSP (as := [.int a3, .int 1, .int 50]) (rest := []) dX12_line_25 kX12_in vX12_in lX12_189 rfl rfl rfl (by omega) (Nat.le_refl _) (Nat.le_refl _) (qX12_in (d + 1) hT a3 1 50 ) ?_
        refine J.bz_eq (tgt := 53) dX12_line_28 (by decide) (fun hc4 => ?_) (fun hc4 => ?_)
        · have h := h.1 hc4
          refine J.aload_n dX12_line_53 rfl rfl ?_
          refine J.ldc (v := (-1000001)) dX12_line_54 kcX12_199 ?_
          refine J.callVE (k := 79) (as := [.int (-1000001)]) (rest := []) dX12_line_56 kX12_finds vX12_finds lX12_200 (hT.k 79 rfl) rfl rfl rfl rfl rfl (by omega) (Nat.le_refl _) (Nat.le_refl _) (qX12_finds (d + 1) hT (-1000001) ) ?_
          exact J.iretQ dX12_line_59 rfl (Nat.le_refl _) (Nat.le_refl _) h
        · have h := h.2 hc4
          refine J.iload dX12_line_31 rfl ?_
          refine J.iconst (v := 1) dX12_line_33 (by decide) ?_
          refine J.bipush (v := 9) dX12_line_34 (by decide) ?_
          refine J.callSP (as := [.int a4, .int 1, .int 9]) (rest := []) dX12_line_36 kX12_in vX12_in lX12_189 rfl rfl rfl (by omega) (Nat.le_refl _) (Nat.le_refl _) (qX12_in (d + 1) hT a4 1 9 ) ?_
          refine J.bz_eq (tgt := 53) dX12_line_39 (by decide) (fun hc5 => ?_) (fun hc5 => ?_)
          · have h := h.1 hc5
            refine J.aload_n dX12_line_53 rfl rfl ?_
            refine J.ldc (v := (-1000001)) dX12_line_54 kcX12_199 ?_
            refine J.callVE (k := 79) (as := [.int (-1000001)]) (rest := []) dX12_line_56 kX12_finds vX12_finds lX12_200 (hT.k 79 rfl) rfl rfl rfl rfl rfl (by omega) (Nat.le_refl _) (Nat.le_refl _) (qX12_finds (d + 1) hT (-1000001) ) ?_
            exact J.iretQ dX12_line_59 rfl (Nat.le_refl _) (Nat.le_refl _) h
          · have h := h.2 hc5
            refine J.iload dX12_line_42 rfl ?_
            refine J.iconst (v := 0) dX12_line_44 (by decide) ?_
            refine J.bipush (v := 9) dX12_line_45 (by decide) ?_
            refine J.callSP (as := [.int a5, .int 0, .int 9]) (rest := []) dX12_line_47 kX12_in vX12_in lX12_189 rfl rfl rfl (by omega) (Nat.le_refl _) (Nat.le_refl _) (qX12_in (d + 1) hT a5 0 9 ) ?_
            refine J.bz_ne (tgt := 60) dX12_line_50 (by decide) (fun hc6 => ?_) (fun hc6 => ?_)
            · have h := h.1 hc6
              refine J.aload_n dX12_line_60 rfl rfl ?_
              refine J.getI dX12_line_61 fX12_193 (hT.k 79 rfl) rfl ?_
              refine J.bipush (v := 9) dX12_line_64 (by decide) ?_
              refine J.icmp_ne (tgt := 76) dX12_line_66 (by decide) (fun hc7 => ?_) (fun hc7 => ?_)
              · have h := h.1 hc7
                refine J.aload_n dX12_line_76 rfl rfl ?_
                refine J.getR (r := 81) dX12_line_77 fX12_17 (hT.k 79 rfl) rfl (hT.r 79 10 rfl rfl) ?_
                refine J.aload_n dX12_line_80 rfl rfl ?_
                refine J.getI dX12_line_81 fX12_193 (hT.k 79 rfl) rfl ?_
                refine J.iload_n dX12_line_84 rfl rfl ?_
                obtain ⟨hs8, h⟩ := h
                refine J.iast dX12_line_85 (hT.k 81 rfl) (hT.l 81 rfl) hs8 ?_
                refine J.aload_n dX12_line_86 rfl rfl ?_
                refine J.getR (r := 82) dX12_line_87 fX12_20 (hT.k 79 rfl) rfl (hT.r 79 11 rfl rfl) ?_
                refine J.aload_n dX12_line_90 rfl rfl ?_
                refine J.getI dX12_line_91 fX12_193 (hT.k 79 rfl) rfl ?_
                refine J.topEq (y := (I 79 1)) (up2_o _ _ _ _ (by decide)) ?_
                refine J.iload_n dX12_line_94 rfl rfl ?_
                obtain ⟨hs9, h⟩ := h
                refine J.iast dX12_line_95 (hT.k 82 rfl) (hT.l 82 rfl) hs9 ?_
                refine J.aload_n dX12_line_96 rfl rfl ?_
                refine J.getR (r := 83) dX12_line_97 fX12_23 (hT.k 79 rfl) rfl (hT.r 79 12 rfl rfl) ?_
                refine J.aload_n dX12_line_100 rfl rfl ?_
                refine J.getI dX12_line_101 fX12_193 (hT.k 79 rfl) rfl ?_
                refine J.topEq (y := (I 79 1)) (Eq.trans (up2_o _ _ _ _ (by decide)) (up2_o _ _ _ _ (by decide))) ?_
                refine J.iload_n dX12_line_104 rfl rfl ?_
                obtain ⟨hs10, h⟩ := h
                refine J.iast dX12_line_105 (hT.k 83 rfl) (hT.l 83 rfl) hs10 ?_
                refine J.aload_n dX12_line_106 rfl rfl ?_
                refine J.getR (r := 84) dX12_line_107 fX12_26 (hT.k 79 rfl) rfl (hT.r 79 13 rfl rfl) ?_
                refine J.aload_n dX12_line_110 rfl rfl ?_
                refine J.getI dX12_line_111 fX12_193 (hT.k 79 rfl) rfl ?_
                refine J.topEq (y := (I 79 1)) (Eq.trans (up2_o _ _ _ _ (by decide)) (Eq.trans (up2_o _ _ _ _ (by decide)) (up2_o _ _ _ _ (by decide)))) ?_
                refine J.iload dX12_line_114 rfl ?_
                obtain ⟨hs11, h⟩ := h
                refine J.iast dX12_line_116 (hT.k 84 rfl) (hT.l 84 rfl) hs11 ?_
                refine J.aload_n dX12_line_117 rfl rfl ?_
                refine J.getR (r := 85) dX12_line_118 fX12_29 (hT.k 79 rfl) rfl (hT.r 79 14 rfl rfl) ?_
                refine J.aload_n dX12_line_121 rfl rfl ?_
                refine J.getI dX12_line_122 fX12_193 (hT.k 79 rfl) rfl ?_
                refine J.topEq (y := (I 79 1)) (Eq.trans (up2_o _ _ _ _ (by decide)) (Eq.trans (up2_o _ _ _ _ (by decide)) (Eq.trans (up2_o _ _ _ _ (by decide)) (up2_o _ _ _ _ (by decide))))) ?_
                refine J.iload dX12_line_125 rfl ?_
                obtain ⟨hs12, h⟩ := h
                refine J.iast dX12_line_127 (hT.k 85 rfl) (hT.l 85 rfl) hs12 ?_
                refine J.aload_n dX12_line_128 rfl rfl ?_
                refine J.getR (r := 89) dX12_line_129 fX12_41 (hT.k 79 rfl) rfl (hT.r 79 18 rfl rfl) ?_
                refine J.aload_n dX12_line_132 rfl rfl ?_
                refine J.getI dX12_line_133 fX12_193 (hT.k 79 rfl) rfl ?_
                refine J.topEq (y := (I 79 1)) (Eq.trans (up2_o _ _ _ _ (by decide)) (Eq.trans (up2_o _ _ _ _ (by decide)) (Eq.trans (up2_o _ _ _ _ (by decide)) (Eq.trans (up2_o _ _ _ _ (by decide)) (up2_o _ _ _ _ (by decide)))))) ?_
                refine J.iconst (v := 1) dX12_line_136 (by decide) ?_
                obtain ⟨hs13, h⟩ := h
                refine J.bast dX12_line_137 (hT.k 89 rfl) (hT.l 89 rfl) hs13 (Or.inr rfl) ?_
                refine J.aload_n dX12_line_138 rfl rfl ?_
                refine J.dup dX12_line_139 rfl ?_
                refine J.getI dX12_line_140 fX12_193 (hT.k 79 rfl) rfl ?_
                refine J.topEq (y := (I 79 1)) (Eq.trans (up2_o _ _ _ _ (by decide)) (Eq.trans (up2_o _ _ _ _ (by decide)) (Eq.trans (up2_o _ _ _ _ (by decide)) (Eq.trans (up2_o _ _ _ _ (by decide)) (Eq.trans (up2_o _ _ _ _ (by decide)) (up2_o _ _ _ _ (by decide))))))) ?_
                refine J.iconst (v := 1) dX12_line_143 (by decide) ?_
                refine J.iadd dX12_line_144 ?_
                refine J.putI dX12_line_145 fX12_193 (hT.k 79 rfl) rfl ?_
                refine J.aload_n dX12_line_148 rfl rfl ?_
                refine J.atpc (pc' := 149) rfl ?_
                refine J.getI dX12_line_149 fX12_193 (hT.k 79 rfl) rfl ?_
                refine J.topEq (y := ((I 79 1) + 1)) (up2_at _ _ _ _) ?_
                refine J.iconst (v := 1) dX12_line_152 (by decide) ?_
                refine J.isub dX12_line_153 ?_
                exact J.iretQ dX12_line_154 rfl (Nat.le_refl _) (Nat.le_refl _) h
              · have h := h.2 hc7
                refine J.aload_n dX12_line_69 rfl rfl ?_
                refine J.ldc (v := (-1000002)) dX12_line_70 kcX12_204 ?_
                refine J.callVE (k := 79) (as := [.int (-1000002)]) (rest := []) dX12_line_72 kX12_finds vX12_finds lX12_200 (hT.k 79 rfl) rfl rfl rfl rfl rfl (by omega) (Nat.le_refl _) (Nat.le_refl _) (qX12_finds (d + 1) hT (-1000002) ) ?_
                exact J.iretQ dX12_line_75 rfl (Nat.le_refl _) (Nat.le_refl _) h
            · have h := h.2 hc6
              refine J.aload_n dX12_line_53 rfl rfl ?_
              refine J.ldc (v := (-1000001)) dX12_line_54 kcX12_199 ?_
              refine J.callVE (k := 79) (as := [.int (-1000001)]) (rest := []) dX12_line_56 kX12_finds vX12_finds lX12_200 (hT.k 79 rfl) rfl rfl rfl rfl rfl (by omega) (Nat.le_refl _) (Nat.le_refl _) (qX12_finds (d + 1) hT (-1000001) ) ?_
              exact J.iretQ dX12_line_59 rfl (Nat.le_refl _) (Nat.le_refl _) h
set_option maxHeartbeats 4000000 in
set_option maxRecDepth 100000 in
theorem wX12_line (d : Nat) {T : Topo} (hT : Lay T) (a1 : Int32) (a2 : Int32) (a3 : Int32) (a4 : Int32) (a5 : Int32)   {Q : Int32 → Topo → IM → Prop} {I : IM} (h : fX12_line_0 T a1 a2 a3 a4 a5 Q I) : Ct (d + 2) mX12_line [.ref 79, .int a1, .int a2, .int a3, .int a4, .int a5] T I 0 0 (PI Q) :=
  Ct.ofJ (by decide +kernel) rfl (by intro v hv; revert v hv; simp [Value.category]) rfl (sX12_line_0 d hT a1 a2 a3 a4 a5   I h)

def jX12_line (I : IM) (a1 : Int32) (a2 : Int32) (a3 : Int32) (a4 : Int32) (a5 : Int32) : Int32 := (if wi a1 0 (I 79 0 - 1) then (if wi a2 0 (I 79 0 - 1) then (if a1 = a2 then (jX12_finds (-1000001)) else (if wi a3 1 50 then (if wi a4 1 9 then (if wi a5 0 9 then (if (I 79 1) = 9 then (jX12_finds (-1000002)) else (((I 79 1) + 1) - 1)) else (jX12_finds (-1000001))) else (jX12_finds (-1000001))) else (jX12_finds (-1000001)))) else (jX12_finds (-1000001))) else (jX12_finds (-1000001)))
def jX12_lineM (I : IM) (a1 : Int32) (a2 : Int32) (a3 : Int32) (a4 : Int32) (a5 : Int32) : IM := (if wi a1 0 (I 79 0 - 1) then (if wi a2 0 (I 79 0 - 1) then (if a1 = a2 then (jX12_findsM I) else (if wi a3 1 50 then (if wi a4 1 9 then (if wi a5 0 9 then (if (I 79 1) = 9 then (jX12_findsM I) else (up2 (up2 (up2 (up2 (up2 (up2 (up2 I 81 (I 79 1).toNatClampNeg a1) 82 (I 79 1).toNatClampNeg a2) 83 (I 79 1).toNatClampNeg a3) 84 (I 79 1).toNatClampNeg a4) 85 (I 79 1).toNatClampNeg a5) 89 (I 79 1).toNatClampNeg 1) 79 1 ((I 79 1) + 1))) else (jX12_findsM I)) else (jX12_findsM I)) else (jX12_findsM I))) else (jX12_findsM I)) else (jX12_findsM I))
def jX12_lineK (I : IM) (a1 : Int32) (a2 : Int32) (a3 : Int32) (a4 : Int32) (a5 : Int32) : Prop := (((¬ (wi a1 0 (I 79 0 - 1))) → True) ∧ ((wi a1 0 (I 79 0 - 1)) → (((¬ (wi a2 0 (I 79 0 - 1))) → True) ∧ ((wi a2 0 (I 79 0 - 1)) → (((a1 = a2) → True) ∧ ((¬ a1 = a2) → (((¬ (wi a3 1 50)) → True) ∧ ((wi a3 1 50) → (((¬ (wi a4 1 9)) → True) ∧ ((wi a4 1 9) → (((wi a5 0 9) → (((¬ (I 79 1) = 9) → (vp_in (I 79 1) 9 ∧ (vp_in (I 79 1) 9 ∧ (vp_in (I 79 1) 9 ∧ (vp_in (I 79 1) 9 ∧ (vp_in (I 79 1) 9 ∧ vp_in (I 79 1) 9)))))) ∧ (((I 79 1) = 9) → True))) ∧ ((¬ (wi a5 0 9)) → True))))))))))))
set_option maxRecDepth 10000 in
theorem qX12_line (d : Nat) {T : Topo} {I : IM} (hT : Lay T) (a1 : Int32) (a2 : Int32) (a3 : Int32) (a4 : Int32) (a5 : Int32)  (hp : (jX12_lineK I a1 a2 a3 a4 a5)) : CtI (d + 2) mX12_line [.ref 79, .int a1, .int a2, .int a3, .int a4, .int a5] T I (fun x_ J_ => x_ = (jX12_line I a1 a2 a3 a4 a5) ∧ J_ = (jX12_lineM I a1 a2 a3 a4 a5)) :=
  wX12_line d hT a1 a2 a3 a4 a5   (by
  unfold fX12_line_0
  exact ⟨fun hc1 => ⟨rfl, by unfold jX12_line; rw [if_neg hc1], by unfold jX12_lineM; rw [if_neg hc1]⟩, fun hc1 => ⟨fun hc2 => ⟨rfl, by unfold jX12_line; rw [if_pos hc1, if_neg hc2], by unfold jX12_lineM; rw [if_pos hc1, if_neg hc2]⟩, fun hc2 => ⟨fun hc3 => ⟨rfl, by unfold jX12_line; rw [if_pos hc1, if_pos hc2, if_pos hc3], by unfold jX12_lineM; rw [if_pos hc1, if_pos hc2, if_pos hc3]⟩, fun hc3 => ⟨fun hc4 => ⟨rfl, by unfold jX12_line; rw [if_pos hc1, if_pos hc2, if_neg hc3, if_neg hc4], by unfold jX12_lineM; rw [if_pos hc1, if_pos hc2, if_neg hc3, if_neg hc4]⟩, fun hc4 => ⟨fun hc5 => ⟨rfl, by unfold jX12_line; rw [if_pos hc1, if_pos hc2, if_neg hc3, if_pos hc4, if_neg hc5], by unfold jX12_lineM; rw [if_pos hc1, if_pos hc2, if_neg hc3, if_pos hc4, if_neg hc5]⟩, fun hc5 => ⟨fun hc6 => ⟨fun hc7 => ⟨((((((((hp).2 hc1).2 hc2).2 hc3).2 hc4).2 hc5).1 hc6).1 hc7).1, ⟨(((((((((hp).2 hc1).2 hc2).2 hc3).2 hc4).2 hc5).1 hc6).1 hc7).2).1, ⟨((((((((((hp).2 hc1).2 hc2).2 hc3).2 hc4).2 hc5).1 hc6).1 hc7).2).2).1, ⟨(((((((((((hp).2 hc1).2 hc2).2 hc3).2 hc4).2 hc5).1 hc6).1 hc7).2).2).2).1, ⟨((((((((((((hp).2 hc1).2 hc2).2 hc3).2 hc4).2 hc5).1 hc6).1 hc7).2).2).2).2).1, ⟨((((((((((((hp).2 hc1).2 hc2).2 hc3).2 hc4).2 hc5).1 hc6).1 hc7).2).2).2).2).2, ⟨rfl, by unfold jX12_line; rw [if_pos hc1, if_pos hc2, if_neg hc3, if_pos hc4, if_pos hc5, if_pos hc6, if_neg hc7], by unfold jX12_lineM; rw [if_pos hc1, if_pos hc2, if_neg hc3, if_pos hc4, if_pos hc5, if_pos hc6, if_neg hc7]⟩⟩⟩⟩⟩⟩⟩, fun hc7 => ⟨rfl, by unfold jX12_line; rw [if_pos hc1, if_pos hc2, if_neg hc3, if_pos hc4, if_pos hc5, if_pos hc6, if_pos hc7], by unfold jX12_lineM; rw [if_pos hc1, if_pos hc2, if_neg hc3, if_pos hc4, if_pos hc5, if_pos hc6, if_pos hc7]⟩⟩, fun hc6 => ⟨rfl, by unfold jX12_line; rw [if_pos hc1, if_pos hc2, if_neg hc3, if_pos hc4, if_pos hc5, if_neg hc6], by unfold jX12_lineM; rw [if_pos hc1, if_pos hc2, if_neg hc3, if_pos hc4, if_pos hc5, if_neg hc6]⟩⟩⟩⟩⟩⟩⟩)

def fX12_up_0 (T : Topo) (a1 : Int32) (a2 : Int32) (Q : Int32 → Topo → IM → Prop)  (I : IM) : Prop :=
  ((((wi a1 0 (I 79 1 - 1)) → (vp_in a1 9 ∧ (vp_in a1 9 ∧ (a2 = 0 ∨ a2 = 1) ∧ (((¬ (I 89 a1.toNatClampNeg) = a2) → Q 1 T (up2 I 89 a1.toNatClampNeg a2)) ∧ (((I 89 a1.toNatClampNeg) = a2) → Q 0 T (up2 I 89 a1.toNatClampNeg a2)))))) ∧ ((¬ (wi a1 0 (I 79 1 - 1))) → (Q (jX12_finds (-1000001)) T (jX12_findsM I)))))
set_option maxHeartbeats 4000000 in
set_option maxRecDepth 100000 in
theorem sX12_up_0 (d : Nat) {T : Topo} (hT : Lay T) (a1 : Int32) (a2 : Int32)    {Q : Int32 → Topo → IM → Prop}   (I : IM) (h : fX12_up_0 T a1 a2 Q  I) : J (d + 2) mX12_up (PI Q) 0 0 0 [some (.ref 79), some (.int a1), some (.int a2), none] [] T I 0 0 := by
  unfold fX12_up_0 at h
  refine J.aload_n dX12_up_0 rfl rfl ?_
  refine J.iload_n dX12_up_1 rfl rfl ?_
  refine J.callVP (k := 79) (as := [.int a1]) (rest := []) dX12_up_2 kX12_isLine vX12_isLine lX12_209 (hT.k 79 rfl) rfl rfl rfl rfl rfl (by omega) (Nat.le_refl _) (Nat.le_refl _) (qX12_isLine (d + 0) hT a1 ) ?_
  refine J.bz_ne (tgt := 15) dX12_up_5 (by decide) (fun hc1 => ?_) (fun hc1 => ?_)
  · have h := h.1 hc1
    refine J.aload_n dX12_up_15 rfl rfl ?_
    refine J.getR (r := 89) dX12_up_16 fX12_41 (hT.k 79 rfl) rfl (hT.r 79 18 rfl rfl) ?_
    refine J.iload_n dX12_up_19 rfl rfl ?_
    obtain ⟨hs2, h⟩ := h
    refine J.bald dX12_up_20 (hT.k 89 rfl) (hT.l 89 rfl) hs2 ?_
    refine J.istore_n (ls' := [some (.ref 79), some (.int a1), some (.int a2), some (.int (I 89 a1.toNatClampNeg))]) dX12_up_21 rfl rfl rfl ?_
    refine J.aload_n dX12_up_22 rfl rfl ?_
    refine J.getR (r := 89) dX12_up_23 fX12_41 (hT.k 79 rfl) rfl (hT.r 79 18 rfl rfl) ?_
    refine J.iload_n dX12_up_26 rfl rfl ?_
    refine J.iload_n dX12_up_27 rfl rfl ?_
    obtain ⟨hs3, h⟩ := h
    obtain ⟨hz4, h⟩ := h
    refine J.bast dX12_up_28 (hT.k 89 rfl) (hT.l 89 rfl) hs3 hz4 ?_
    refine J.iload_n dX12_up_29 rfl rfl ?_
    refine J.iload_n dX12_up_30 rfl rfl ?_
    refine J.icmp_ne (tgt := 38) dX12_up_31 (by decide) (fun hc5 => ?_) (fun hc5 => ?_)
    · have h := h.1 hc5
      refine J.iconst (v := 1) dX12_up_38 (by decide) ?_
      exact J.iretQ dX12_up_39 rfl (Nat.le_refl _) (Nat.le_refl _) h
    · have h := h.2 hc5
      refine J.iconst (v := 0) dX12_up_34 (by decide) ?_
      refine J.goto (tgt := 39) dX12_up_35 (by decide) ?_
      exact J.iretQ dX12_up_39 rfl (Nat.le_refl _) (Nat.le_refl _) h
  · have h := h.2 hc1
    refine J.aload_n dX12_up_8 rfl rfl ?_
    refine J.ldc (v := (-1000001)) dX12_up_9 kcX12_199 ?_
    refine J.callVE (k := 79) (as := [.int (-1000001)]) (rest := []) dX12_up_11 kX12_finds vX12_finds lX12_200 (hT.k 79 rfl) rfl rfl rfl rfl rfl (by omega) (Nat.le_refl _) (Nat.le_refl _) (qX12_finds (d + 1) hT (-1000001) ) ?_
    exact J.iretQ dX12_up_14 rfl (Nat.le_refl _) (Nat.le_refl _) h
set_option maxHeartbeats 4000000 in
set_option maxRecDepth 100000 in
theorem wX12_up (d : Nat) {T : Topo} (hT : Lay T) (a1 : Int32) (a2 : Int32)   {Q : Int32 → Topo → IM → Prop} {I : IM} (h : fX12_up_0 T a1 a2 Q I) : Ct (d + 2) mX12_up [.ref 79, .int a1, .int a2] T I 0 0 (PI Q) :=
  Ct.ofJ (by decide +kernel) rfl (by intro v hv; revert v hv; simp [Value.category]) rfl (sX12_up_0 d hT a1 a2   I h)

def jX12_up (I : IM) (a1 : Int32) (a2 : Int32) : Int32 := (if wi a1 0 (I 79 1 - 1) then (if (I 89 a1.toNatClampNeg) = a2 then 0 else 1) else (jX12_finds (-1000001)))
def jX12_upM (I : IM) (a1 : Int32) (a2 : Int32) : IM := (if wi a1 0 (I 79 1 - 1) then (up2 I 89 a1.toNatClampNeg a2) else (jX12_findsM I))
def jX12_upK (I : IM) (a1 : Int32) (a2 : Int32) : Prop := (((wi a1 0 (I 79 1 - 1)) → (vp_in a1 9 ∧ (vp_in a1 9 ∧ (a2 = 0 ∨ a2 = 1)))) ∧ ((¬ (wi a1 0 (I 79 1 - 1))) → True))
set_option maxRecDepth 10000 in
theorem qX12_up (d : Nat) {T : Topo} {I : IM} (hT : Lay T) (a1 : Int32) (a2 : Int32)  (hp : (jX12_upK I a1 a2)) : CtI (d + 2) mX12_up [.ref 79, .int a1, .int a2] T I (fun x_ J_ => x_ = (jX12_up I a1 a2) ∧ J_ = (jX12_upM I a1 a2)) :=
  wX12_up d hT a1 a2   (by
  unfold fX12_up_0
  exact ⟨fun hc1 => ⟨((hp).1 hc1).1, ⟨(((hp).1 hc1).2).1, ⟨(((hp).1 hc1).2).2, ⟨fun hc2 => ⟨rfl, by unfold jX12_up; rw [if_pos hc1, if_neg hc2], by unfold jX12_upM; rw [if_pos hc1]⟩, fun hc2 => ⟨rfl, by unfold jX12_up; rw [if_pos hc1, if_pos hc2], by unfold jX12_upM; rw [if_pos hc1]⟩⟩⟩⟩⟩, fun hc1 => ⟨rfl, by unfold jX12_up; rw [if_neg hc1], by unfold jX12_upM; rw [if_neg hc1]⟩⟩)

def fX12_isAhead_0 (T : Topo) (a1 : Int32) (a2 : Int32) (a3 : Int32) (a4 : Int32) (Q : Int32 → Topo → IM → Prop)  (I : IM) : Prop :=
  (vp_in a4 2304 ∧ (((a1 = (I 118 a4.toNatClampNeg)) → (vp_in a4 2304 ∧ (((a2 = (I 117 a4.toNatClampNeg)) → (vp_in a4 2304 ∧ ((((I 116 a4.toNatClampNeg) ≤ a3) → Q 0 T I) ∧ ((¬ (I 116 a4.toNatClampNeg) ≤ a3) → Q 1 T I)))) ∧ ((¬ a2 = (I 117 a4.toNatClampNeg)) → (vp_in a4 2304 ∧ ((((I 117 a4.toNatClampNeg) ≤ a2) → Q 0 T I) ∧ ((¬ (I 117 a4.toNatClampNeg) ≤ a2) → Q 1 T I))))))) ∧ ((¬ a1 = (I 118 a4.toNatClampNeg)) → (vp_in a4 2304 ∧ ((((I 118 a4.toNatClampNeg) ≤ a1) → Q 0 T I) ∧ ((¬ (I 118 a4.toNatClampNeg) ≤ a1) → Q 1 T I))))))
set_option maxHeartbeats 4000000 in
set_option maxRecDepth 100000 in
theorem sX12_isAhead_0 (d : Nat) {T : Topo} (hT : Lay T) (a1 : Int32) (a2 : Int32) (a3 : Int32) (a4 : Int32)    {Q : Int32 → Topo → IM → Prop}   (I : IM) (h : fX12_isAhead_0 T a1 a2 a3 a4 Q  I) : J (d + 0) mX12_isAhead (PI Q) 0 0 0 [some (.ref 79), some (.int a1), some (.int a2), some (.int a3), some (.int a4)] [] T I 0 0 := by
  unfold fX12_isAhead_0 at h
  refine J.iload_n dX12_isAhead_0 rfl rfl ?_
  refine J.aload_n dX12_isAhead_1 rfl rfl ?_
  refine J.getR (r := 118) dX12_isAhead_2 fX12_129 (hT.k 79 rfl) rfl (hT.r 79 47 rfl rfl) ?_
  refine J.iload dX12_isAhead_5 rfl ?_
  obtain ⟨hs1, h⟩ := h
  refine J.iald dX12_isAhead_7 (hT.k 118 rfl) (hT.l 118 rfl) hs1 ?_
  refine J.icmp_eq (tgt := 28) dX12_isAhead_8 (by decide) (fun hc2 => ?_) (fun hc2 => ?_)
  · have h := h.1 hc2
    refine J.iload_n dX12_isAhead_28 rfl rfl ?_
    refine J.aload_n dX12_isAhead_29 rfl rfl ?_
    refine J.getR (r := 117) dX12_isAhead_30 fX12_126 (hT.k 79 rfl) rfl (hT.r 79 46 rfl rfl) ?_
    refine J.iload dX12_isAhead_33 rfl ?_
    obtain ⟨hs3, h⟩ := h
    refine J.iald dX12_isAhead_35 (hT.k 117 rfl) (hT.l 117 rfl) hs3 ?_
    refine J.icmp_eq (tgt := 58) dX12_isAhead_36 (by decide) (fun hc4 => ?_) (fun hc4 => ?_)
    · have h := h.1 hc4
      refine J.iload_n dX12_isAhead_58 rfl rfl ?_
      refine J.aload_n dX12_isAhead_59 rfl rfl ?_
      refine J.getR (r := 116) dX12_isAhead_60 fX12_123 (hT.k 79 rfl) rfl (hT.r 79 45 rfl rfl) ?_
      refine J.iload dX12_isAhead_63 rfl ?_
      obtain ⟨hs5, h⟩ := h
      refine J.iald dX12_isAhead_65 (hT.k 116 rfl) (hT.l 116 rfl) hs5 ?_
      refine J.icmp_ge (tgt := 73) dX12_isAhead_66 (by decide) (fun hc6 => ?_) (fun hc6 => ?_)
      · have h := h.1 hc6
        refine J.iconst (v := 0) dX12_isAhead_73 (by decide) ?_
        exact J.zretQ dX12_isAhead_74 rfl (Or.inl rfl) (Nat.le_refl _) (Nat.le_refl _) h
      · have h := h.2 hc6
        refine J.iconst (v := 1) dX12_isAhead_69 (by decide) ?_
        refine J.goto (tgt := 74) dX12_isAhead_70 (by decide) ?_
        exact J.zretQ dX12_isAhead_74 rfl (Or.inr rfl) (Nat.le_refl _) (Nat.le_refl _) h
    · have h := h.2 hc4
      refine J.iload_n dX12_isAhead_39 rfl rfl ?_
      refine J.aload_n dX12_isAhead_40 rfl rfl ?_
      refine J.getR (r := 117) dX12_isAhead_41 fX12_126 (hT.k 79 rfl) rfl (hT.r 79 46 rfl rfl) ?_
      refine J.iload dX12_isAhead_44 rfl ?_
      obtain ⟨hs7, h⟩ := h
      refine J.iald dX12_isAhead_46 (hT.k 117 rfl) (hT.l 117 rfl) hs7 ?_
      refine J.icmp_ge (tgt := 54) dX12_isAhead_47 (by decide) (fun hc8 => ?_) (fun hc8 => ?_)
      · have h := h.1 hc8
        refine J.iconst (v := 0) dX12_isAhead_54 (by decide) ?_
        refine J.goto (tgt := 74) dX12_isAhead_55 (by decide) ?_
        exact J.zretQ dX12_isAhead_74 rfl (Or.inl rfl) (Nat.le_refl _) (Nat.le_refl _) h
      · have h := h.2 hc8
        refine J.iconst (v := 1) dX12_isAhead_50 (by decide) ?_
        refine J.goto (tgt := 74) dX12_isAhead_51 (by decide) ?_
        exact J.zretQ dX12_isAhead_74 rfl (Or.inr rfl) (Nat.le_refl _) (Nat.le_refl _) h
  · have h := h.2 hc2
    refine J.iload_n dX12_isAhead_11 rfl rfl ?_
    refine J.aload_n dX12_isAhead_12 rfl rfl ?_
    refine J.getR (r := 118) dX12_isAhead_13 fX12_129 (hT.k 79 rfl) rfl (hT.r 79 47 rfl rfl) ?_
    refine J.iload dX12_isAhead_16 rfl ?_
    obtain ⟨hs9, h⟩ := h
    refine J.iald dX12_isAhead_18 (hT.k 118 rfl) (hT.l 118 rfl) hs9 ?_
    refine J.icmp_ge (tgt := 26) dX12_isAhead_19 (by decide) (fun hc10 => ?_) (fun hc10 => ?_)
    · have h := h.1 hc10
      refine J.iconst (v := 0) dX12_isAhead_26 (by decide) ?_
      exact J.zretQ dX12_isAhead_27 rfl (Or.inl rfl) (Nat.le_refl _) (Nat.le_refl _) h
    · have h := h.2 hc10
      refine J.iconst (v := 1) dX12_isAhead_22 (by decide) ?_
      refine J.goto (tgt := 27) dX12_isAhead_23 (by decide) ?_
      exact J.zretQ dX12_isAhead_27 rfl (Or.inr rfl) (Nat.le_refl _) (Nat.le_refl _) h
set_option maxHeartbeats 4000000 in
set_option maxRecDepth 100000 in
theorem wX12_isAhead (d : Nat) {T : Topo} (hT : Lay T) (a1 : Int32) (a2 : Int32) (a3 : Int32) (a4 : Int32)   {Q : Int32 → Topo → IM → Prop} {I : IM} (h : fX12_isAhead_0 T a1 a2 a3 a4 Q I) : Ct (d + 0) mX12_isAhead [.ref 79, .int a1, .int a2, .int a3, .int a4] T I 0 0 (PI Q) :=
  Ct.ofJ (by decide +kernel) rfl (by intro v hv; revert v hv; simp [Value.category]) rfl (sX12_isAhead_0 d hT a1 a2 a3 a4   I h)

def jX12_isAhead (I : IM) (a1 : Int32) (a2 : Int32) (a3 : Int32) (a4 : Int32) : Int32 := (if a1 = (I 118 a4.toNatClampNeg) then (if a2 = (I 117 a4.toNatClampNeg) then (if (I 116 a4.toNatClampNeg) ≤ a3 then 0 else 1) else (if (I 117 a4.toNatClampNeg) ≤ a2 then 0 else 1)) else (if (I 118 a4.toNatClampNeg) ≤ a1 then 0 else 1))
def jX12_isAheadK (I : IM) (a1 : Int32) (a2 : Int32) (a4 : Int32) : Prop := (vp_in a4 2304 ∧ (((a1 = (I 118 a4.toNatClampNeg)) → (vp_in a4 2304 ∧ (((a2 = (I 117 a4.toNatClampNeg)) → vp_in a4 2304) ∧ ((¬ a2 = (I 117 a4.toNatClampNeg)) → vp_in a4 2304)))) ∧ ((¬ a1 = (I 118 a4.toNatClampNeg)) → vp_in a4 2304)))
set_option maxRecDepth 10000 in
theorem qX12_isAhead (d : Nat) {T : Topo} {I : IM} (hT : Lay T) (a1 : Int32) (a2 : Int32) (a3 : Int32) (a4 : Int32)  (hp : (jX12_isAheadK I a1 a2 a4)) : CtP (d + 0) mX12_isAhead [.ref 79, .int a1, .int a2, .int a3, .int a4] T I ((jX12_isAhead I a1 a2 a3 a4)) :=
  wX12_isAhead d hT a1 a2 a3 a4   (by
  unfold fX12_isAhead_0
  exact ⟨(hp).1, ⟨fun hc1 => ⟨(((hp).2).1 hc1).1, ⟨fun hc2 => ⟨((((hp).2).1 hc1).2).1 hc2, ⟨fun hc3 => ⟨by unfold jX12_isAhead; rw [if_pos hc1, if_pos hc2, if_pos hc3], rfl, rfl⟩, fun hc3 => ⟨by unfold jX12_isAhead; rw [if_pos hc1, if_pos hc2, if_neg hc3], rfl, rfl⟩⟩⟩, fun hc2 => ⟨((((hp).2).1 hc1).2).2 hc2, ⟨fun hc4 => ⟨by unfold jX12_isAhead; rw [if_pos hc1, if_neg hc2, if_pos hc4], rfl, rfl⟩, fun hc4 => ⟨by unfold jX12_isAhead; rw [if_pos hc1, if_neg hc2, if_neg hc4], rfl, rfl⟩⟩⟩⟩⟩, fun hc1 => ⟨((hp).2).2 hc1, ⟨fun hc5 => ⟨by unfold jX12_isAhead; rw [if_neg hc1, if_pos hc5], rfl, rfl⟩, fun hc5 => ⟨by unfold jX12_isAhead; rw [if_neg hc1, if_neg hc5], rfl, rfl⟩⟩⟩⟩⟩)

def fX12_ones_0 (T : Topo) (a1 : Int32) (Q : Int32 → Topo → IM → Prop) (K4 : Int32 → Int32 → IM → Prop) (I : IM) : Prop :=
  K4 0 0 I
def fX12_ones_4 (T : Topo) (a1 : Int32) (Q : Int32 → Topo → IM → Prop) (K4 : Int32 → Int32 → IM → Prop) (v1 v2 : Int32) (I : IM) : Prop :=
  (((9 ≤ v2) → Q v1 T I) ∧ ((¬ 9 ≤ v2) → K4 (v1 + ((a1 >>> (v2 &&& 31)) &&& 1)) (v2 + 1) I))
set_option maxHeartbeats 4000000 in
set_option maxRecDepth 100000 in
theorem sX12_ones_0 (d : Nat) {T : Topo} (hT : Lay T) (a1 : Int32)    {Q : Int32 → Topo → IM → Prop} {K4 : Int32 → Int32 → IM → Prop} (hK4 : ∀ (v1 v2 : Int32) (I : IM), K4 v1 v2 I → J (d + 0) mX12_ones (PI Q) 0 0 4 [some (.int a1), some (.int v1), some (.int v2)] [] T I 0 0) (I : IM) (h : fX12_ones_0 T a1 Q K4 I) : J (d + 0) mX12_ones (PI Q) 0 0 0 [some (.int a1), none, none] [] T I 0 0 := by
  unfold fX12_ones_0 at h
  refine J.iconst (v := 0) dX12_ones_0 (by decide) ?_
  refine J.istore_n (ls' := [some (.int a1), some (.int 0), none]) dX12_ones_1 rfl rfl rfl ?_
  refine J.iconst (v := 0) dX12_ones_2 (by decide) ?_
  refine J.istore_n (ls' := [some (.int a1), some (.int 0), some (.int 0)]) dX12_ones_3 rfl rfl rfl ?_
  exact J.weaken (ls' := [some (.int a1), some (.int 0), some (.int 0)]) (And.intro rfl (And.intro rfl (And.intro rfl trivial))) (hK4 0 0 I h)
set_option maxHeartbeats 4000000 in
set_option maxRecDepth 100000 in
theorem sX12_ones_4 (d : Nat) {T : Topo} (hT : Lay T) (a1 : Int32)    {Q : Int32 → Topo → IM → Prop} {K4 : Int32 → Int32 → IM → Prop} (hK4 : ∀ (v1 v2 : Int32) (I : IM), K4 v1 v2 I → J (d + 0) mX12_ones (PI Q) 0 0 4 [some (.int a1), some (.int v1), some (.int v2)] [] T I 0 0) (v1 v2 : Int32) (I : IM) (h : fX12_ones_4 T a1 Q K4 v1 v2 I) : J (d + 0) mX12_ones (PI Q) 0 0 4 [some (.int a1), some (.int v1), some (.int v2)] [] T I 0 0 := by
  unfold fX12_ones_4 at h
  refine J.iload_n dX12_ones_4 rfl rfl ?_
  refine J.bipush (v := 9) dX12_ones_5 (by decide) ?_
  refine J.icmp_ge (tgt := 24) dX12_ones_7 (by decide) (fun hc1 => ?_) (fun hc1 => ?_)
  · have h := h.1 hc1
    refine J.iload_n dX12_ones_24 rfl rfl ?_
    exact J.iretQ dX12_ones_25 rfl (Nat.le_refl _) (Nat.le_refl _) h
  · have h := h.2 hc1
    refine J.iload_n dX12_ones_10 rfl rfl ?_
    refine J.iload_n dX12_ones_11 rfl rfl ?_
    refine J.iload_n dX12_ones_12 rfl rfl ?_
    refine J.ishr dX12_ones_13 ?_
    refine J.iconst (v := 1) dX12_ones_14 (by decide) ?_
    refine J.iand dX12_ones_15 ?_
    refine J.iadd dX12_ones_16 ?_
    refine J.atpc (pc' := 17) rfl ?_
    refine J.istore_n (ls' := [some (.int a1), some (.int (v1 + ((a1 >>> (v2 &&& 31)) &&& 1))), some (.int v2)]) dX12_ones_17 rfl rfl rfl ?_
    refine J.iinc (v := (v2 + 1)) (ls' := [some (.int a1), some (.int (v1 + ((a1 >>> (v2 &&& 31)) &&& 1))), some (.int (v2 + 1))]) dX12_ones_18 rfl (by rfl) rfl ?_
    refine J.goto (tgt := 4) dX12_ones_21 (by decide) ?_
    exact J.weaken (ls' := [some (.int a1), some (.int (v1 + ((a1 >>> (v2 &&& 31)) &&& 1))), some (.int (v2 + 1))]) (And.intro rfl (And.intro rfl (And.intro rfl trivial))) (hK4 (v1 + ((a1 >>> (v2 &&& 31)) &&& 1)) (v2 + 1) I h)
set_option maxHeartbeats 4000000 in
set_option maxRecDepth 100000 in
theorem wX12_ones (d : Nat) {T : Topo} (hT : Lay T) (a1 : Int32)   {Q : Int32 → Topo → IM → Prop} (V4 : Int32 → Int32 → IM → Prop) (μ4 : Int32 → Int32 → IM → Nat) (vc4 : ∀ (v1 v2 : Int32) (I : IM), V4 v1 v2 I → fX12_ones_4 T a1 Q (fun w1 w2 I_ => V4 w1 w2 I_ ∧ μ4 w1 w2 I_ < μ4 v1 v2 I) v1 v2 I) {I : IM} (h : fX12_ones_0 T a1 Q V4 I) : Ct (d + 0) mX12_ones [.int a1] T I 0 0 (PI Q) := by
  have all : ∀ n : Nat, (∀ (v1 v2 : Int32) (I : IM), V4 v1 v2 I → μ4 v1 v2 I < n → J (d + 0) mX12_ones (PI Q) 0 0 4 [some (.int a1), some (.int v1), some (.int v2)] [] T I 0 0) := by
    intro n
    induction n with
    | zero => exact fun _ _ _ _ hn => absurd hn (Nat.not_lt_zero _)
    | succ n ih =>
      exact fun v1 v2 I hv hn => sX12_ones_4 d hT a1   (fun w1 w2 I_ hw => ih w1 w2 I_ hw.1 (by have := hw.2; omega)) v1 v2 I (vc4 v1 v2 I hv)
  exact Ct.ofJ (by decide +kernel) rfl (by intro v hv; revert v hv; simp [Value.category]) rfl (sX12_ones_0 d hT a1   (fun w1 w2 I_ hw => (all (μ4 w1 w2 I_ + 1)) w1 w2 I_ hw (Nat.lt_succ_self _)) I h)

def jX12_onesI (a1 : Int32) : Nat → Int32 → Int32 → IM → Int32
  | 0 => fun _ _ I => 0
  | n + 1 => fun v1 v2 I => (if 9 ≤ v2 then v1 else (jX12_onesI a1 n (v1 + ((a1 >>> (v2 &&& 31)) &&& 1)) (v2 + 1) I))
def jX12_onesO (a1 : Int32) : Nat → Int32 → Int32 → IM → Prop
  | 0 => fun _ _ _ => False
  | n + 1 => fun v1 v2 I => (((9 ≤ v2) → True) ∧ ((¬ 9 ≤ v2) → (jX12_onesO a1 n (v1 + ((a1 >>> (v2 &&& 31)) &&& 1)) (v2 + 1) I)))
theorem jX12_onesI_4 (a1 : Int32) (n : Nat) (v1 v2 : Int32) (I : IM) : jX12_onesI a1 (n + 1) v1 v2 I = (if 9 ≤ v2 then v1 else (jX12_onesI a1 n (v1 + ((a1 >>> (v2 &&& 31)) &&& 1)) (v2 + 1) I)) := rfl
theorem jX12_onesO_4 (a1 : Int32) (n : Nat) (v1 v2 : Int32) (I : IM) : jX12_onesO a1 (n + 1) v1 v2 I = (((9 ≤ v2) → True) ∧ ((¬ 9 ≤ v2) → (jX12_onesO a1 n (v1 + ((a1 >>> (v2 &&& 31)) &&& 1)) (v2 + 1) I))) := rfl
def jX12_ones (I : IM) (a1 : Int32) : Int32 := (jX12_onesI a1 FU 0 0 I)
def jX12_onesK (I : IM) (a1 : Int32) : Prop := (jX12_onesO a1 FU 0 0 I)
set_option maxRecDepth 10000 in
set_option maxHeartbeats 1000000 in
theorem uX12_ones (d : Nat) {T : Topo} (hT : Lay T) (a1 : Int32)   {R : Int32} {I00 : IM} : ∀ n : Nat, (∀ (v1 v2 : Int32) (I : IM), I = I00 → jX12_onesO a1 n v1 v2 I → jX12_onesI a1 n v1 v2 I = R → J (d + 0) mX12_ones (PI (fun x T' I' => x = R ∧ T' = T ∧ I' = I00)) 0 0 4 [some (.int a1), some (.int v1), some (.int v2)] [] T I 0 0) := by
  intro n
  induction n with
  | zero => exact fun _ _ _ _ hz => hz.elim
  | succ n ih =>
    exact fun v1 v2 I hI hok hit => by
        rw [jX12_onesO_4] at hok
        exact sX12_ones_4 d hT a1   (K4 := fun w1 w2 I_ => (jX12_onesO a1 n w1 w2 I_ ∧ jX12_onesI a1 n w1 w2 I_ = R) ∧ I_ = I00) (fun w1 w2 I_ hw => ih w1 w2 I_ hw.2 hw.1.1 hw.1.2) v1 v2 I (by
          unfold fX12_ones_4
          exact ⟨fun hc1 => ⟨by rw [jX12_onesI_4, if_pos hc1] at hit; exact hit, rfl, hI⟩, fun hc1 => ⟨⟨(hok).2 hc1, by rw [jX12_onesI_4, if_neg hc1] at hit; exact hit⟩, hI⟩⟩)
set_option maxRecDepth 10000 in
set_option maxHeartbeats 1000000 in
theorem qX12_ones (d : Nat) {T : Topo} {I : IM} (hT : Lay T) (a1 : Int32)  (hp : (jX12_onesK I a1)) : CtP (d + 0) mX12_ones [.int a1] T I (jX12_ones I a1) := by
  unfold jX12_onesK at hp
  exact Ct.ofJ (by decide +kernel) rfl (by intro v hv; revert v hv; simp [Value.category]) rfl (sX12_ones_0 d hT a1   (K4 := fun w1 w2 I_ => (jX12_onesO a1 FU w1 w2 I_ ∧ jX12_onesI a1 FU w1 w2 I_ = (jX12_ones I a1)) ∧ I_ = I) (fun w1 w2 I_ hw => uX12_ones d hT a1   FU w1 w2 I_ hw.2 hw.1.1 hw.1.2) I (by
    unfold fX12_ones_0
    exact ⟨⟨hp, rfl⟩, rfl⟩))

def fX12_digit_0 (T : Topo) (a1 : Int32) (a2 : Int32) (a3 : Int32) (Q : Int32 → Topo → IM → Prop) (K14 : Int32 → Int32 → IM → Prop) (I : IM) : Prop :=
  (((a3 < a2) → K14 a1 (a2 - 1) I) ∧ ((¬ a3 < a2) → Q (-1) T I))
def fX12_digit_14 (T : Topo) (a1 : Int32) (a2 : Int32) (a3 : Int32) (Q : Int32 → Topo → IM → Prop) (K14 : Int32 → Int32 → IM → Prop) (v3 v4 : Int32) (I : IM) : Prop :=
  (((v4 ≤ a3) → Q (v3 - v3 / 10 * 10) T I) ∧ ((¬ v4 ≤ a3) → K14 (v3 / 10) (v4 + (-1)) I))
set_option maxHeartbeats 4000000 in
set_option maxRecDepth 100000 in
theorem sX12_digit_0 (d : Nat) {T : Topo} (hT : Lay T) (a1 : Int32) (a2 : Int32) (a3 : Int32)    {Q : Int32 → Topo → IM → Prop} {K14 : Int32 → Int32 → IM → Prop} (hK14 : ∀ (v3 v4 : Int32) (I : IM), K14 v3 v4 I → J (d + 0) mX12_digit (PI Q) 0 0 14 [none, none, some (.int a3), some (.int v3), some (.int v4)] [] T I 0 0) (I : IM) (h : fX12_digit_0 T a1 a2 a3 Q K14 I) : J (d + 0) mX12_digit (PI Q) 0 0 0 [some (.int a1), some (.int a2), some (.int a3), none, none] [] T I 0 0 := by
  unfold fX12_digit_0 at h
  refine J.iload_n dX12_digit_0 rfl rfl ?_
  refine J.iload_n dX12_digit_1 rfl rfl ?_
  refine J.icmp_lt (tgt := 7) dX12_digit_2 (by decide) (fun hc1 => ?_) (fun hc1 => ?_)
  · have h := h.1 hc1
    refine J.iload_n dX12_digit_7 rfl rfl ?_
    refine J.istore_n (ls' := [some (.int a1), some (.int a2), some (.int a3), some (.int a1), none]) dX12_digit_8 rfl rfl rfl ?_
    refine J.iload_n dX12_digit_9 rfl rfl ?_
    refine J.iconst (v := 1) dX12_digit_10 (by decide) ?_
    refine J.isub dX12_digit_11 ?_
    refine J.istore (ls' := [some (.int a1), some (.int a2), some (.int a3), some (.int a1), some (.int (a2 - 1))]) dX12_digit_12 rfl rfl ?_
    exact J.weaken (ls' := [none, none, some (.int a3), some (.int a1), some (.int (a2 - 1))]) (And.intro rfl (And.intro rfl (And.intro rfl trivial))) (hK14 a1 (a2 - 1) I h)
  · have h := h.2 hc1
    refine J.iconst (v := (-1)) dX12_digit_5 (by decide) ?_
    exact J.iretQ dX12_digit_6 rfl (Nat.le_refl _) (Nat.le_refl _) h
set_option maxHeartbeats 4000000 in
set_option maxRecDepth 100000 in
theorem sX12_digit_14 (d : Nat) {T : Topo} (hT : Lay T) (a1 : Int32) (a2 : Int32) (a3 : Int32)    {Q : Int32 → Topo → IM → Prop} {K14 : Int32 → Int32 → IM → Prop} (hK14 : ∀ (v3 v4 : Int32) (I : IM), K14 v3 v4 I → J (d + 0) mX12_digit (PI Q) 0 0 14 [none, none, some (.int a3), some (.int v3), some (.int v4)] [] T I 0 0) (v3 v4 : Int32) (I : IM) (h : fX12_digit_14 T a1 a2 a3 Q K14 v3 v4 I) : J (d + 0) mX12_digit (PI Q) 0 0 14 [none, none, some (.int a3), some (.int v3), some (.int v4)] [] T I 0 0 := by
  unfold fX12_digit_14 at h
  refine J.iload dX12_digit_14 rfl ?_
  refine J.iload_n dX12_digit_16 rfl rfl ?_
  refine J.icmp_le (tgt := 31) dX12_digit_17 (by decide) (fun hc1 => ?_) (fun hc1 => ?_)
  · have h := h.1 hc1
    refine J.iload_n dX12_digit_31 rfl rfl ?_
    refine J.bipush (v := 10) dX12_digit_32 (by decide) ?_
    refine J.irem dX12_digit_34 (by decide) ?_
    exact J.iretQ dX12_digit_35 rfl (Nat.le_refl _) (Nat.le_refl _) h
  · have h := h.2 hc1
    refine J.iload_n dX12_digit_20 rfl rfl ?_
    refine J.bipush (v := 10) dX12_digit_21 (by decide) ?_
    refine J.idiv dX12_digit_23 (by decide) ?_
    refine J.istore_n (ls' := [none, none, some (.int a3), some (.int (v3 / 10)), some (.int v4)]) dX12_digit_24 rfl rfl rfl ?_
    refine J.iinc (v := (v4 + (-1))) (ls' := [none, none, some (.int a3), some (.int (v3 / 10)), some (.int (v4 + (-1)))]) dX12_digit_25 rfl (by rfl) rfl ?_
    refine J.goto (tgt := 14) dX12_digit_28 (by decide) ?_
    exact J.weaken (ls' := [none, none, some (.int a3), some (.int (v3 / 10)), some (.int (v4 + (-1)))]) (And.intro rfl (And.intro rfl (And.intro rfl trivial))) (hK14 (v3 / 10) (v4 + (-1)) I h)
set_option maxHeartbeats 4000000 in
set_option maxRecDepth 100000 in
theorem wX12_digit (d : Nat) {T : Topo} (hT : Lay T) (a1 : Int32) (a2 : Int32) (a3 : Int32)   {Q : Int32 → Topo → IM → Prop} (V14 : Int32 → Int32 → IM → Prop) (μ14 : Int32 → Int32 → IM → Nat) (vc14 : ∀ (v3 v4 : Int32) (I : IM), V14 v3 v4 I → fX12_digit_14 T a1 a2 a3 Q (fun w3 w4 I_ => V14 w3 w4 I_ ∧ μ14 w3 w4 I_ < μ14 v3 v4 I) v3 v4 I) {I : IM} (h : fX12_digit_0 T a1 a2 a3 Q V14 I) : Ct (d + 0) mX12_digit [.int a1, .int a2, .int a3] T I 0 0 (PI Q) := by
  have all : ∀ n : Nat, (∀ (v3 v4 : Int32) (I : IM), V14 v3 v4 I → μ14 v3 v4 I < n → J (d + 0) mX12_digit (PI Q) 0 0 14 [none, none, some (.int a3), some (.int v3), some (.int v4)] [] T I 0 0) := by
    intro n
    induction n with
    | zero => exact fun _ _ _ _ hn => absurd hn (Nat.not_lt_zero _)
    | succ n ih =>
      exact fun v3 v4 I hv hn => sX12_digit_14 d hT a1 a2 a3   (fun w3 w4 I_ hw => ih w3 w4 I_ hw.1 (by have := hw.2; omega)) v3 v4 I (vc14 v3 v4 I hv)
  exact Ct.ofJ (by decide +kernel) rfl (by intro v hv; revert v hv; simp [Value.category]) rfl (sX12_digit_0 d hT a1 a2 a3   (fun w3 w4 I_ hw => (all (μ14 w3 w4 I_ + 1)) w3 w4 I_ hw (Nat.lt_succ_self _)) I h)

def jX12_digitI (a1 : Int32) (a2 : Int32) (a3 : Int32) : Nat → Int32 → Int32 → IM → Int32
  | 0 => fun _ _ I => 0
  | n + 1 => fun v3 v4 I => (if v4 ≤ a3 then (v3 - v3 / 10 * 10) else (jX12_digitI a1 a2 a3 n (v3 / 10) (v4 + (-1)) I))
def jX12_digitO (a1 : Int32) (a2 : Int32) (a3 : Int32) : Nat → Int32 → Int32 → IM → Prop
  | 0 => fun _ _ _ => False
  | n + 1 => fun v3 v4 I => (((v4 ≤ a3) → True) ∧ ((¬ v4 ≤ a3) → (jX12_digitO a1 a2 a3 n (v3 / 10) (v4 + (-1)) I)))
theorem jX12_digitI_14 (a1 : Int32) (a2 : Int32) (a3 : Int32) (n : Nat) (v3 v4 : Int32) (I : IM) : jX12_digitI a1 a2 a3 (n + 1) v3 v4 I = (if v4 ≤ a3 then (v3 - v3 / 10 * 10) else (jX12_digitI a1 a2 a3 n (v3 / 10) (v4 + (-1)) I)) := rfl
theorem jX12_digitO_14 (a1 : Int32) (a2 : Int32) (a3 : Int32) (n : Nat) (v3 v4 : Int32) (I : IM) : jX12_digitO a1 a2 a3 (n + 1) v3 v4 I = (((v4 ≤ a3) → True) ∧ ((¬ v4 ≤ a3) → (jX12_digitO a1 a2 a3 n (v3 / 10) (v4 + (-1)) I))) := rfl
def jX12_digit (I : IM) (a1 : Int32) (a2 : Int32) (a3 : Int32) : Int32 := (if a3 < a2 then (jX12_digitI a1 a2 a3 FU a1 (a2 - 1) I) else (-1))
def jX12_digitK (I : IM) (a1 : Int32) (a2 : Int32) (a3 : Int32) : Prop := (((a3 < a2) → (jX12_digitO a1 a2 a3 FU a1 (a2 - 1) I)) ∧ ((¬ a3 < a2) → True))
set_option maxRecDepth 10000 in
set_option maxHeartbeats 1000000 in
theorem uX12_digit (d : Nat) {T : Topo} (hT : Lay T) (a1 : Int32) (a2 : Int32) (a3 : Int32)   {R : Int32} {I00 : IM} : ∀ n : Nat, (∀ (v3 v4 : Int32) (I : IM), I = I00 → jX12_digitO a1 a2 a3 n v3 v4 I → jX12_digitI a1 a2 a3 n v3 v4 I = R → J (d + 0) mX12_digit (PI (fun x T' I' => x = R ∧ T' = T ∧ I' = I00)) 0 0 14 [none, none, some (.int a3), some (.int v3), some (.int v4)] [] T I 0 0) := by
  intro n
  induction n with
  | zero => exact fun _ _ _ _ hz => hz.elim
  | succ n ih =>
    exact fun v3 v4 I hI hok hit => by
        rw [jX12_digitO_14] at hok
        exact sX12_digit_14 d hT a1 a2 a3   (K14 := fun w3 w4 I_ => (jX12_digitO a1 a2 a3 n w3 w4 I_ ∧ jX12_digitI a1 a2 a3 n w3 w4 I_ = R) ∧ I_ = I00) (fun w3 w4 I_ hw => ih w3 w4 I_ hw.2 hw.1.1 hw.1.2) v3 v4 I (by
          unfold fX12_digit_14
          exact ⟨fun hc1 => ⟨by rw [jX12_digitI_14, if_pos hc1] at hit; exact hit, rfl, hI⟩, fun hc1 => ⟨⟨(hok).2 hc1, by rw [jX12_digitI_14, if_neg hc1] at hit; exact hit⟩, hI⟩⟩)
set_option maxRecDepth 10000 in
set_option maxHeartbeats 1000000 in
theorem qX12_digit (d : Nat) {T : Topo} {I : IM} (hT : Lay T) (a1 : Int32) (a2 : Int32) (a3 : Int32)  (hp : (jX12_digitK I a1 a2 a3)) : CtP (d + 0) mX12_digit [.int a1, .int a2, .int a3] T I (jX12_digit I a1 a2 a3) := by
  unfold jX12_digitK at hp
  exact Ct.ofJ (by decide +kernel) rfl (by intro v hv; revert v hv; simp [Value.category]) rfl (sX12_digit_0 d hT a1 a2 a3   (K14 := fun w3 w4 I_ => (jX12_digitO a1 a2 a3 FU w3 w4 I_ ∧ jX12_digitI a1 a2 a3 FU w3 w4 I_ = (jX12_digit I a1 a2 a3)) ∧ I_ = I) (fun w3 w4 I_ hw => uX12_digit d hT a1 a2 a3   FU w3 w4 I_ hw.2 hw.1.1 hw.1.2) I (by
    unfold fX12_digit_0
    exact ⟨fun hc1 => ⟨⟨(hp).1 hc1, by unfold jX12_digit; rw [if_pos hc1]⟩, rfl⟩, fun hc1 => ⟨by unfold jX12_digit; rw [if_neg hc1], rfl, rfl⟩⟩))

def fX12_record_0 (T : Topo) (a1 : Int32) (a2 : Int32) (a3 : Int32) (Q : Topo → IM → Prop) (K12 : Int32 → Int32 → Int32 → Int32 → IM → Prop) (K84 : Int32 → Int32 → Int32 → Int32 → IM → Prop) (I : IM) : Prop :=
  K12 0 0 0 0 I
def fX12_record_12 (T : Topo) (a1 : Int32) (a2 : Int32) (a3 : Int32) (Q : Topo → IM → Prop) (K12 : Int32 → Int32 → Int32 → Int32 → IM → Prop) (K84 : Int32 → Int32 → Int32 → Int32 → IM → Prop) (v4 v5 v6 v7 : Int32) (I : IM) : Prop :=
  (((a2 ≤ v7) → (vp_in a1 9 ∧ K84 v4 v5 v6 ((256 * a1) + (I 115 a1.toNatClampNeg)) I)) ∧ ((¬ a2 ≤ v7) → (vp_in v7 6 ∧ (vp_in v7 6 ∧ (vp_in (I 123 v7.toNatClampNeg) 9 ∧ (vp_in v7 6 ∧ K12 ((10 * v4) + (I 123 v7.toNatClampNeg)) (v5 + (I 84 (I 123 v7.toNatClampNeg).toNatClampNeg)) (v6 ||| ((1 : Int32) <<< ((I 123 v7.toNatClampNeg) &&& 31))) (v7 + 1) I))))))
def fX12_record_84 (T : Topo) (a1 : Int32) (a2 : Int32) (a3 : Int32) (Q : Topo → IM → Prop) (K12 : Int32 → Int32 → Int32 → Int32 → IM → Prop) (K84 : Int32 → Int32 → Int32 → Int32 → IM → Prop) (v4 v5 v6 v7 : Int32) (I : IM) : Prop :=
  (((v7 ≤ (256 * a1)) → (vp_in v7 2304 ∧ (vp_in v7 2304 ∧ (vp_in v7 2304 ∧ (vp_in v7 2304 ∧ (vp_in v7 2304 ∧ (vp_in a1 9 ∧ (vp_in a1 9 ∧ Q T (up2 (up2 (up2 (up2 (up2 (up2 I 116 v7.toNatClampNeg v4) 117 v7.toNatClampNeg a2) 118 v7.toNatClampNeg v5) 119 v7.toNatClampNeg v6) 120 v7.toNatClampNeg a3) 115 a1.toNatClampNeg ((I 115 a1.toNatClampNeg) + 1)))))))))) ∧ ((¬ v7 ≤ (256 * a1)) → (((jX12_isAheadK I v5 a2 (v7 - 1))) ∧ ((((jX12_isAhead I v5 a2 v4 (v7 - 1)) = 0) → (vp_in v7 2304 ∧ (vp_in v7 2304 ∧ (vp_in v7 2304 ∧ (vp_in v7 2304 ∧ (vp_in v7 2304 ∧ (vp_in a1 9 ∧ (vp_in a1 9 ∧ Q T (up2 (up2 (up2 (up2 (up2 (up2 I 116 v7.toNatClampNeg v4) 117 v7.toNatClampNeg a2) 118 v7.toNatClampNeg v5) 119 v7.toNatClampNeg v6) 120 v7.toNatClampNeg a3) 115 a1.toNatClampNeg ((I 115 a1.toNatClampNeg) + 1)))))))))) ∧ ((¬ (jX12_isAhead I v5 a2 v4 (v7 - 1)) = 0) → (vp_in (v7 - 1) 2304 ∧ (vp_in v7 2304 ∧ (vp_in (v7 - 1) 2304 ∧ (vp_in v7 2304 ∧ (vp_in (v7 - 1) 2304 ∧ (vp_in v7 2304 ∧ (vp_in (v7 - 1) 2304 ∧ (vp_in v7 2304 ∧ (vp_in (v7 - 1) 2304 ∧ (vp_in v7 2304 ∧ K84 v4 v5 v6 (v7 + (-1)) (up2 (up2 (up2 (up2 (up2 I 116 v7.toNatClampNeg (I 116 (v7 - 1).toNatClampNeg)) 117 v7.toNatClampNeg (I 117 (v7 - 1).toNatClampNeg)) 118 v7.toNatClampNeg (I 118 (v7 - 1).toNatClampNeg)) 119 v7.toNatClampNeg (I 119 (v7 - 1).toNatClampNeg)) 120 v7.toNatClampNeg (I 120 (v7 - 1).toNatClampNeg)))))))))))))))))
set_option maxHeartbeats 4000000 in
set_option maxRecDepth 100000 in
theorem sX12_record_0 (d : Nat) {T : Topo} (hT : Lay T) (a1 : Int32) (a2 : Int32) (a3 : Int32)    {Q : Topo → IM → Prop} {K12 : Int32 → Int32 → Int32 → Int32 → IM → Prop} {K84 : Int32 → Int32 → Int32 → Int32 → IM → Prop} (hK12 : ∀ (v4 v5 v6 v7 : Int32) (I : IM), K12 v4 v5 v6 v7 I → J (d + 1) mX12_record (PV Q) 0 0 12 [some (.ref 79), some (.int a1), some (.int a2), some (.int a3), some (.int v4), some (.int v5), some (.int v6), some (.int v7)] [] T I 0 0) (hK84 : ∀ (v4 v5 v6 v7 : Int32) (I : IM), K84 v4 v5 v6 v7 I → J (d + 1) mX12_record (PV Q) 0 0 84 [some (.ref 79), some (.int a1), some (.int a2), some (.int a3), some (.int v4), some (.int v5), some (.int v6), some (.int v7)] [] T I 0 0) (I : IM) (h : fX12_record_0 T a1 a2 a3 Q K12 K84 I) : J (d + 1) mX12_record (PV Q) 0 0 0 [some (.ref 79), some (.int a1), some (.int a2), some (.int a3), none, none, none, none] [] T I 0 0 := by
  unfold fX12_record_0 at h
  refine J.iconst (v := 0) dX12_record_0 (by decide) ?_
  refine J.istore (ls' := [some (.ref 79), some (.int a1), some (.int a2), some (.int a3), some (.int 0), none, none, none]) dX12_record_1 rfl rfl ?_
  refine J.iconst (v := 0) dX12_record_3 (by decide) ?_
  refine J.istore (ls' := [some (.ref 79), some (.int a1), some (.int a2), some (.int a3), some (.int 0), some (.int 0), none, none]) dX12_record_4 rfl rfl ?_
  refine J.iconst (v := 0) dX12_record_6 (by decide) ?_
  refine J.istore (ls' := [some (.ref 79), some (.int a1), some (.int a2), some (.int a3), some (.int 0), some (.int 0), some (.int 0), none]) dX12_record_7 rfl rfl ?_
  refine J.iconst (v := 0) dX12_record_9 (by decide) ?_
  refine J.atpc (pc' := 10) rfl ?_
  refine J.istore (ls' := [some (.ref 79), some (.int a1), some (.int a2), some (.int a3), some (.int 0), some (.int 0), some (.int 0), some (.int 0)]) dX12_record_10 rfl rfl ?_
  exact J.weaken (ls' := [some (.ref 79), some (.int a1), some (.int a2), some (.int a3), some (.int 0), some (.int 0), some (.int 0), some (.int 0)]) (And.intro rfl (And.intro rfl (And.intro rfl (And.intro rfl (And.intro rfl (And.intro rfl (And.intro rfl (And.intro rfl trivial)))))))) (hK12 0 0 0 0 I h)
set_option maxHeartbeats 4000000 in
set_option maxRecDepth 100000 in
theorem sX12_record_12 (d : Nat) {T : Topo} (hT : Lay T) (a1 : Int32) (a2 : Int32) (a3 : Int32)    {Q : Topo → IM → Prop} {K12 : Int32 → Int32 → Int32 → Int32 → IM → Prop} {K84 : Int32 → Int32 → Int32 → Int32 → IM → Prop} (hK12 : ∀ (v4 v5 v6 v7 : Int32) (I : IM), K12 v4 v5 v6 v7 I → J (d + 1) mX12_record (PV Q) 0 0 12 [some (.ref 79), some (.int a1), some (.int a2), some (.int a3), some (.int v4), some (.int v5), some (.int v6), some (.int v7)] [] T I 0 0) (hK84 : ∀ (v4 v5 v6 v7 : Int32) (I : IM), K84 v4 v5 v6 v7 I → J (d + 1) mX12_record (PV Q) 0 0 84 [some (.ref 79), some (.int a1), some (.int a2), some (.int a3), some (.int v4), some (.int v5), some (.int v6), some (.int v7)] [] T I 0 0) (v4 v5 v6 v7 : Int32) (I : IM) (h : fX12_record_12 T a1 a2 a3 Q K12 K84 v4 v5 v6 v7 I) : J (d + 1) mX12_record (PV Q) 0 0 12 [some (.ref 79), some (.int a1), some (.int a2), some (.int a3), some (.int v4), some (.int v5), some (.int v6), some (.int v7)] [] T I 0 0 := by
  unfold fX12_record_12 at h
  refine J.iload dX12_record_12 rfl ?_
  refine J.iload_n dX12_record_14 rfl rfl ?_
  refine J.icmp_ge (tgt := 70) dX12_record_15 (by decide) (fun hc1 => ?_) (fun hc1 => ?_)
  · have h := h.1 hc1
    refine J.sipush (v := 256) dX12_record_70 (by decide) ?_
    refine J.iload_n dX12_record_73 rfl rfl ?_
    refine J.imul dX12_record_74 ?_
    refine J.aload_n dX12_record_75 rfl rfl ?_
    refine J.getR (r := 115) dX12_record_76 fX12_120 (hT.k 79 rfl) rfl (hT.r 79 44 rfl rfl) ?_
    refine J.iload_n dX12_record_79 rfl rfl ?_
    obtain ⟨hs2, h⟩ := h
    refine J.iald dX12_record_80 (hT.k 115 rfl) (hT.l 115 rfl) hs2 ?_
    refine J.iadd dX12_record_81 ?_
    refine J.istore (ls' := [some (.ref 79), some (.int a1), some (.int a2), some (.int a3), some (.int v4), some (.int v5), some (.int v6), some (.int ((256 * a1) + (I 115 a1.toNatClampNeg)))]) dX12_record_82 rfl rfl ?_
    exact J.weaken (ls' := [some (.ref 79), some (.int a1), some (.int a2), some (.int a3), some (.int v4), some (.int v5), some (.int v6), some (.int ((256 * a1) + (I 115 a1.toNatClampNeg)))]) (And.intro rfl (And.intro rfl (And.intro rfl (And.intro rfl (And.intro rfl (And.intro rfl (And.intro rfl (And.intro rfl trivial)))))))) (hK84 v4 v5 v6 ((256 * a1) + (I 115 a1.toNatClampNeg)) I h)
  · have h := h.2 hc1
    refine J.bipush (v := 10) dX12_record_18 (by decide) ?_
    refine J.iload dX12_record_20 rfl ?_
    refine J.imul dX12_record_22 ?_
    refine J.aload_n dX12_record_23 rfl rfl ?_
    refine J.getR (r := 123) dX12_record_24 fX12_144 (hT.k 79 rfl) rfl (hT.r 79 52 rfl rfl) ?_
    refine J.iload dX12_record_27 rfl ?_
    obtain ⟨hs3, h⟩ := h
    refine J.iald dX12_record_29 (hT.k 123 rfl) (hT.l 123 rfl) hs3 ?_
    refine J.iadd dX12_record_30 ?_
    refine J.istore (ls' := [some (.ref 79), some (.int a1), some (.int a2), some (.int a3), some (.int ((10 * v4) + (I 123 v7.toNatClampNeg))), some (.int v5), some (.int v6), some (.int v7)]) dX12_record_31 rfl rfl ?_
    refine J.iload dX12_record_33 rfl ?_
    refine J.aload_n dX12_record_35 rfl rfl ?_
    refine J.getR (r := 84) dX12_record_36 fX12_26 (hT.k 79 rfl) rfl (hT.r 79 13 rfl rfl) ?_
    refine J.aload_n dX12_record_39 rfl rfl ?_
    refine J.getR (r := 123) dX12_record_40 fX12_144 (hT.k 79 rfl) rfl (hT.r 79 52 rfl rfl) ?_
    refine J.atpc (pc' := 43) rfl ?_
    refine J.iload dX12_record_43 rfl ?_
    obtain ⟨hs4, h⟩ := h
    refine J.iald dX12_record_45 (hT.k 123 rfl) (hT.l 123 rfl) hs4 ?_
    obtain ⟨hs5, h⟩ := h
    refine J.iald dX12_record_46 (hT.k 84 rfl) (hT.l 84 rfl) hs5 ?_
    refine J.iadd dX12_record_47 ?_
    refine J.istore (ls' := [some (.ref 79), some (.int a1), some (.int a2), some (.int a3), some (.int ((10 * v4) + (I 123 v7.toNatClampNeg))), some (.int (v5 + (I 84 (I 123 v7.toNatClampNeg).toNatClampNeg))), some (.int v6), some (.int v7)]) dX12_record_48 rfl rfl ?_
    refine J.iload dX12_record_50 rfl ?_
    refine J.iconst (v := 1) dX12_record_52 (by decide) ?_
    refine J.aload_n dX12_record_53 rfl rfl ?_
    refine J.getR (r := 123) dX12_record_54 fX12_144 (hT.k 79 rfl) rfl (hT.r 79 52 rfl rfl) ?_
    refine J.iload dX12_record_57 rfl ?_
    refine J.atpc (pc' := 59) rfl ?_
    obtain ⟨hs6, h⟩ := h
    refine J.iald dX12_record_59 (hT.k 123 rfl) (hT.l 123 rfl) hs6 ?_
    refine J.ishl dX12_record_60 ?_
    refine J.ior dX12_record_61 ?_
    refine J.istore (ls' := [some (.ref 79), some (.int a1), some (.int a2), some (.int a3), some (.int ((10 * v4) + (I 123 v7.toNatClampNeg))), some (.int (v5 + (I 84 (I 123 v7.toNatClampNeg).toNatClampNeg))), some (.int (v6 ||| ((1 : Int32) <<< ((I 123 v7.toNatClampNeg) &&& 31)))), some (.int v7)]) dX12_record_62 rfl rfl ?_
    refine J.iinc (v := (v7 + 1)) (ls' := [some (.ref 79), some (.int a1), some (.int a2), some (.int a3), some (.int ((10 * v4) + (I 123 v7.toNatClampNeg))), some (.int (v5 + (I 84 (I 123 v7.toNatClampNeg).toNatClampNeg))), some (.int (v6 ||| ((1 : Int32) <<< ((I 123 v7.toNatClampNeg) &&& 31)))), some (.int (v7 + 1))]) dX12_record_64 rfl (by rfl) rfl ?_
    refine J.goto (tgt := 12) dX12_record_67 (by decide) ?_
    exact J.weaken (ls' := [some (.ref 79), some (.int a1), some (.int a2), some (.int a3), some (.int ((10 * v4) + (I 123 v7.toNatClampNeg))), some (.int (v5 + (I 84 (I 123 v7.toNatClampNeg).toNatClampNeg))), some (.int (v6 ||| ((1 : Int32) <<< ((I 123 v7.toNatClampNeg) &&& 31)))), some (.int (v7 + 1))]) (And.intro rfl (And.intro rfl (And.intro rfl (And.intro rfl (And.intro rfl (And.intro rfl (And.intro rfl (And.intro rfl trivial)))))))) (hK12 ((10 * v4) + (I 123 v7.toNatClampNeg)) (v5 + (I 84 (I 123 v7.toNatClampNeg).toNatClampNeg)) (v6 ||| ((1 : Int32) <<< ((I 123 v7.toNatClampNeg) &&& 31))) (v7 + 1) I h)
set_option maxHeartbeats 4000000 in
set_option maxRecDepth 100000 in
theorem sX12_record_84 (d : Nat) {T : Topo} (hT : Lay T) (a1 : Int32) (a2 : Int32) (a3 : Int32)    {Q : Topo → IM → Prop} {K12 : Int32 → Int32 → Int32 → Int32 → IM → Prop} {K84 : Int32 → Int32 → Int32 → Int32 → IM → Prop} (hK12 : ∀ (v4 v5 v6 v7 : Int32) (I : IM), K12 v4 v5 v6 v7 I → J (d + 1) mX12_record (PV Q) 0 0 12 [some (.ref 79), some (.int a1), some (.int a2), some (.int a3), some (.int v4), some (.int v5), some (.int v6), some (.int v7)] [] T I 0 0) (hK84 : ∀ (v4 v5 v6 v7 : Int32) (I : IM), K84 v4 v5 v6 v7 I → J (d + 1) mX12_record (PV Q) 0 0 84 [some (.ref 79), some (.int a1), some (.int a2), some (.int a3), some (.int v4), some (.int v5), some (.int v6), some (.int v7)] [] T I 0 0) (v4 v5 v6 v7 : Int32) (I : IM) (h : fX12_record_84 T a1 a2 a3 Q K12 K84 v4 v5 v6 v7 I) : J (d + 1) mX12_record (PV Q) 0 0 84 [some (.ref 79), some (.int a1), some (.int a2), some (.int a3), some (.int v4), some (.int v5), some (.int v6), some (.int v7)] [] T I 0 0 := by
  unfold fX12_record_84 at h
  refine J.iload dX12_record_84 rfl ?_
  refine J.sipush (v := 256) dX12_record_86 (by decide) ?_
  refine J.iload_n dX12_record_89 rfl rfl ?_
  refine J.imul dX12_record_90 ?_
  refine J.icmp_le (tgt := 196) dX12_record_91 (by decide) (fun hc1 => ?_) (fun hc1 => ?_)
  · have h := h.1 hc1
    refine J.aload_n dX12_record_196 rfl rfl ?_
    refine J.getR (r := 116) dX12_record_197 fX12_123 (hT.k 79 rfl) rfl (hT.r 79 45 rfl rfl) ?_
    refine J.iload dX12_record_200 rfl ?_
    refine J.iload dX12_record_202 rfl ?_
    obtain ⟨hs2, h⟩ := h
    refine J.iast dX12_record_204 (hT.k 116 rfl) (hT.l 116 rfl) hs2 ?_
    refine J.aload_n dX12_record_205 rfl rfl ?_
    refine J.getR (r := 117) dX12_record_206 fX12_126 (hT.k 79 rfl) rfl (hT.r 79 46 rfl rfl) ?_
    refine J.iload dX12_record_209 rfl ?_
    refine J.iload_n dX12_record_211 rfl rfl ?_
    obtain ⟨hs3, h⟩ := h
    refine J.iast dX12_record_212 (hT.k 117 rfl) (hT.l 117 rfl) hs3 ?_
    refine J.aload_n dX12_record_213 rfl rfl ?_
    refine J.getR (r := 118) dX12_record_214 fX12_129 (hT.k 79 rfl) rfl (hT.r 79 47 rfl rfl) ?_
    refine J.iload dX12_record_217 rfl ?_
    refine J.iload dX12_record_219 rfl ?_
    obtain ⟨hs4, h⟩ := h
    refine J.iast dX12_record_221 (hT.k 118 rfl) (hT.l 118 rfl) hs4 ?_
    refine J.aload_n dX12_record_222 rfl rfl ?_
    refine J.getR (r := 119) dX12_record_223 fX12_132 (hT.k 79 rfl) rfl (hT.r 79 48 rfl rfl) ?_
    refine J.iload dX12_record_226 rfl ?_
    refine J.iload dX12_record_228 rfl ?_
    obtain ⟨hs5, h⟩ := h
    refine J.iast dX12_record_230 (hT.k 119 rfl) (hT.l 119 rfl) hs5 ?_
    refine J.aload_n dX12_record_231 rfl rfl ?_
    refine J.getR (r := 120) dX12_record_232 fX12_135 (hT.k 79 rfl) rfl (hT.r 79 49 rfl rfl) ?_
    refine J.iload dX12_record_235 rfl ?_
    refine J.iload_n dX12_record_237 rfl rfl ?_
    obtain ⟨hs6, h⟩ := h
    refine J.iast dX12_record_238 (hT.k 120 rfl) (hT.l 120 rfl) hs6 ?_
    refine J.aload_n dX12_record_239 rfl rfl ?_
    refine J.getR (r := 115) dX12_record_240 fX12_120 (hT.k 79 rfl) rfl (hT.r 79 44 rfl rfl) ?_
    refine J.iload_n dX12_record_243 rfl rfl ?_
    refine J.dup2 dX12_record_244 rfl rfl ?_
    obtain ⟨hs7, h⟩ := h
    refine J.iald dX12_record_245 (hT.k 115 rfl) (hT.l 115 rfl) hs7 ?_
    refine J.topEq (y := (I 115 a1.toNatClampNeg)) (Eq.trans (up2_o _ _ _ _ (by decide)) (Eq.trans (up2_o _ _ _ _ (by decide)) (Eq.trans (up2_o _ _ _ _ (by decide)) (Eq.trans (up2_o _ _ _ _ (by decide)) (up2_o _ _ _ _ (by decide)))))) ?_
    refine J.iconst (v := 1) dX12_record_246 (by decide) ?_
    refine J.iadd dX12_record_247 ?_
    obtain ⟨hs8, h⟩ := h
    refine J.iast dX12_record_248 (hT.k 115 rfl) (hT.l 115 rfl) hs8 ?_
    exact J.vretQ dX12_record_249 rfl (Nat.le_refl _) (Nat.le_refl _) h
  · have h := h.2 hc1
    refine J.aload_n dX12_record_94 rfl rfl ?_
    refine J.iload dX12_record_95 rfl ?_
    refine J.iload_n dX12_record_97 rfl rfl ?_
    refine J.iload dX12_record_98 rfl ?_
    refine J.iload dX12_record_100 rfl ?_
    refine J.iconst (v := 1) dX12_record_102 (by decide) ?_
    refine J.isub dX12_record_103 ?_
    refine J.atpc (pc' := 104) rfl ?_
    obtain ⟨hp9, h⟩ := h
    refine J.callVP (k := 79) (as := [.int v5, .int a2, .int v4, .int (v7 - 1)]) (rest := []) dX12_record_104 kX12_isAhead vX12_isAhead lX12_220 (hT.k 79 rfl) rfl rfl rfl rfl rfl (by omega) (Nat.le_refl _) (Nat.le_refl _) (qX12_isAhead (d + 0) hT v5 a2 v4 (v7 - 1) hp9) ?_
    refine J.if_eq (tgt := 196) dX12_record_107 (by decide) (fun hc10 => ?_) (fun hc10 => ?_)
    · have h := h.1 hc10
      refine J.aload_n dX12_record_196 rfl rfl ?_
      refine J.getR (r := 116) dX12_record_197 fX12_123 (hT.k 79 rfl) rfl (hT.r 79 45 rfl rfl) ?_
      refine J.iload dX12_record_200 rfl ?_
      refine J.iload dX12_record_202 rfl ?_
      obtain ⟨hs11, h⟩ := h
      refine J.iast dX12_record_204 (hT.k 116 rfl) (hT.l 116 rfl) hs11 ?_
      refine J.aload_n dX12_record_205 rfl rfl ?_
      refine J.getR (r := 117) dX12_record_206 fX12_126 (hT.k 79 rfl) rfl (hT.r 79 46 rfl rfl) ?_
      refine J.iload dX12_record_209 rfl ?_
      refine J.iload_n dX12_record_211 rfl rfl ?_
      obtain ⟨hs12, h⟩ := h
      refine J.iast dX12_record_212 (hT.k 117 rfl) (hT.l 117 rfl) hs12 ?_
      refine J.aload_n dX12_record_213 rfl rfl ?_
      refine J.getR (r := 118) dX12_record_214 fX12_129 (hT.k 79 rfl) rfl (hT.r 79 47 rfl rfl) ?_
      refine J.iload dX12_record_217 rfl ?_
      refine J.iload dX12_record_219 rfl ?_
      obtain ⟨hs13, h⟩ := h
      refine J.iast dX12_record_221 (hT.k 118 rfl) (hT.l 118 rfl) hs13 ?_
      refine J.aload_n dX12_record_222 rfl rfl ?_
      refine J.getR (r := 119) dX12_record_223 fX12_132 (hT.k 79 rfl) rfl (hT.r 79 48 rfl rfl) ?_
      refine J.iload dX12_record_226 rfl ?_
      refine J.iload dX12_record_228 rfl ?_
      obtain ⟨hs14, h⟩ := h
      refine J.iast dX12_record_230 (hT.k 119 rfl) (hT.l 119 rfl) hs14 ?_
      refine J.aload_n dX12_record_231 rfl rfl ?_
      refine J.getR (r := 120) dX12_record_232 fX12_135 (hT.k 79 rfl) rfl (hT.r 79 49 rfl rfl) ?_
      refine J.iload dX12_record_235 rfl ?_
      refine J.iload_n dX12_record_237 rfl rfl ?_
      obtain ⟨hs15, h⟩ := h
      refine J.iast dX12_record_238 (hT.k 120 rfl) (hT.l 120 rfl) hs15 ?_
      refine J.aload_n dX12_record_239 rfl rfl ?_
      refine J.getR (r := 115) dX12_record_240 fX12_120 (hT.k 79 rfl) rfl (hT.r 79 44 rfl rfl) ?_
      refine J.iload_n dX12_record_243 rfl rfl ?_
      refine J.dup2 dX12_record_244 rfl rfl ?_
      obtain ⟨hs16, h⟩ := h
      refine J.iald dX12_record_245 (hT.k 115 rfl) (hT.l 115 rfl) hs16 ?_
      refine J.topEq (y := (I 115 a1.toNatClampNeg)) (Eq.trans (up2_o _ _ _ _ (by decide)) (Eq.trans (up2_o _ _ _ _ (by decide)) (Eq.trans (up2_o _ _ _ _ (by decide)) (Eq.trans (up2_o _ _ _ _ (by decide)) (up2_o _ _ _ _ (by decide)))))) ?_
      refine J.iconst (v := 1) dX12_record_246 (by decide) ?_
      refine J.iadd dX12_record_247 ?_
      obtain ⟨hs17, h⟩ := h
      refine J.iast dX12_record_248 (hT.k 115 rfl) (hT.l 115 rfl) hs17 ?_
      exact J.vretQ dX12_record_249 rfl (Nat.le_refl _) (Nat.le_refl _) h
    · have h := h.2 hc10
      refine J.aload_n dX12_record_110 rfl rfl ?_
      refine J.getR (r := 116) dX12_record_111 fX12_123 (hT.k 79 rfl) rfl (hT.r 79 45 rfl rfl) ?_
      refine J.iload dX12_record_114 rfl ?_
      refine J.aload_n dX12_record_116 rfl rfl ?_
      refine J.getR (r := 116) dX12_record_117 fX12_123 (hT.k 79 rfl) rfl (hT.r 79 45 rfl rfl) ?_
      refine J.iload dX12_record_120 rfl ?_
      refine J.iconst (v := 1) dX12_record_122 (by decide) ?_
      refine J.atpc (pc' := 123) rfl ?_
      refine J.isub dX12_record_123 ?_
      obtain ⟨hs18, h⟩ := h
      refine J.iald dX12_record_124 (hT.k 116 rfl) (hT.l 116 rfl) hs18 ?_
      obtain ⟨hs19, h⟩ := h
      refine J.iast dX12_record_125 (hT.k 116 rfl) (hT.l 116 rfl) hs19 ?_
      refine J.aload_n dX12_record_126 rfl rfl ?_
      refine J.getR (r := 117) dX12_record_127 fX12_126 (hT.k 79 rfl) rfl (hT.r 79 46 rfl rfl) ?_
      refine J.iload dX12_record_130 rfl ?_
      refine J.aload_n dX12_record_132 rfl rfl ?_
      refine J.getR (r := 117) dX12_record_133 fX12_126 (hT.k 79 rfl) rfl (hT.r 79 46 rfl rfl) ?_
      refine J.iload dX12_record_136 rfl ?_
      refine J.iconst (v := 1) dX12_record_138 (by decide) ?_
      refine J.atpc (pc' := 139) rfl ?_
      refine J.isub dX12_record_139 ?_
      obtain ⟨hs20, h⟩ := h
      refine J.iald dX12_record_140 (hT.k 117 rfl) (hT.l 117 rfl) hs20 ?_
      refine J.topEq (y := (I 117 (v7 - 1).toNatClampNeg)) (up2_o _ _ _ _ (by decide)) ?_
      obtain ⟨hs21, h⟩ := h
      refine J.iast dX12_record_141 (hT.k 117 rfl) (hT.l 117 rfl) hs21 ?_
      refine J.aload_n dX12_record_142 rfl rfl ?_
      refine J.getR (r := 118) dX12_record_143 fX12_129 (hT.k 79 rfl) rfl (hT.r 79 47 rfl rfl) ?_
      refine J.iload dX12_record_146 rfl ?_
      refine J.aload_n dX12_record_148 rfl rfl ?_
      refine J.getR (r := 118) dX12_record_149 fX12_129 (hT.k 79 rfl) rfl (hT.r 79 47 rfl rfl) ?_
      refine J.iload dX12_record_152 rfl ?_
      refine J.iconst (v := 1) dX12_record_154 (by decide) ?_
      refine J.atpc (pc' := 155) rfl ?_
      refine J.isub dX12_record_155 ?_
      obtain ⟨hs22, h⟩ := h
      refine J.iald dX12_record_156 (hT.k 118 rfl) (hT.l 118 rfl) hs22 ?_
      refine J.topEq (y := (I 118 (v7 - 1).toNatClampNeg)) (Eq.trans (up2_o _ _ _ _ (by decide)) (up2_o _ _ _ _ (by decide))) ?_
      obtain ⟨hs23, h⟩ := h
      refine J.iast dX12_record_157 (hT.k 118 rfl) (hT.l 118 rfl) hs23 ?_
      refine J.aload_n dX12_record_158 rfl rfl ?_
      refine J.getR (r := 119) dX12_record_159 fX12_132 (hT.k 79 rfl) rfl (hT.r 79 48 rfl rfl) ?_
      refine J.iload dX12_record_162 rfl ?_
      refine J.aload_n dX12_record_164 rfl rfl ?_
      refine J.getR (r := 119) dX12_record_165 fX12_132 (hT.k 79 rfl) rfl (hT.r 79 48 rfl rfl) ?_
      refine J.iload dX12_record_168 rfl ?_
      refine J.iconst (v := 1) dX12_record_170 (by decide) ?_
      refine J.atpc (pc' := 171) rfl ?_
      refine J.isub dX12_record_171 ?_
      obtain ⟨hs24, h⟩ := h
      refine J.iald dX12_record_172 (hT.k 119 rfl) (hT.l 119 rfl) hs24 ?_
      refine J.topEq (y := (I 119 (v7 - 1).toNatClampNeg)) (Eq.trans (up2_o _ _ _ _ (by decide)) (Eq.trans (up2_o _ _ _ _ (by decide)) (up2_o _ _ _ _ (by decide)))) ?_
      obtain ⟨hs25, h⟩ := h
      refine J.iast dX12_record_173 (hT.k 119 rfl) (hT.l 119 rfl) hs25 ?_
      refine J.aload_n dX12_record_174 rfl rfl ?_
      refine J.getR (r := 120) dX12_record_175 fX12_135 (hT.k 79 rfl) rfl (hT.r 79 49 rfl rfl) ?_
      refine J.iload dX12_record_178 rfl ?_
      refine J.aload_n dX12_record_180 rfl rfl ?_
      refine J.getR (r := 120) dX12_record_181 fX12_135 (hT.k 79 rfl) rfl (hT.r 79 49 rfl rfl) ?_
      refine J.iload dX12_record_184 rfl ?_
      refine J.iconst (v := 1) dX12_record_186 (by decide) ?_
      refine J.atpc (pc' := 187) rfl ?_
      refine J.isub dX12_record_187 ?_
      obtain ⟨hs26, h⟩ := h
      refine J.iald dX12_record_188 (hT.k 120 rfl) (hT.l 120 rfl) hs26 ?_
      refine J.topEq (y := (I 120 (v7 - 1).toNatClampNeg)) (Eq.trans (up2_o _ _ _ _ (by decide)) (Eq.trans (up2_o _ _ _ _ (by decide)) (Eq.trans (up2_o _ _ _ _ (by decide)) (up2_o _ _ _ _ (by decide))))) ?_
      obtain ⟨hs27, h⟩ := h
      refine J.iast dX12_record_189 (hT.k 120 rfl) (hT.l 120 rfl) hs27 ?_
      refine J.iinc (v := (v7 + (-1))) (ls' := [some (.ref 79), some (.int a1), some (.int a2), some (.int a3), some (.int v4), some (.int v5), some (.int v6), some (.int (v7 + (-1)))]) dX12_record_190 rfl (by rfl) rfl ?_
      refine J.goto (tgt := 84) dX12_record_193 (by decide) ?_
      exact J.weaken (ls' := [some (.ref 79), some (.int a1), some (.int a2), some (.int a3), some (.int v4), some (.int v5), some (.int v6), some (.int (v7 + (-1)))]) (And.intro rfl (And.intro rfl (And.intro rfl (And.intro rfl (And.intro rfl (And.intro rfl (And.intro rfl (And.intro rfl trivial)))))))) (hK84 v4 v5 v6 (v7 + (-1)) (up2 (up2 (up2 (up2 (up2 I 116 v7.toNatClampNeg (I 116 (v7 - 1).toNatClampNeg)) 117 v7.toNatClampNeg (I 117 (v7 - 1).toNatClampNeg)) 118 v7.toNatClampNeg (I 118 (v7 - 1).toNatClampNeg)) 119 v7.toNatClampNeg (I 119 (v7 - 1).toNatClampNeg)) 120 v7.toNatClampNeg (I 120 (v7 - 1).toNatClampNeg)) h)
set_option maxHeartbeats 4000000 in
set_option maxRecDepth 100000 in
theorem wX12_record (d : Nat) {T : Topo} (hT : Lay T) (a1 : Int32) (a2 : Int32) (a3 : Int32)   {Q : Topo → IM → Prop} (V12 : Int32 → Int32 → Int32 → Int32 → IM → Prop) (μ12 : Int32 → Int32 → Int32 → Int32 → IM → Nat) (V84 : Int32 → Int32 → Int32 → Int32 → IM → Prop) (μ84 : Int32 → Int32 → Int32 → Int32 → IM → Nat) (vc12 : ∀ (v4 v5 v6 v7 : Int32) (I : IM), V12 v4 v5 v6 v7 I → fX12_record_12 T a1 a2 a3 Q (fun w4 w5 w6 w7 I_ => V12 w4 w5 w6 w7 I_ ∧ μ12 w4 w5 w6 w7 I_ < μ12 v4 v5 v6 v7 I) (fun w4 w5 w6 w7 I_ => V84 w4 w5 w6 w7 I_ ∧ μ84 w4 w5 w6 w7 I_ < μ12 v4 v5 v6 v7 I) v4 v5 v6 v7 I) (vc84 : ∀ (v4 v5 v6 v7 : Int32) (I : IM), V84 v4 v5 v6 v7 I → fX12_record_84 T a1 a2 a3 Q (fun w4 w5 w6 w7 I_ => V12 w4 w5 w6 w7 I_ ∧ μ12 w4 w5 w6 w7 I_ < μ84 v4 v5 v6 v7 I) (fun w4 w5 w6 w7 I_ => V84 w4 w5 w6 w7 I_ ∧ μ84 w4 w5 w6 w7 I_ < μ84 v4 v5 v6 v7 I) v4 v5 v6 v7 I) {I : IM} (h : fX12_record_0 T a1 a2 a3 Q V12 V84 I) : Ct (d + 1) mX12_record [.ref 79, .int a1, .int a2, .int a3] T I 0 0 (PV Q) := by
  have all : ∀ n : Nat, (∀ (v4 v5 v6 v7 : Int32) (I : IM), V12 v4 v5 v6 v7 I → μ12 v4 v5 v6 v7 I < n → J (d + 1) mX12_record (PV Q) 0 0 12 [some (.ref 79), some (.int a1), some (.int a2), some (.int a3), some (.int v4), some (.int v5), some (.int v6), some (.int v7)] [] T I 0 0) ∧ (∀ (v4 v5 v6 v7 : Int32) (I : IM), V84 v4 v5 v6 v7 I → μ84 v4 v5 v6 v7 I < n → J (d + 1) mX12_record (PV Q) 0 0 84 [some (.ref 79), some (.int a1), some (.int a2), some (.int a3), some (.int v4), some (.int v5), some (.int v6), some (.int v7)] [] T I 0 0) := by
    intro n
    induction n with
    | zero => exact ⟨fun _ _ _ _ _ _ hn => absurd hn (Nat.not_lt_zero _), fun _ _ _ _ _ _ hn => absurd hn (Nat.not_lt_zero _)⟩
    | succ n ih =>
      exact ⟨fun v4 v5 v6 v7 I hv hn => sX12_record_12 d hT a1 a2 a3   (fun w4 w5 w6 w7 I_ hw => ih.1 w4 w5 w6 w7 I_ hw.1 (by have := hw.2; omega)) (fun w4 w5 w6 w7 I_ hw => ih.2 w4 w5 w6 w7 I_ hw.1 (by have := hw.2; omega)) v4 v5 v6 v7 I (vc12 v4 v5 v6 v7 I hv), fun v4 v5 v6 v7 I hv hn => sX12_record_84 d hT a1 a2 a3   (fun w4 w5 w6 w7 I_ hw => ih.1 w4 w5 w6 w7 I_ hw.1 (by have := hw.2; omega)) (fun w4 w5 w6 w7 I_ hw => ih.2 w4 w5 w6 w7 I_ hw.1 (by have := hw.2; omega)) v4 v5 v6 v7 I (vc84 v4 v5 v6 v7 I hv)⟩
  exact Ct.ofJ (by decide +kernel) rfl (by intro v hv; revert v hv; simp [Value.category]) rfl (sX12_record_0 d hT a1 a2 a3   (fun w4 w5 w6 w7 I_ hw => (all (μ12 w4 w5 w6 w7 I_ + 1)).1 w4 w5 w6 w7 I_ hw (Nat.lt_succ_self _)) (fun w4 w5 w6 w7 I_ hw => (all (μ84 w4 w5 w6 w7 I_ + 1)).2 w4 w5 w6 w7 I_ hw (Nat.lt_succ_self _)) I h)

def jX12_recordB12 (a1 : Int32) (a2 : Int32) (a3 : Int32) (F : (Nat → Int32 → Int32 → Int32 → Int32 → IM → IM)) (v4 v5 v6 v7 : Int32) (I : IM) : IM := (if a2 ≤ v7 then (F 1 v4 v5 v6 ((256 * a1) + (I 115 a1.toNatClampNeg)) I) else (F 0 ((10 * v4) + (I 123 v7.toNatClampNeg)) (v5 + (I 84 (I 123 v7.toNatClampNeg).toNatClampNeg)) (v6 ||| ((1 : Int32) <<< ((I 123 v7.toNatClampNeg) &&& 31))) (v7 + 1) I))
def jX12_recordC12 (a1 : Int32) (a2 : Int32) (a3 : Int32) (F : (Nat → Int32 → Int32 → Int32 → Int32 → IM → Prop)) (v4 v5 v6 v7 : Int32) (I : IM) : Prop := (((a2 ≤ v7) → (vp_in a1 9 ∧ (F 1 v4 v5 v6 ((256 * a1) + (I 115 a1.toNatClampNeg)) I))) ∧ ((¬ a2 ≤ v7) → (vp_in v7 6 ∧ (vp_in v7 6 ∧ (vp_in (I 123 v7.toNatClampNeg) 9 ∧ (vp_in v7 6 ∧ (F 0 ((10 * v4) + (I 123 v7.toNatClampNeg)) (v5 + (I 84 (I 123 v7.toNatClampNeg).toNatClampNeg)) (v6 ||| ((1 : Int32) <<< ((I 123 v7.toNatClampNeg) &&& 31))) (v7 + 1) I)))))))
def jX12_recordB84 (a1 : Int32) (a2 : Int32) (a3 : Int32) (F : (Nat → Int32 → Int32 → Int32 → Int32 → IM → IM)) (v4 v5 v6 v7 : Int32) (I : IM) : IM := (if v7 ≤ (256 * a1) then (up2 (up2 (up2 (up2 (up2 (up2 I 116 v7.toNatClampNeg v4) 117 v7.toNatClampNeg a2) 118 v7.toNatClampNeg v5) 119 v7.toNatClampNeg v6) 120 v7.toNatClampNeg a3) 115 a1.toNatClampNeg ((I 115 a1.toNatClampNeg) + 1)) else (if (jX12_isAhead I v5 a2 v4 (v7 - 1)) = 0 then (up2 (up2 (up2 (up2 (up2 (up2 I 116 v7.toNatClampNeg v4) 117 v7.toNatClampNeg a2) 118 v7.toNatClampNeg v5) 119 v7.toNatClampNeg v6) 120 v7.toNatClampNeg a3) 115 a1.toNatClampNeg ((I 115 a1.toNatClampNeg) + 1)) else (F 1 v4 v5 v6 (v7 + (-1)) (up2 (up2 (up2 (up2 (up2 I 116 v7.toNatClampNeg (I 116 (v7 - 1).toNatClampNeg)) 117 v7.toNatClampNeg (I 117 (v7 - 1).toNatClampNeg)) 118 v7.toNatClampNeg (I 118 (v7 - 1).toNatClampNeg)) 119 v7.toNatClampNeg (I 119 (v7 - 1).toNatClampNeg)) 120 v7.toNatClampNeg (I 120 (v7 - 1).toNatClampNeg)))))
def jX12_recordC84 (a1 : Int32) (a2 : Int32) (a3 : Int32) (F : (Nat → Int32 → Int32 → Int32 → Int32 → IM → Prop)) (v4 v5 v6 v7 : Int32) (I : IM) : Prop := (((v7 ≤ (256 * a1)) → (vp_in v7 2304 ∧ (vp_in v7 2304 ∧ (vp_in v7 2304 ∧ (vp_in v7 2304 ∧ (vp_in v7 2304 ∧ (vp_in a1 9 ∧ vp_in a1 9))))))) ∧ ((¬ v7 ≤ (256 * a1)) → (((jX12_isAheadK I v5 a2 (v7 - 1))) ∧ ((((jX12_isAhead I v5 a2 v4 (v7 - 1)) = 0) → (vp_in v7 2304 ∧ (vp_in v7 2304 ∧ (vp_in v7 2304 ∧ (vp_in v7 2304 ∧ (vp_in v7 2304 ∧ (vp_in a1 9 ∧ vp_in a1 9))))))) ∧ ((¬ (jX12_isAhead I v5 a2 v4 (v7 - 1)) = 0) → (vp_in (v7 - 1) 2304 ∧ (vp_in v7 2304 ∧ (vp_in (v7 - 1) 2304 ∧ (vp_in v7 2304 ∧ (vp_in (v7 - 1) 2304 ∧ (vp_in v7 2304 ∧ (vp_in (v7 - 1) 2304 ∧ (vp_in v7 2304 ∧ (vp_in (v7 - 1) 2304 ∧ (vp_in v7 2304 ∧ (F 1 v4 v5 v6 (v7 + (-1)) (up2 (up2 (up2 (up2 (up2 I 116 v7.toNatClampNeg (I 116 (v7 - 1).toNatClampNeg)) 117 v7.toNatClampNeg (I 117 (v7 - 1).toNatClampNeg)) 118 v7.toNatClampNeg (I 118 (v7 - 1).toNatClampNeg)) 119 v7.toNatClampNeg (I 119 (v7 - 1).toNatClampNeg)) 120 v7.toNatClampNeg (I 120 (v7 - 1).toNatClampNeg))))))))))))))))))
def jX12_recordI (a1 : Int32) (a2 : Int32) (a3 : Int32) : Nat → Nat → Int32 → Int32 → Int32 → Int32 → IM → IM
  | 0 => fun _ _ _ _ _ I => I
  | n + 1 => fun tg v4 v5 v6 v7 I => (if tg = 0 then jX12_recordB12 a1 a2 a3 (jX12_recordI a1 a2 a3 n) v4 v5 v6 v7 I else (if tg = 1 then jX12_recordB84 a1 a2 a3 (jX12_recordI a1 a2 a3 n) v4 v5 v6 v7 I else I))
def jX12_recordO (a1 : Int32) (a2 : Int32) (a3 : Int32) : Nat → Nat → Int32 → Int32 → Int32 → Int32 → IM → Prop
  | 0 => fun _ _ _ _ _ _ => False
  | n + 1 => fun tg v4 v5 v6 v7 I => (if tg = 0 then jX12_recordC12 a1 a2 a3 (jX12_recordO a1 a2 a3 n) v4 v5 v6 v7 I else (if tg = 1 then jX12_recordC84 a1 a2 a3 (jX12_recordO a1 a2 a3 n) v4 v5 v6 v7 I else True))
theorem jX12_recordI_12 (a1 : Int32) (a2 : Int32) (a3 : Int32) (n : Nat) (v4 v5 v6 v7 : Int32) (I : IM) : jX12_recordI a1 a2 a3 (n + 1) 0 v4 v5 v6 v7 I = (if a2 ≤ v7 then (jX12_recordI a1 a2 a3 n 1 v4 v5 v6 ((256 * a1) + (I 115 a1.toNatClampNeg)) I) else (jX12_recordI a1 a2 a3 n 0 ((10 * v4) + (I 123 v7.toNatClampNeg)) (v5 + (I 84 (I 123 v7.toNatClampNeg).toNatClampNeg)) (v6 ||| ((1 : Int32) <<< ((I 123 v7.toNatClampNeg) &&& 31))) (v7 + 1) I)) := by
  show (if (0 : Nat) = 0 then jX12_recordB12 a1 a2 a3 (jX12_recordI a1 a2 a3 n) v4 v5 v6 v7 I else (if (0 : Nat) = 1 then jX12_recordB84 a1 a2 a3 (jX12_recordI a1 a2 a3 n) v4 v5 v6 v7 I else I)) = _
  rw [if_pos rfl]; rfl
theorem jX12_recordO_12 (a1 : Int32) (a2 : Int32) (a3 : Int32) (n : Nat) (v4 v5 v6 v7 : Int32) (I : IM) : jX12_recordO a1 a2 a3 (n + 1) 0 v4 v5 v6 v7 I = (((a2 ≤ v7) → (vp_in a1 9 ∧ (jX12_recordO a1 a2 a3 n 1 v4 v5 v6 ((256 * a1) + (I 115 a1.toNatClampNeg)) I))) ∧ ((¬ a2 ≤ v7) → (vp_in v7 6 ∧ (vp_in v7 6 ∧ (vp_in (I 123 v7.toNatClampNeg) 9 ∧ (vp_in v7 6 ∧ (jX12_recordO a1 a2 a3 n 0 ((10 * v4) + (I 123 v7.toNatClampNeg)) (v5 + (I 84 (I 123 v7.toNatClampNeg).toNatClampNeg)) (v6 ||| ((1 : Int32) <<< ((I 123 v7.toNatClampNeg) &&& 31))) (v7 + 1) I))))))) := by
  show (if (0 : Nat) = 0 then jX12_recordC12 a1 a2 a3 (jX12_recordO a1 a2 a3 n) v4 v5 v6 v7 I else (if (0 : Nat) = 1 then jX12_recordC84 a1 a2 a3 (jX12_recordO a1 a2 a3 n) v4 v5 v6 v7 I else True)) = _
  rw [if_pos rfl]; rfl
theorem jX12_recordI_84 (a1 : Int32) (a2 : Int32) (a3 : Int32) (n : Nat) (v4 v5 v6 v7 : Int32) (I : IM) : jX12_recordI a1 a2 a3 (n + 1) 1 v4 v5 v6 v7 I = (if v7 ≤ (256 * a1) then (up2 (up2 (up2 (up2 (up2 (up2 I 116 v7.toNatClampNeg v4) 117 v7.toNatClampNeg a2) 118 v7.toNatClampNeg v5) 119 v7.toNatClampNeg v6) 120 v7.toNatClampNeg a3) 115 a1.toNatClampNeg ((I 115 a1.toNatClampNeg) + 1)) else (if (jX12_isAhead I v5 a2 v4 (v7 - 1)) = 0 then (up2 (up2 (up2 (up2 (up2 (up2 I 116 v7.toNatClampNeg v4) 117 v7.toNatClampNeg a2) 118 v7.toNatClampNeg v5) 119 v7.toNatClampNeg v6) 120 v7.toNatClampNeg a3) 115 a1.toNatClampNeg ((I 115 a1.toNatClampNeg) + 1)) else (jX12_recordI a1 a2 a3 n 1 v4 v5 v6 (v7 + (-1)) (up2 (up2 (up2 (up2 (up2 I 116 v7.toNatClampNeg (I 116 (v7 - 1).toNatClampNeg)) 117 v7.toNatClampNeg (I 117 (v7 - 1).toNatClampNeg)) 118 v7.toNatClampNeg (I 118 (v7 - 1).toNatClampNeg)) 119 v7.toNatClampNeg (I 119 (v7 - 1).toNatClampNeg)) 120 v7.toNatClampNeg (I 120 (v7 - 1).toNatClampNeg))))) := by
  show (if (1 : Nat) = 0 then jX12_recordB12 a1 a2 a3 (jX12_recordI a1 a2 a3 n) v4 v5 v6 v7 I else (if (1 : Nat) = 1 then jX12_recordB84 a1 a2 a3 (jX12_recordI a1 a2 a3 n) v4 v5 v6 v7 I else I)) = _
  rw [if_neg (by decide), if_pos rfl]; rfl
theorem jX12_recordO_84 (a1 : Int32) (a2 : Int32) (a3 : Int32) (n : Nat) (v4 v5 v6 v7 : Int32) (I : IM) : jX12_recordO a1 a2 a3 (n + 1) 1 v4 v5 v6 v7 I = (((v7 ≤ (256 * a1)) → (vp_in v7 2304 ∧ (vp_in v7 2304 ∧ (vp_in v7 2304 ∧ (vp_in v7 2304 ∧ (vp_in v7 2304 ∧ (vp_in a1 9 ∧ vp_in a1 9))))))) ∧ ((¬ v7 ≤ (256 * a1)) → (((jX12_isAheadK I v5 a2 (v7 - 1))) ∧ ((((jX12_isAhead I v5 a2 v4 (v7 - 1)) = 0) → (vp_in v7 2304 ∧ (vp_in v7 2304 ∧ (vp_in v7 2304 ∧ (vp_in v7 2304 ∧ (vp_in v7 2304 ∧ (vp_in a1 9 ∧ vp_in a1 9))))))) ∧ ((¬ (jX12_isAhead I v5 a2 v4 (v7 - 1)) = 0) → (vp_in (v7 - 1) 2304 ∧ (vp_in v7 2304 ∧ (vp_in (v7 - 1) 2304 ∧ (vp_in v7 2304 ∧ (vp_in (v7 - 1) 2304 ∧ (vp_in v7 2304 ∧ (vp_in (v7 - 1) 2304 ∧ (vp_in v7 2304 ∧ (vp_in (v7 - 1) 2304 ∧ (vp_in v7 2304 ∧ (jX12_recordO a1 a2 a3 n 1 v4 v5 v6 (v7 + (-1)) (up2 (up2 (up2 (up2 (up2 I 116 v7.toNatClampNeg (I 116 (v7 - 1).toNatClampNeg)) 117 v7.toNatClampNeg (I 117 (v7 - 1).toNatClampNeg)) 118 v7.toNatClampNeg (I 118 (v7 - 1).toNatClampNeg)) 119 v7.toNatClampNeg (I 119 (v7 - 1).toNatClampNeg)) 120 v7.toNatClampNeg (I 120 (v7 - 1).toNatClampNeg)))))))))))))))))) := by
  show (if (1 : Nat) = 0 then jX12_recordC12 a1 a2 a3 (jX12_recordO a1 a2 a3 n) v4 v5 v6 v7 I else (if (1 : Nat) = 1 then jX12_recordC84 a1 a2 a3 (jX12_recordO a1 a2 a3 n) v4 v5 v6 v7 I else True)) = _
  rw [if_neg (by decide), if_pos rfl]; rfl
def jX12_record (I : IM) (a1 : Int32) (a2 : Int32) (a3 : Int32) : IM := (jX12_recordI a1 a2 a3 FU 0 0 0 0 0 I)
def jX12_recordK (I : IM) (a1 : Int32) (a2 : Int32) (a3 : Int32) : Prop := (jX12_recordO a1 a2 a3 FU 0 0 0 0 0 I)
set_option maxRecDepth 10000 in
set_option maxHeartbeats 1000000 in
theorem uX12_record (d : Nat) {T : Topo} (hT : Lay T) (a1 : Int32) (a2 : Int32) (a3 : Int32)   {R : IM} : ∀ n : Nat, (∀ (v4 v5 v6 v7 : Int32) (I : IM), jX12_recordO a1 a2 a3 n 0 v4 v5 v6 v7 I → jX12_recordI a1 a2 a3 n 0 v4 v5 v6 v7 I = R → J (d + 1) mX12_record (PV (fun T' I' => T' = T ∧ I' = R)) 0 0 12 [some (.ref 79), some (.int a1), some (.int a2), some (.int a3), some (.int v4), some (.int v5), some (.int v6), some (.int v7)] [] T I 0 0) ∧ (∀ (v4 v5 v6 v7 : Int32) (I : IM), jX12_recordO a1 a2 a3 n 1 v4 v5 v6 v7 I → jX12_recordI a1 a2 a3 n 1 v4 v5 v6 v7 I = R → J (d + 1) mX12_record (PV (fun T' I' => T' = T ∧ I' = R)) 0 0 84 [some (.ref 79), some (.int a1), some (.int a2), some (.int a3), some (.int v4), some (.int v5), some (.int v6), some (.int v7)] [] T I 0 0) := by
  intro n
  induction n with
  | zero => exact ⟨fun _ _ _ _ _ hz => hz.elim, fun _ _ _ _ _ hz => hz.elim⟩
  | succ n ih =>
    refine ⟨?_, ?_⟩
    · exact fun v4 v5 v6 v7 I hok hit => by
        rw [jX12_recordO_12] at hok
        exact sX12_record_12 d hT a1 a2 a3   (K12 := fun w4 w5 w6 w7 I_ => (jX12_recordO a1 a2 a3 n 0 w4 w5 w6 w7 I_ ∧ jX12_recordI a1 a2 a3 n 0 w4 w5 w6 w7 I_ = R)) (K84 := fun w4 w5 w6 w7 I_ => (jX12_recordO a1 a2 a3 n 1 w4 w5 w6 w7 I_ ∧ jX12_recordI a1 a2 a3 n 1 w4 w5 w6 w7 I_ = R)) (fun w4 w5 w6 w7 I_ hw => ih.1 w4 w5 w6 w7 I_ hw.1 hw.2) (fun w4 w5 w6 w7 I_ hw => ih.2 w4 w5 w6 w7 I_ hw.1 hw.2) v4 v5 v6 v7 I (by
          unfold fX12_record_12
          exact ⟨fun hc1 => ⟨((hok).1 hc1).1, ⟨((hok).1 hc1).2, by rw [jX12_recordI_12, if_pos hc1] at hit; exact hit⟩⟩, fun hc1 => ⟨((hok).2 hc1).1, ⟨(((hok).2 hc1).2).1, ⟨((((hok).2 hc1).2).2).1, ⟨(((((hok).2 hc1).2).2).2).1, ⟨(((((hok).2 hc1).2).2).2).2, by rw [jX12_recordI_12, if_neg hc1] at hit; exact hit⟩⟩⟩⟩⟩⟩)
    · exact fun v4 v5 v6 v7 I hok hit => by
        rw [jX12_recordO_84] at hok
        exact sX12_record_84 d hT a1 a2 a3   (K12 := fun w4 w5 w6 w7 I_ => (jX12_recordO a1 a2 a3 n 0 w4 w5 w6 w7 I_ ∧ jX12_recordI a1 a2 a3 n 0 w4 w5 w6 w7 I_ = R)) (K84 := fun w4 w5 w6 w7 I_ => (jX12_recordO a1 a2 a3 n 1 w4 w5 w6 w7 I_ ∧ jX12_recordI a1 a2 a3 n 1 w4 w5 w6 w7 I_ = R)) (fun w4 w5 w6 w7 I_ hw => ih.1 w4 w5 w6 w7 I_ hw.1 hw.2) (fun w4 w5 w6 w7 I_ hw => ih.2 w4 w5 w6 w7 I_ hw.1 hw.2) v4 v5 v6 v7 I (by
          unfold fX12_record_84
          exact ⟨fun hc1 => ⟨((hok).1 hc1).1, ⟨(((hok).1 hc1).2).1, ⟨((((hok).1 hc1).2).2).1, ⟨(((((hok).1 hc1).2).2).2).1, ⟨((((((hok).1 hc1).2).2).2).2).1, ⟨(((((((hok).1 hc1).2).2).2).2).2).1, ⟨(((((((hok).1 hc1).2).2).2).2).2).2, ⟨rfl, by rw [jX12_recordI_84, if_pos hc1] at hit; exact hit⟩⟩⟩⟩⟩⟩⟩⟩, fun hc1 => ⟨((hok).2 hc1).1, ⟨fun hc2 => ⟨((((hok).2 hc1).2).1 hc2).1, ⟨(((((hok).2 hc1).2).1 hc2).2).1, ⟨((((((hok).2 hc1).2).1 hc2).2).2).1, ⟨(((((((hok).2 hc1).2).1 hc2).2).2).2).1, ⟨((((((((hok).2 hc1).2).1 hc2).2).2).2).2).1, ⟨(((((((((hok).2 hc1).2).1 hc2).2).2).2).2).2).1, ⟨(((((((((hok).2 hc1).2).1 hc2).2).2).2).2).2).2, ⟨rfl, by rw [jX12_recordI_84, if_neg hc1, if_pos hc2] at hit; exact hit⟩⟩⟩⟩⟩⟩⟩⟩, fun hc2 => ⟨((((hok).2 hc1).2).2 hc2).1, ⟨(((((hok).2 hc1).2).2 hc2).2).1, ⟨((((((hok).2 hc1).2).2 hc2).2).2).1, ⟨(((((((hok).2 hc1).2).2 hc2).2).2).2).1, ⟨((((((((hok).2 hc1).2).2 hc2).2).2).2).2).1, ⟨(((((((((hok).2 hc1).2).2 hc2).2).2).2).2).2).1, ⟨((((((((((hok).2 hc1).2).2 hc2).2).2).2).2).2).2).1, ⟨(((((((((((hok).2 hc1).2).2 hc2).2).2).2).2).2).2).2).1, ⟨((((((((((((hok).2 hc1).2).2 hc2).2).2).2).2).2).2).2).2).1, ⟨(((((((((((((hok).2 hc1).2).2 hc2).2).2).2).2).2).2).2).2).2).1, ⟨(((((((((((((hok).2 hc1).2).2 hc2).2).2).2).2).2).2).2).2).2).2, by rw [jX12_recordI_84, if_neg hc1, if_neg hc2] at hit; exact hit⟩⟩⟩⟩⟩⟩⟩⟩⟩⟩⟩⟩⟩⟩)
set_option maxRecDepth 10000 in
set_option maxHeartbeats 1000000 in
theorem qX12_record (d : Nat) {T : Topo} {I : IM} (hT : Lay T) (a1 : Int32) (a2 : Int32) (a3 : Int32)  (hp : (jX12_recordK I a1 a2 a3)) : CtV (d + 1) mX12_record [.ref 79, .int a1, .int a2, .int a3] T I (fun J_ => J_ = (jX12_record I a1 a2 a3)) := by
  unfold jX12_recordK at hp
  exact Ct.ofJ (by decide +kernel) rfl (by intro v hv; revert v hv; simp [Value.category]) rfl (sX12_record_0 d hT a1 a2 a3   (K12 := fun w4 w5 w6 w7 I_ => (jX12_recordO a1 a2 a3 FU 0 w4 w5 w6 w7 I_ ∧ jX12_recordI a1 a2 a3 FU 0 w4 w5 w6 w7 I_ = (jX12_record I a1 a2 a3))) (K84 := fun w4 w5 w6 w7 I_ => (jX12_recordO a1 a2 a3 FU 1 w4 w5 w6 w7 I_ ∧ jX12_recordI a1 a2 a3 FU 1 w4 w5 w6 w7 I_ = (jX12_record I a1 a2 a3))) (fun w4 w5 w6 w7 I_ hw => (uX12_record d hT a1 a2 a3   FU).1 w4 w5 w6 w7 I_ hw.1 hw.2) (fun w4 w5 w6 w7 I_ hw => (uX12_record d hT a1 a2 a3   FU).2 w4 w5 w6 w7 I_ hw.1 hw.2) I (by
    unfold fX12_record_0
    exact ⟨hp, rfl⟩))

def fX12_gather_0 (T : Topo) (a1 : Int32) (a2 : Int32) (a3 : Int32) (Q : Topo → IM → Prop) (K29 : Int32 → Int32 → IM → Prop) (I : IM) : Prop :=
  (vp_in a1 9 ∧ (vp_in 0 6 ∧ (vp_in 0 6 ∧ K29 0 ((1 : Int32) <<< (a2 &&& 31)) (up2 (up2 (up2 I 115 a1.toNatClampNeg 0) 121 (0 : Int32).toNatClampNeg a2) 122 (0 : Int32).toNatClampNeg 0))))
def fX12_gather_29 (T : Topo) (a1 : Int32) (a2 : Int32) (a3 : Int32) (Q : Topo → IM → Prop) (K29 : Int32 → Int32 → IM → Prop) (v4 v5 : Int32) (I : IM) : Prop :=
  (((v4 < 0) → Q T I) ∧ ((¬ v4 < 0) → (vp_in v4 6 ∧ (((¬ (I 122 v4.toNatClampNeg) = (I 79 1)) → (vp_in v4 6 ∧ (vp_in v4 6 ∧ (vp_in (I 122 v4.toNatClampNeg) 9 ∧ (vp_in v4 6 ∧ (((¬ (I 81 (I 122 v4.toNatClampNeg).toNatClampNeg) = (I 121 v4.toNatClampNeg)) → (vp_in (I 122 v4.toNatClampNeg) 9 ∧ (vp_in v4 6 ∧ (((¬ (I 82 (I 122 v4.toNatClampNeg).toNatClampNeg) = (I 121 v4.toNatClampNeg)) → K29 v4 v5 (up2 I 122 v4.toNatClampNeg ((I 122 v4.toNatClampNeg) + 1))) ∧ (((I 82 (I 122 v4.toNatClampNeg).toNatClampNeg) = (I 121 v4.toNatClampNeg)) → (vp_in (I 122 v4.toNatClampNeg) 9 ∧ ((((I 81 (I 122 v4.toNatClampNeg).toNatClampNeg) < 0) → K29 v4 v5 (up2 I 122 v4.toNatClampNeg ((I 122 v4.toNatClampNeg) + 1))) ∧ ((¬ (I 81 (I 122 v4.toNatClampNeg).toNatClampNeg) < 0) → ((((¬ (hs v5 (I 81 (I 122 v4.toNatClampNeg).toNatClampNeg))) → (vp_in v4 6 ∧ (((¬ (I 81 (I 122 v4.toNatClampNeg).toNatClampNeg) = a3) → (vp_in (v4 + 1) 6 ∧ (vp_in (v4 + 1) 6 ∧ K29 (v4 + 1) (v5 ||| ((1 : Int32) <<< ((I 81 (I 122 v4.toNatClampNeg).toNatClampNeg) &&& 31))) (up2 (up2 (up2 (up2 I 122 v4.toNatClampNeg ((I 122 v4.toNatClampNeg) + 1)) 123 v4.toNatClampNeg (I 122 v4.toNatClampNeg)) 121 (v4 + 1).toNatClampNeg (I 81 (I 122 v4.toNatClampNeg).toNatClampNeg)) 122 (v4 + 1).toNatClampNeg 0)))) ∧ (((I 81 (I 122 v4.toNatClampNeg).toNatClampNeg) = a3) → (((jX12_recordK (up2 (up2 I 122 v4.toNatClampNeg ((I 122 v4.toNatClampNeg) + 1)) 123 v4.toNatClampNeg (I 122 v4.toNatClampNeg)) a1 (v4 + 1) (v5 ||| ((1 : Int32) <<< (a3 &&& 31))))) ∧ K29 v4 v5 (jX12_record (up2 (up2 I 122 v4.toNatClampNeg ((I 122 v4.toNatClampNeg) + 1)) 123 v4.toNatClampNeg (I 122 v4.toNatClampNeg)) a1 (v4 + 1) (v5 ||| ((1 : Int32) <<< (a3 &&& 31))))))))) ∧ ((hs v5 (I 81 (I 122 v4.toNatClampNeg).toNatClampNeg)) → K29 v4 v5 (up2 I 122 v4.toNatClampNeg ((I 122 v4.toNatClampNeg) + 1))))))))))))) ∧ (((I 81 (I 122 v4.toNatClampNeg).toNatClampNeg) = (I 121 v4.toNatClampNeg)) → (vp_in (I 122 v4.toNatClampNeg) 9 ∧ ((((I 82 (I 122 v4.toNatClampNeg).toNatClampNeg) < 0) → K29 v4 v5 (up2 I 122 v4.toNatClampNeg ((I 122 v4.toNatClampNeg) + 1))) ∧ ((¬ (I 82 (I 122 v4.toNatClampNeg).toNatClampNeg) < 0) → ((((¬ (hs v5 (I 82 (I 122 v4.toNatClampNeg).toNatClampNeg))) → (vp_in v4 6 ∧ (((¬ (I 82 (I 122 v4.toNatClampNeg).toNatClampNeg) = a3) → (vp_in (v4 + 1) 6 ∧ (vp_in (v4 + 1) 6 ∧ K29 (v4 + 1) (v5 ||| ((1 : Int32) <<< ((I 82 (I 122 v4.toNatClampNeg).toNatClampNeg) &&& 31))) (up2 (up2 (up2 (up2 I 122 v4.toNatClampNeg ((I 122 v4.toNatClampNeg) + 1)) 123 v4.toNatClampNeg (I 122 v4.toNatClampNeg)) 121 (v4 + 1).toNatClampNeg (I 82 (I 122 v4.toNatClampNeg).toNatClampNeg)) 122 (v4 + 1).toNatClampNeg 0)))) ∧ (((I 82 (I 122 v4.toNatClampNeg).toNatClampNeg) = a3) → (((jX12_recordK (up2 (up2 I 122 v4.toNatClampNeg ((I 122 v4.toNatClampNeg) + 1)) 123 v4.toNatClampNeg (I 122 v4.toNatClampNeg)) a1 (v4 + 1) (v5 ||| ((1 : Int32) <<< (a3 &&& 31))))) ∧ K29 v4 v5 (jX12_record (up2 (up2 I 122 v4.toNatClampNeg ((I 122 v4.toNatClampNeg) + 1)) 123 v4.toNatClampNeg (I 122 v4.toNatClampNeg)) a1 (v4 + 1) (v5 ||| ((1 : Int32) <<< (a3 &&& 31))))))))) ∧ ((hs v5 (I 82 (I 122 v4.toNatClampNeg).toNatClampNeg)) → K29 v4 v5 (up2 I 122 v4.toNatClampNeg ((I 122 v4.toNatClampNeg) + 1))))))))))))))) ∧ (((I 122 v4.toNatClampNeg) = (I 79 1)) → (vp_in v4 6 ∧ K29 (v4 + (-1)) (v5 &&& (((1 : Int32) <<< ((I 121 v4.toNatClampNeg) &&& 31)) ^^^ (-1))) I))))))
set_option maxHeartbeats 4000000 in
set_option maxRecDepth 100000 in
theorem sX12_gather_0 (d : Nat) {T : Topo} (hT : Lay T) (a1 : Int32) (a2 : Int32) (a3 : Int32)    {Q : Topo → IM → Prop} {K29 : Int32 → Int32 → IM → Prop} (hK29 : ∀ (v4 v5 : Int32) (I : IM), K29 v4 v5 I → J (d + 2) mX12_gather (PV Q) 0 0 29 [some (.ref 79), some (.int a1), none, some (.int a3), some (.int v4), some (.int v5), none, none] [] T I 0 0) (I : IM) (h : fX12_gather_0 T a1 a2 a3 Q K29 I) : J (d + 2) mX12_gather (PV Q) 0 0 0 [some (.ref 79), some (.int a1), some (.int a2), some (.int a3), none, none, none, none] [] T I 0 0 := by
  unfold fX12_gather_0 at h
  refine J.aload_n dX12_gather_0 rfl rfl ?_
  refine J.getR (r := 115) dX12_gather_1 fX12_120 (hT.k 79 rfl) rfl (hT.r 79 44 rfl rfl) ?_
  refine J.iload_n dX12_gather_4 rfl rfl ?_
  refine J.iconst (v := 0) dX12_gather_5 (by decide) ?_
  obtain ⟨hs1, h⟩ := h
  refine J.iast dX12_gather_6 (hT.k 115 rfl) (hT.l 115 rfl) hs1 ?_
  refine J.iconst (v := 0) dX12_gather_7 (by decide) ?_
  refine J.istore (ls' := [some (.ref 79), some (.int a1), some (.int a2), some (.int a3), some (.int 0), none, none, none]) dX12_gather_8 rfl rfl ?_
  refine J.iconst (v := 1) dX12_gather_10 (by decide) ?_
  refine J.iload_n dX12_gather_11 rfl rfl ?_
  refine J.ishl dX12_gather_12 ?_
  refine J.istore (ls' := [some (.ref 79), some (.int a1), some (.int a2), some (.int a3), some (.int 0), some (.int ((1 : Int32) <<< (a2 &&& 31))), none, none]) dX12_gather_13 rfl rfl ?_
  refine J.aload_n dX12_gather_15 rfl rfl ?_
  refine J.atpc (pc' := 16) rfl ?_
  refine J.getR (r := 121) dX12_gather_16 fX12_138 (hT.k 79 rfl) rfl (hT.r 79 50 rfl rfl) ?_
  refine J.iconst (v := 0) dX12_gather_19 (by decide) ?_
  refine J.iload_n dX12_gather_20 rfl rfl ?_
  obtain ⟨hs2, h⟩ := h
  refine J.iast dX12_gather_21 (hT.k 121 rfl) (hT.l 121 rfl) hs2 ?_
  refine J.aload_n dX12_gather_22 rfl rfl ?_
  refine J.getR (r := 122) dX12_gather_23 fX12_141 (hT.k 79 rfl) rfl (hT.r 79 51 rfl rfl) ?_
  refine J.iconst (v := 0) dX12_gather_26 (by decide) ?_
  refine J.iconst (v := 0) dX12_gather_27 (by decide) ?_
  obtain ⟨hs3, h⟩ := h
  refine J.iast dX12_gather_28 (hT.k 122 rfl) (hT.l 122 rfl) hs3 ?_
  exact J.weaken (ls' := [some (.ref 79), some (.int a1), none, some (.int a3), some (.int 0), some (.int ((1 : Int32) <<< (a2 &&& 31))), none, none]) (And.intro rfl (And.intro rfl (And.intro rfl (And.intro rfl (And.intro rfl trivial))))) (hK29 0 ((1 : Int32) <<< (a2 &&& 31)) (up2 (up2 (up2 I 115 a1.toNatClampNeg 0) 121 (0 : Int32).toNatClampNeg a2) 122 (0 : Int32).toNatClampNeg 0) h)
set_option maxHeartbeats 4000000 in
set_option maxRecDepth 100000 in
theorem sX12_gather_29 (d : Nat) {T : Topo} (hT : Lay T) (a1 : Int32) (a2 : Int32) (a3 : Int32)    {Q : Topo → IM → Prop} {K29 : Int32 → Int32 → IM → Prop} (hK29 : ∀ (v4 v5 : Int32) (I : IM), K29 v4 v5 I → J (d + 2) mX12_gather (PV Q) 0 0 29 [some (.ref 79), some (.int a1), none, some (.int a3), some (.int v4), some (.int v5), none, none] [] T I 0 0) (v4 v5 : Int32) (I : IM) (h : fX12_gather_29 T a1 a2 a3 Q K29 v4 v5 I) : J (d + 2) mX12_gather (PV Q) 0 0 29 [some (.ref 79), some (.int a1), none, some (.int a3), some (.int v4), some (.int v5), none, none] [] T I 0 0 := by
  unfold fX12_gather_29 at h
  refine J.iload dX12_gather_29 rfl ?_
  refine J.if_lt (tgt := 225) dX12_gather_31 (by decide) (fun hc1 => ?_) (fun hc1 => ?_)
  · have h := h.1 hc1
    exact J.vretQ dX12_gather_225 rfl (Nat.le_refl _) (Nat.le_refl _) h
  · have h := h.2 hc1
    refine J.aload_n dX12_gather_34 rfl rfl ?_
    refine J.getR (r := 122) dX12_gather_35 fX12_141 (hT.k 79 rfl) rfl (hT.r 79 51 rfl rfl) ?_
    refine J.iload dX12_gather_38 rfl ?_
    obtain ⟨hs2, h⟩ := h
    refine J.iald dX12_gather_40 (hT.k 122 rfl) (hT.l 122 rfl) hs2 ?_
    refine J.istore (ls' := [some (.ref 79), some (.int a1), none, some (.int a3), some (.int v4), some (.int v5), some (.int (I 122 v4.toNatClampNeg)), none]) dX12_gather_41 rfl rfl ?_
    refine J.iload dX12_gather_43 rfl ?_
    refine J.aload_n dX12_gather_45 rfl rfl ?_
    refine J.getI dX12_gather_46 fX12_193 (hT.k 79 rfl) rfl ?_
    refine J.icmp_ne (tgt := 74) dX12_gather_49 (by decide) (fun hc3 => ?_) (fun hc3 => ?_)
    · have h := h.1 hc3
      refine J.aload_n dX12_gather_74 rfl rfl ?_
      refine J.getR (r := 122) dX12_gather_75 fX12_141 (hT.k 79 rfl) rfl (hT.r 79 51 rfl rfl) ?_
      refine J.iload dX12_gather_78 rfl ?_
      refine J.dup2 dX12_gather_80 rfl rfl ?_
      obtain ⟨hs4, h⟩ := h
      refine J.iald dX12_gather_81 (hT.k 122 rfl) (hT.l 122 rfl) hs4 ?_
      refine J.iconst (v := 1) dX12_gather_82 (by decide) ?_
      refine J.iadd dX12_gather_83 ?_
      obtain ⟨hs5, h⟩ := h
      refine J.iast dX12_gather_84 (hT.k 122 rfl) (hT.l 122 rfl) hs5 ?_
      refine J.aload_n dX12_gather_85 rfl rfl ?_
      refine J.getR (r := 81) dX12_gather_86 fX12_17 (hT.k 79 rfl) rfl (hT.r 79 10 rfl rfl) ?_
      refine J.iload dX12_gather_89 rfl ?_
      obtain ⟨hs6, h⟩ := h
      refine J.iald dX12_gather_91 (hT.k 81 rfl) (hT.l 81 rfl) hs6 ?_
      refine J.topEq (y := (I 81 (I 122 v4.toNatClampNeg).toNatClampNeg)) (up2_o _ _ _ _ (by decide)) ?_
      refine J.aload_n dX12_gather_92 rfl rfl ?_
      refine J.getR (r := 121) dX12_gather_93 fX12_138 (hT.k 79 rfl) rfl (hT.r 79 50 rfl rfl) ?_
      refine J.iload dX12_gather_96 rfl ?_
      obtain ⟨hs7, h⟩ := h
      refine J.iald dX12_gather_98 (hT.k 121 rfl) (hT.l 121 rfl) hs7 ?_
      refine J.topEq (y := (I 121 v4.toNatClampNeg)) (up2_o _ _ _ _ (by decide)) ?_
      refine J.icmp_ne (tgt := 112) dX12_gather_99 (by decide) (fun hc8 => ?_) (fun hc8 => ?_)
      · have h := h.1 hc8
        refine J.aload_n dX12_gather_112 rfl rfl ?_
        refine J.getR (r := 82) dX12_gather_113 fX12_20 (hT.k 79 rfl) rfl (hT.r 79 11 rfl rfl) ?_
        refine J.iload dX12_gather_116 rfl ?_
        obtain ⟨hs9, h⟩ := h
        refine J.iald dX12_gather_118 (hT.k 82 rfl) (hT.l 82 rfl) hs9 ?_
        refine J.topEq (y := (I 82 (I 122 v4.toNatClampNeg).toNatClampNeg)) (up2_o _ _ _ _ (by decide)) ?_
        refine J.aload_n dX12_gather_119 rfl rfl ?_
        refine J.getR (r := 121) dX12_gather_120 fX12_138 (hT.k 79 rfl) rfl (hT.r 79 50 rfl rfl) ?_
        refine J.iload dX12_gather_123 rfl ?_
        obtain ⟨hs10, h⟩ := h
        refine J.iald dX12_gather_125 (hT.k 121 rfl) (hT.l 121 rfl) hs10 ?_
        refine J.topEq (y := (I 121 v4.toNatClampNeg)) (up2_o _ _ _ _ (by decide)) ?_
        refine J.icmp_ne (tgt := 139) dX12_gather_126 (by decide) (fun hc11 => ?_) (fun hc11 => ?_)
        · have h := h.1 hc11
          refine J.iconst (v := (-1)) dX12_gather_139 (by decide) ?_
          refine J.istore (ls' := [some (.ref 79), some (.int a1), none, some (.int a3), some (.int v4), some (.int v5), some (.int (I 122 v4.toNatClampNeg)), some (.int (-1))]) dX12_gather_140 rfl rfl ?_
          refine J.iload dX12_gather_142 rfl ?_
          refine J.if_lt (tgt := 29) dX12_gather_144 (by decide) (fun hc => ?_) (fun hc => absurd (by decide) hc)
          exact J.weaken (ls' := [some (.ref 79), some (.int a1), none, some (.int a3), some (.int v4), some (.int v5), none, none]) (And.intro rfl (And.intro rfl (And.intro rfl (And.intro rfl (And.intro rfl trivial))))) (hK29 v4 v5 (up2 I 122 v4.toNatClampNeg ((I 122 v4.toNatClampNeg) + 1)) h)
        · have h := h.2 hc11
          refine J.aload_n dX12_gather_129 rfl rfl ?_
          refine J.getR (r := 81) dX12_gather_130 fX12_17 (hT.k 79 rfl) rfl (hT.r 79 10 rfl rfl) ?_
          refine J.iload dX12_gather_133 rfl ?_
          obtain ⟨hs12, h⟩ := h
          refine J.iald dX12_gather_135 (hT.k 81 rfl) (hT.l 81 rfl) hs12 ?_
          refine J.topEq (y := (I 81 (I 122 v4.toNatClampNeg).toNatClampNeg)) (up2_o _ _ _ _ (by decide)) ?_
          refine J.goto (tgt := 140) dX12_gather_136 (by decide) ?_
          refine J.istore (ls' := [some (.ref 79), some (.int a1), none, some (.int a3), some (.int v4), some (.int v5), some (.int (I 122 v4.toNatClampNeg)), some (.int (I 81 (I 122 v4.toNatClampNeg).toNatClampNeg))]) dX12_gather_140 rfl rfl ?_
          refine J.iload dX12_gather_142 rfl ?_
          refine J.if_lt (tgt := 29) dX12_gather_144 (by decide) (fun hc13 => ?_) (fun hc13 => ?_)
          · have h := h.1 hc13
            exact J.weaken (ls' := [some (.ref 79), some (.int a1), none, some (.int a3), some (.int v4), some (.int v5), none, none]) (And.intro rfl (And.intro rfl (And.intro rfl (And.intro rfl (And.intro rfl trivial))))) (hK29 v4 v5 (up2 I 122 v4.toNatClampNeg ((I 122 v4.toNatClampNeg) + 1)) h)
          · have h := h.2 hc13
            refine J.iload dX12_gather_147 rfl ?_
            refine J.iload dX12_gather_149 rfl ?_
            refine J.callSP (as := [.int v5, .int (I 81 (I 122 v4.toNatClampNeg).toNatClampNeg)]) (rest := []) dX12_gather_151 kX12_has vX12_has lX12_212 rfl rfl rfl (by omega) (Nat.le_refl _) (Nat.le_refl _) (qX12_has (d + 1) hT v5 (I 81 (I 122 v4.toNatClampNeg).toNatClampNeg) ) ?_
            refine J.bz_eq (tgt := 160) dX12_gather_154 (by decide) (fun hc14 => ?_) (fun hc14 => ?_)
            · have h := h.1 hc14
              refine J.aload_n dX12_gather_160 rfl rfl ?_
              refine J.getR (r := 123) dX12_gather_161 fX12_144 (hT.k 79 rfl) rfl (hT.r 79 52 rfl rfl) ?_
              refine J.iload dX12_gather_164 rfl ?_
              refine J.iload dX12_gather_166 rfl ?_
              obtain ⟨hs15, h⟩ := h
              refine J.iast dX12_gather_168 (hT.k 123 rfl) (hT.l 123 rfl) hs15 ?_
              refine J.iload dX12_gather_169 rfl ?_
              refine J.iload_n dX12_gather_171 rfl rfl ?_
              refine J.icmp_ne (tgt := 193) dX12_gather_172 (by decide) (fun hc16 => ?_) (fun hc16 => ?_)
              · have h := h.1 hc16
                refine J.iinc (v := (v4 + 1)) (ls' := [some (.ref 79), some (.int a1), none, some (.int a3), some (.int (v4 + 1)), some (.int v5), some (.int (I 122 v4.toNatClampNeg)), some (.int (I 81 (I 122 v4.toNatClampNeg).toNatClampNeg))]) dX12_gather_193 rfl (by rfl) rfl ?_
                refine J.aload_n dX12_gather_196 rfl rfl ?_
                refine J.getR (r := 121) dX12_gather_197 fX12_138 (hT.k 79 rfl) rfl (hT.r 79 50 rfl rfl) ?_
                refine J.iload dX12_gather_200 rfl ?_
                refine J.iload dX12_gather_202 rfl ?_
                obtain ⟨hs17, h⟩ := h
                refine J.iast dX12_gather_204 (hT.k 121 rfl) (hT.l 121 rfl) hs17 ?_
                refine J.aload_n dX12_gather_205 rfl rfl ?_
                refine J.getR (r := 122) dX12_gather_206 fX12_141 (hT.k 79 rfl) rfl (hT.r 79 51 rfl rfl) ?_
                refine J.iload dX12_gather_209 rfl ?_
                refine J.iconst (v := 0) dX12_gather_211 (by decide) ?_
                obtain ⟨hs18, h⟩ := h
                refine J.iast dX12_gather_212 (hT.k 122 rfl) (hT.l 122 rfl) hs18 ?_
                refine J.iload dX12_gather_213 rfl ?_
                refine J.iconst (v := 1) dX12_gather_215 (by decide) ?_
                refine J.iload dX12_gather_216 rfl ?_
                refine J.ishl dX12_gather_218 ?_
                refine J.ior dX12_gather_219 ?_
                refine J.istore (ls' := [some (.ref 79), some (.int a1), none, some (.int a3), some (.int (v4 + 1)), some (.int (v5 ||| ((1 : Int32) <<< ((I 81 (I 122 v4.toNatClampNeg).toNatClampNeg) &&& 31)))), some (.int (I 122 v4.toNatClampNeg)), some (.int (I 81 (I 122 v4.toNatClampNeg).toNatClampNeg))]) dX12_gather_220 rfl rfl ?_
                refine J.goto (tgt := 29) dX12_gather_222 (by decide) ?_
                exact J.weaken (ls' := [some (.ref 79), some (.int a1), none, some (.int a3), some (.int (v4 + 1)), some (.int (v5 ||| ((1 : Int32) <<< ((I 81 (I 122 v4.toNatClampNeg).toNatClampNeg) &&& 31)))), none, none]) (And.intro rfl (And.intro rfl (And.intro rfl (And.intro rfl (And.intro rfl trivial))))) (hK29 (v4 + 1) (v5 ||| ((1 : Int32) <<< ((I 81 (I 122 v4.toNatClampNeg).toNatClampNeg) &&& 31))) (up2 (up2 (up2 (up2 I 122 v4.toNatClampNeg ((I 122 v4.toNatClampNeg) + 1)) 123 v4.toNatClampNeg (I 122 v4.toNatClampNeg)) 121 (v4 + 1).toNatClampNeg (I 81 (I 122 v4.toNatClampNeg).toNatClampNeg)) 122 (v4 + 1).toNatClampNeg 0) h)
              · have h := h.2 hc16
                refine J.aload_n dX12_gather_175 rfl rfl ?_
                refine J.iload_n dX12_gather_176 rfl rfl ?_
                refine J.iload dX12_gather_177 rfl ?_
                refine J.iconst (v := 1) dX12_gather_179 (by decide) ?_
                refine J.iadd dX12_gather_180 ?_
                refine J.iload dX12_gather_181 rfl ?_
                refine J.iconst (v := 1) dX12_gather_183 (by decide) ?_
                refine J.atpc (pc' := 184) rfl ?_
                refine J.iload_n dX12_gather_184 rfl rfl ?_
                refine J.ishl dX12_gather_185 ?_
                refine J.ior dX12_gather_186 ?_
                obtain ⟨hp19, h⟩ := h
                refine J.callVD (k := 79) (as := [.int a1, .int (v4 + 1), .int (v5 ||| ((1 : Int32) <<< (a3 &&& 31)))]) (rest := []) dX12_gather_187 kX12_record vX12_record lX12_216 (hT.k 79 rfl) rfl rfl rfl rfl rfl (by omega) (Nat.le_refl _) (Nat.le_refl _) (qX12_record (d + 0) hT a1 (v4 + 1) (v5 ||| ((1 : Int32) <<< (a3 &&& 31))) hp19) ?_
                refine J.goto (tgt := 29) dX12_gather_190 (by decide) ?_
                exact J.weaken (ls' := [some (.ref 79), some (.int a1), none, some (.int a3), some (.int v4), some (.int v5), none, none]) (And.intro rfl (And.intro rfl (And.intro rfl (And.intro rfl (And.intro rfl trivial))))) (hK29 v4 v5 (jX12_record (up2 (up2 I 122 v4.toNatClampNeg ((I 122 v4.toNatClampNeg) + 1)) 123 v4.toNatClampNeg (I 122 v4.toNatClampNeg)) a1 (v4 + 1) (v5 ||| ((1 : Int32) <<< (a3 &&& 31)))) h)
            · have h := h.2 hc14
              refine J.goto (tgt := 29) dX12_gather_157 (by decide) ?_
              exact J.weaken (ls' := [some (.ref 79), some (.int a1), none, some (.int a3), some (.int v4), some (.int v5), none, none]) (And.intro rfl (And.intro rfl (And.intro rfl (And.intro rfl (And.intro rfl trivial))))) (hK29 v4 v5 (up2 I 122 v4.toNatClampNeg ((I 122 v4.toNatClampNeg) + 1)) h)
      · have h := h.2 hc8
        refine J.aload_n dX12_gather_102 rfl rfl ?_
        refine J.getR (r := 82) dX12_gather_103 fX12_20 (hT.k 79 rfl) rfl (hT.r 79 11 rfl rfl) ?_
        refine J.iload dX12_gather_106 rfl ?_
        obtain ⟨hs20, h⟩ := h
        refine J.iald dX12_gather_108 (hT.k 82 rfl) (hT.l 82 rfl) hs20 ?_
        refine J.topEq (y := (I 82 (I 122 v4.toNatClampNeg).toNatClampNeg)) (up2_o _ _ _ _ (by decide)) ?_
        refine J.goto (tgt := 140) dX12_gather_109 (by decide) ?_
        refine J.istore (ls' := [some (.ref 79), some (.int a1), none, some (.int a3), some (.int v4), some (.int v5), some (.int (I 122 v4.toNatClampNeg)), some (.int (I 82 (I 122 v4.toNatClampNeg).toNatClampNeg))]) dX12_gather_140 rfl rfl ?_
        refine J.iload dX12_gather_142 rfl ?_
        refine J.if_lt (tgt := 29) dX12_gather_144 (by decide) (fun hc21 => ?_) (fun hc21 => ?_)
        · have h := h.1 hc21
          exact J.weaken (ls' := [some (.ref 79), some (.int a1), none, some (.int a3), some (.int v4), some (.int v5), none, none]) (And.intro rfl (And.intro rfl (And.intro rfl (And.intro rfl (And.intro rfl trivial))))) (hK29 v4 v5 (up2 I 122 v4.toNatClampNeg ((I 122 v4.toNatClampNeg) + 1)) h)
        · have h := h.2 hc21
          refine J.iload dX12_gather_147 rfl ?_
          refine J.iload dX12_gather_149 rfl ?_
          refine J.callSP (as := [.int v5, .int (I 82 (I 122 v4.toNatClampNeg).toNatClampNeg)]) (rest := []) dX12_gather_151 kX12_has vX12_has lX12_212 rfl rfl rfl (by omega) (Nat.le_refl _) (Nat.le_refl _) (qX12_has (d + 1) hT v5 (I 82 (I 122 v4.toNatClampNeg).toNatClampNeg) ) ?_
          refine J.bz_eq (tgt := 160) dX12_gather_154 (by decide) (fun hc22 => ?_) (fun hc22 => ?_)
          · have h := h.1 hc22
            refine J.aload_n dX12_gather_160 rfl rfl ?_
            refine J.getR (r := 123) dX12_gather_161 fX12_144 (hT.k 79 rfl) rfl (hT.r 79 52 rfl rfl) ?_
            refine J.iload dX12_gather_164 rfl ?_
            refine J.iload dX12_gather_166 rfl ?_
            obtain ⟨hs23, h⟩ := h
            refine J.iast dX12_gather_168 (hT.k 123 rfl) (hT.l 123 rfl) hs23 ?_
            refine J.iload dX12_gather_169 rfl ?_
            refine J.iload_n dX12_gather_171 rfl rfl ?_
            refine J.icmp_ne (tgt := 193) dX12_gather_172 (by decide) (fun hc24 => ?_) (fun hc24 => ?_)
            · have h := h.1 hc24
              refine J.iinc (v := (v4 + 1)) (ls' := [some (.ref 79), some (.int a1), none, some (.int a3), some (.int (v4 + 1)), some (.int v5), some (.int (I 122 v4.toNatClampNeg)), some (.int (I 82 (I 122 v4.toNatClampNeg).toNatClampNeg))]) dX12_gather_193 rfl (by rfl) rfl ?_
              refine J.aload_n dX12_gather_196 rfl rfl ?_
              refine J.getR (r := 121) dX12_gather_197 fX12_138 (hT.k 79 rfl) rfl (hT.r 79 50 rfl rfl) ?_
              refine J.iload dX12_gather_200 rfl ?_
              refine J.iload dX12_gather_202 rfl ?_
              obtain ⟨hs25, h⟩ := h
              refine J.iast dX12_gather_204 (hT.k 121 rfl) (hT.l 121 rfl) hs25 ?_
              refine J.aload_n dX12_gather_205 rfl rfl ?_
              refine J.getR (r := 122) dX12_gather_206 fX12_141 (hT.k 79 rfl) rfl (hT.r 79 51 rfl rfl) ?_
              refine J.iload dX12_gather_209 rfl ?_
              refine J.iconst (v := 0) dX12_gather_211 (by decide) ?_
              obtain ⟨hs26, h⟩ := h
              refine J.iast dX12_gather_212 (hT.k 122 rfl) (hT.l 122 rfl) hs26 ?_
              refine J.iload dX12_gather_213 rfl ?_
              refine J.iconst (v := 1) dX12_gather_215 (by decide) ?_
              refine J.iload dX12_gather_216 rfl ?_
              refine J.ishl dX12_gather_218 ?_
              refine J.ior dX12_gather_219 ?_
              refine J.istore (ls' := [some (.ref 79), some (.int a1), none, some (.int a3), some (.int (v4 + 1)), some (.int (v5 ||| ((1 : Int32) <<< ((I 82 (I 122 v4.toNatClampNeg).toNatClampNeg) &&& 31)))), some (.int (I 122 v4.toNatClampNeg)), some (.int (I 82 (I 122 v4.toNatClampNeg).toNatClampNeg))]) dX12_gather_220 rfl rfl ?_
              refine J.goto (tgt := 29) dX12_gather_222 (by decide) ?_
              exact J.weaken (ls' := [some (.ref 79), some (.int a1), none, some (.int a3), some (.int (v4 + 1)), some (.int (v5 ||| ((1 : Int32) <<< ((I 82 (I 122 v4.toNatClampNeg).toNatClampNeg) &&& 31)))), none, none]) (And.intro rfl (And.intro rfl (And.intro rfl (And.intro rfl (And.intro rfl trivial))))) (hK29 (v4 + 1) (v5 ||| ((1 : Int32) <<< ((I 82 (I 122 v4.toNatClampNeg).toNatClampNeg) &&& 31))) (up2 (up2 (up2 (up2 I 122 v4.toNatClampNeg ((I 122 v4.toNatClampNeg) + 1)) 123 v4.toNatClampNeg (I 122 v4.toNatClampNeg)) 121 (v4 + 1).toNatClampNeg (I 82 (I 122 v4.toNatClampNeg).toNatClampNeg)) 122 (v4 + 1).toNatClampNeg 0) h)
            · have h := h.2 hc24
              refine J.aload_n dX12_gather_175 rfl rfl ?_
              refine J.iload_n dX12_gather_176 rfl rfl ?_
              refine J.iload dX12_gather_177 rfl ?_
              refine J.iconst (v := 1) dX12_gather_179 (by decide) ?_
              refine J.iadd dX12_gather_180 ?_
              refine J.iload dX12_gather_181 rfl ?_
              refine J.iconst (v := 1) dX12_gather_183 (by decide) ?_
              refine J.atpc (pc' := 184) rfl ?_
              refine J.iload_n dX12_gather_184 rfl rfl ?_
              refine J.ishl dX12_gather_185 ?_
              refine J.ior dX12_gather_186 ?_
              obtain ⟨hp27, h⟩ := h
              refine J.callVD (k := 79) (as := [.int a1, .int (v4 + 1), .int (v5 ||| ((1 : Int32) <<< (a3 &&& 31)))]) (rest := []) dX12_gather_187 kX12_record vX12_record lX12_216 (hT.k 79 rfl) rfl rfl rfl rfl rfl (by omega) (Nat.le_refl _) (Nat.le_refl _) (qX12_record (d + 0) hT a1 (v4 + 1) (v5 ||| ((1 : Int32) <<< (a3 &&& 31))) hp27) ?_
              refine J.goto (tgt := 29) dX12_gather_190 (by decide) ?_
              exact J.weaken (ls' := [some (.ref 79), some (.int a1), none, some (.int a3), some (.int v4), some (.int v5), none, none]) (And.intro rfl (And.intro rfl (And.intro rfl (And.intro rfl (And.intro rfl trivial))))) (hK29 v4 v5 (jX12_record (up2 (up2 I 122 v4.toNatClampNeg ((I 122 v4.toNatClampNeg) + 1)) 123 v4.toNatClampNeg (I 122 v4.toNatClampNeg)) a1 (v4 + 1) (v5 ||| ((1 : Int32) <<< (a3 &&& 31)))) h)
          · have h := h.2 hc22
            refine J.goto (tgt := 29) dX12_gather_157 (by decide) ?_
            exact J.weaken (ls' := [some (.ref 79), some (.int a1), none, some (.int a3), some (.int v4), some (.int v5), none, none]) (And.intro rfl (And.intro rfl (And.intro rfl (And.intro rfl (And.intro rfl trivial))))) (hK29 v4 v5 (up2 I 122 v4.toNatClampNeg ((I 122 v4.toNatClampNeg) + 1)) h)
    · have h := h.2 hc3
      refine J.iload dX12_gather_52 rfl ?_
      refine J.iconst (v := 1) dX12_gather_54 (by decide) ?_
      refine J.aload_n dX12_gather_55 rfl rfl ?_
      refine J.getR (r := 121) dX12_gather_56 fX12_138 (hT.k 79 rfl) rfl (hT.r 79 50 rfl rfl) ?_
      refine J.iload dX12_gather_59 rfl ?_
      obtain ⟨hs28, h⟩ := h
      refine J.iald dX12_gather_61 (hT.k 121 rfl) (hT.l 121 rfl) hs28 ?_
      refine J.ishl dX12_gather_62 ?_
      refine J.iconst (v := (-1)) dX12_gather_63 (by decide) ?_
      refine J.ixor dX12_gather_64 ?_
      refine J.iand dX12_gather_65 ?_
      refine J.istore (ls' := [some (.ref 79), some (.int a1), none, some (.int a3), some (.int v4), some (.int (v5 &&& (((1 : Int32) <<< ((I 121 v4.toNatClampNeg) &&& 31)) ^^^ (-1)))), some (.int (I 122 v4.toNatClampNeg)), none]) dX12_gather_66 rfl rfl ?_
      refine J.iinc (v := (v4 + (-1))) (ls' := [some (.ref 79), some (.int a1), none, some (.int a3), some (.int (v4 + (-1))), some (.int (v5 &&& (((1 : Int32) <<< ((I 121 v4.toNatClampNeg) &&& 31)) ^^^ (-1)))), some (.int (I 122 v4.toNatClampNeg)), none]) dX12_gather_68 rfl (by rfl) rfl ?_
      refine J.goto (tgt := 29) dX12_gather_71 (by decide) ?_
      exact J.weaken (ls' := [some (.ref 79), some (.int a1), none, some (.int a3), some (.int (v4 + (-1))), some (.int (v5 &&& (((1 : Int32) <<< ((I 121 v4.toNatClampNeg) &&& 31)) ^^^ (-1)))), none, none]) (And.intro rfl (And.intro rfl (And.intro rfl (And.intro rfl (And.intro rfl trivial))))) (hK29 (v4 + (-1)) (v5 &&& (((1 : Int32) <<< ((I 121 v4.toNatClampNeg) &&& 31)) ^^^ (-1))) I h)
set_option maxHeartbeats 4000000 in
set_option maxRecDepth 100000 in
theorem wX12_gather (d : Nat) {T : Topo} (hT : Lay T) (a1 : Int32) (a2 : Int32) (a3 : Int32)   {Q : Topo → IM → Prop} (V29 : Int32 → Int32 → IM → Prop) (μ29 : Int32 → Int32 → IM → Nat) (vc29 : ∀ (v4 v5 : Int32) (I : IM), V29 v4 v5 I → fX12_gather_29 T a1 a2 a3 Q (fun w4 w5 I_ => V29 w4 w5 I_ ∧ μ29 w4 w5 I_ < μ29 v4 v5 I) v4 v5 I) {I : IM} (h : fX12_gather_0 T a1 a2 a3 Q V29 I) : Ct (d + 2) mX12_gather [.ref 79, .int a1, .int a2, .int a3] T I 0 0 (PV Q) := by
  have all : ∀ n : Nat, (∀ (v4 v5 : Int32) (I : IM), V29 v4 v5 I → μ29 v4 v5 I < n → J (d + 2) mX12_gather (PV Q) 0 0 29 [some (.ref 79), some (.int a1), none, some (.int a3), some (.int v4), some (.int v5), none, none] [] T I 0 0) := by
    intro n
    induction n with
    | zero => exact fun _ _ _ _ hn => absurd hn (Nat.not_lt_zero _)
    | succ n ih =>
      exact fun v4 v5 I hv hn => sX12_gather_29 d hT a1 a2 a3   (fun w4 w5 I_ hw => ih w4 w5 I_ hw.1 (by have := hw.2; omega)) v4 v5 I (vc29 v4 v5 I hv)
  exact Ct.ofJ (by decide +kernel) rfl (by intro v hv; revert v hv; simp [Value.category]) rfl (sX12_gather_0 d hT a1 a2 a3   (fun w4 w5 I_ hw => (all (μ29 w4 w5 I_ + 1)) w4 w5 I_ hw (Nat.lt_succ_self _)) I h)

def jX12_gatherI (a1 : Int32) (a2 : Int32) (a3 : Int32) : Nat → Int32 → Int32 → IM → IM
  | 0 => fun _ _ I => I
  | n + 1 => fun v4 v5 I => (if v4 < 0 then I else (if (I 122 v4.toNatClampNeg) = (I 79 1) then (jX12_gatherI a1 a2 a3 n (v4 + (-1)) (v5 &&& (((1 : Int32) <<< ((I 121 v4.toNatClampNeg) &&& 31)) ^^^ (-1))) I) else (if (I 81 (I 122 v4.toNatClampNeg).toNatClampNeg) = (I 121 v4.toNatClampNeg) then (if (I 82 (I 122 v4.toNatClampNeg).toNatClampNeg) < 0 then (jX12_gatherI a1 a2 a3 n v4 v5 (up2 I 122 v4.toNatClampNeg ((I 122 v4.toNatClampNeg) + 1))) else (if hs v5 (I 82 (I 122 v4.toNatClampNeg).toNatClampNeg) then (jX12_gatherI a1 a2 a3 n v4 v5 (up2 I 122 v4.toNatClampNeg ((I 122 v4.toNatClampNeg) + 1))) else (if (I 82 (I 122 v4.toNatClampNeg).toNatClampNeg) = a3 then (jX12_gatherI a1 a2 a3 n v4 v5 (jX12_record (up2 (up2 I 122 v4.toNatClampNeg ((I 122 v4.toNatClampNeg) + 1)) 123 v4.toNatClampNeg (I 122 v4.toNatClampNeg)) a1 (v4 + 1) (v5 ||| ((1 : Int32) <<< (a3 &&& 31))))) else (jX12_gatherI a1 a2 a3 n (v4 + 1) (v5 ||| ((1 : Int32) <<< ((I 82 (I 122 v4.toNatClampNeg).toNatClampNeg) &&& 31))) (up2 (up2 (up2 (up2 I 122 v4.toNatClampNeg ((I 122 v4.toNatClampNeg) + 1)) 123 v4.toNatClampNeg (I 122 v4.toNatClampNeg)) 121 (v4 + 1).toNatClampNeg (I 82 (I 122 v4.toNatClampNeg).toNatClampNeg)) 122 (v4 + 1).toNatClampNeg 0))))) else (if (I 82 (I 122 v4.toNatClampNeg).toNatClampNeg) = (I 121 v4.toNatClampNeg) then (if (I 81 (I 122 v4.toNatClampNeg).toNatClampNeg) < 0 then (jX12_gatherI a1 a2 a3 n v4 v5 (up2 I 122 v4.toNatClampNeg ((I 122 v4.toNatClampNeg) + 1))) else (if hs v5 (I 81 (I 122 v4.toNatClampNeg).toNatClampNeg) then (jX12_gatherI a1 a2 a3 n v4 v5 (up2 I 122 v4.toNatClampNeg ((I 122 v4.toNatClampNeg) + 1))) else (if (I 81 (I 122 v4.toNatClampNeg).toNatClampNeg) = a3 then (jX12_gatherI a1 a2 a3 n v4 v5 (jX12_record (up2 (up2 I 122 v4.toNatClampNeg ((I 122 v4.toNatClampNeg) + 1)) 123 v4.toNatClampNeg (I 122 v4.toNatClampNeg)) a1 (v4 + 1) (v5 ||| ((1 : Int32) <<< (a3 &&& 31))))) else (jX12_gatherI a1 a2 a3 n (v4 + 1) (v5 ||| ((1 : Int32) <<< ((I 81 (I 122 v4.toNatClampNeg).toNatClampNeg) &&& 31))) (up2 (up2 (up2 (up2 I 122 v4.toNatClampNeg ((I 122 v4.toNatClampNeg) + 1)) 123 v4.toNatClampNeg (I 122 v4.toNatClampNeg)) 121 (v4 + 1).toNatClampNeg (I 81 (I 122 v4.toNatClampNeg).toNatClampNeg)) 122 (v4 + 1).toNatClampNeg 0))))) else (jX12_gatherI a1 a2 a3 n v4 v5 (up2 I 122 v4.toNatClampNeg ((I 122 v4.toNatClampNeg) + 1)))))))
def jX12_gatherO (a1 : Int32) (a2 : Int32) (a3 : Int32) : Nat → Int32 → Int32 → IM → Prop
  | 0 => fun _ _ _ => False
  | n + 1 => fun v4 v5 I => (((v4 < 0) → True) ∧ ((¬ v4 < 0) → (vp_in v4 6 ∧ (((¬ (I 122 v4.toNatClampNeg) = (I 79 1)) → (vp_in v4 6 ∧ (vp_in v4 6 ∧ (vp_in (I 122 v4.toNatClampNeg) 9 ∧ (vp_in v4 6 ∧ (((¬ (I 81 (I 122 v4.toNatClampNeg).toNatClampNeg) = (I 121 v4.toNatClampNeg)) → (vp_in (I 122 v4.toNatClampNeg) 9 ∧ (vp_in v4 6 ∧ (((¬ (I 82 (I 122 v4.toNatClampNeg).toNatClampNeg) = (I 121 v4.toNatClampNeg)) → (jX12_gatherO a1 a2 a3 n v4 v5 (up2 I 122 v4.toNatClampNeg ((I 122 v4.toNatClampNeg) + 1)))) ∧ (((I 82 (I 122 v4.toNatClampNeg).toNatClampNeg) = (I 121 v4.toNatClampNeg)) → (vp_in (I 122 v4.toNatClampNeg) 9 ∧ ((((I 81 (I 122 v4.toNatClampNeg).toNatClampNeg) < 0) → (jX12_gatherO a1 a2 a3 n v4 v5 (up2 I 122 v4.toNatClampNeg ((I 122 v4.toNatClampNeg) + 1)))) ∧ ((¬ (I 81 (I 122 v4.toNatClampNeg).toNatClampNeg) < 0) → (((¬ (hs v5 (I 81 (I 122 v4.toNatClampNeg).toNatClampNeg))) → (vp_in v4 6 ∧ (((¬ (I 81 (I 122 v4.toNatClampNeg).toNatClampNeg) = a3) → (vp_in (v4 + 1) 6 ∧ (vp_in (v4 + 1) 6 ∧ (jX12_gatherO a1 a2 a3 n (v4 + 1) (v5 ||| ((1 : Int32) <<< ((I 81 (I 122 v4.toNatClampNeg).toNatClampNeg) &&& 31))) (up2 (up2 (up2 (up2 I 122 v4.toNatClampNeg ((I 122 v4.toNatClampNeg) + 1)) 123 v4.toNatClampNeg (I 122 v4.toNatClampNeg)) 121 (v4 + 1).toNatClampNeg (I 81 (I 122 v4.toNatClampNeg).toNatClampNeg)) 122 (v4 + 1).toNatClampNeg 0))))) ∧ (((I 81 (I 122 v4.toNatClampNeg).toNatClampNeg) = a3) → (((jX12_recordK (up2 (up2 I 122 v4.toNatClampNeg ((I 122 v4.toNatClampNeg) + 1)) 123 v4.toNatClampNeg (I 122 v4.toNatClampNeg)) a1 (v4 + 1) (v5 ||| ((1 : Int32) <<< (a3 &&& 31))))) ∧ (jX12_gatherO a1 a2 a3 n v4 v5 (jX12_record (up2 (up2 I 122 v4.toNatClampNeg ((I 122 v4.toNatClampNeg) + 1)) 123 v4.toNatClampNeg (I 122 v4.toNatClampNeg)) a1 (v4 + 1) (v5 ||| ((1 : Int32) <<< (a3 &&& 31)))))))))) ∧ ((hs v5 (I 81 (I 122 v4.toNatClampNeg).toNatClampNeg)) → (jX12_gatherO a1 a2 a3 n v4 v5 (up2 I 122 v4.toNatClampNeg ((I 122 v4.toNatClampNeg) + 1))))))))))))) ∧ (((I 81 (I 122 v4.toNatClampNeg).toNatClampNeg) = (I 121 v4.toNatClampNeg)) → (vp_in (I 122 v4.toNatClampNeg) 9 ∧ ((((I 82 (I 122 v4.toNatClampNeg).toNatClampNeg) < 0) → (jX12_gatherO a1 a2 a3 n v4 v5 (up2 I 122 v4.toNatClampNeg ((I 122 v4.toNatClampNeg) + 1)))) ∧ ((¬ (I 82 (I 122 v4.toNatClampNeg).toNatClampNeg) < 0) → (((¬ (hs v5 (I 82 (I 122 v4.toNatClampNeg).toNatClampNeg))) → (vp_in v4 6 ∧ (((¬ (I 82 (I 122 v4.toNatClampNeg).toNatClampNeg) = a3) → (vp_in (v4 + 1) 6 ∧ (vp_in (v4 + 1) 6 ∧ (jX12_gatherO a1 a2 a3 n (v4 + 1) (v5 ||| ((1 : Int32) <<< ((I 82 (I 122 v4.toNatClampNeg).toNatClampNeg) &&& 31))) (up2 (up2 (up2 (up2 I 122 v4.toNatClampNeg ((I 122 v4.toNatClampNeg) + 1)) 123 v4.toNatClampNeg (I 122 v4.toNatClampNeg)) 121 (v4 + 1).toNatClampNeg (I 82 (I 122 v4.toNatClampNeg).toNatClampNeg)) 122 (v4 + 1).toNatClampNeg 0))))) ∧ (((I 82 (I 122 v4.toNatClampNeg).toNatClampNeg) = a3) → (((jX12_recordK (up2 (up2 I 122 v4.toNatClampNeg ((I 122 v4.toNatClampNeg) + 1)) 123 v4.toNatClampNeg (I 122 v4.toNatClampNeg)) a1 (v4 + 1) (v5 ||| ((1 : Int32) <<< (a3 &&& 31))))) ∧ (jX12_gatherO a1 a2 a3 n v4 v5 (jX12_record (up2 (up2 I 122 v4.toNatClampNeg ((I 122 v4.toNatClampNeg) + 1)) 123 v4.toNatClampNeg (I 122 v4.toNatClampNeg)) a1 (v4 + 1) (v5 ||| ((1 : Int32) <<< (a3 &&& 31)))))))))) ∧ ((hs v5 (I 82 (I 122 v4.toNatClampNeg).toNatClampNeg)) → (jX12_gatherO a1 a2 a3 n v4 v5 (up2 I 122 v4.toNatClampNeg ((I 122 v4.toNatClampNeg) + 1))))))))))))))) ∧ (((I 122 v4.toNatClampNeg) = (I 79 1)) → (vp_in v4 6 ∧ (jX12_gatherO a1 a2 a3 n (v4 + (-1)) (v5 &&& (((1 : Int32) <<< ((I 121 v4.toNatClampNeg) &&& 31)) ^^^ (-1))) I)))))))
theorem jX12_gatherI_29 (a1 : Int32) (a2 : Int32) (a3 : Int32) (n : Nat) (v4 v5 : Int32) (I : IM) : jX12_gatherI a1 a2 a3 (n + 1) v4 v5 I = (if v4 < 0 then I else (if (I 122 v4.toNatClampNeg) = (I 79 1) then (jX12_gatherI a1 a2 a3 n (v4 + (-1)) (v5 &&& (((1 : Int32) <<< ((I 121 v4.toNatClampNeg) &&& 31)) ^^^ (-1))) I) else (if (I 81 (I 122 v4.toNatClampNeg).toNatClampNeg) = (I 121 v4.toNatClampNeg) then (if (I 82 (I 122 v4.toNatClampNeg).toNatClampNeg) < 0 then (jX12_gatherI a1 a2 a3 n v4 v5 (up2 I 122 v4.toNatClampNeg ((I 122 v4.toNatClampNeg) + 1))) else (if hs v5 (I 82 (I 122 v4.toNatClampNeg).toNatClampNeg) then (jX12_gatherI a1 a2 a3 n v4 v5 (up2 I 122 v4.toNatClampNeg ((I 122 v4.toNatClampNeg) + 1))) else (if (I 82 (I 122 v4.toNatClampNeg).toNatClampNeg) = a3 then (jX12_gatherI a1 a2 a3 n v4 v5 (jX12_record (up2 (up2 I 122 v4.toNatClampNeg ((I 122 v4.toNatClampNeg) + 1)) 123 v4.toNatClampNeg (I 122 v4.toNatClampNeg)) a1 (v4 + 1) (v5 ||| ((1 : Int32) <<< (a3 &&& 31))))) else (jX12_gatherI a1 a2 a3 n (v4 + 1) (v5 ||| ((1 : Int32) <<< ((I 82 (I 122 v4.toNatClampNeg).toNatClampNeg) &&& 31))) (up2 (up2 (up2 (up2 I 122 v4.toNatClampNeg ((I 122 v4.toNatClampNeg) + 1)) 123 v4.toNatClampNeg (I 122 v4.toNatClampNeg)) 121 (v4 + 1).toNatClampNeg (I 82 (I 122 v4.toNatClampNeg).toNatClampNeg)) 122 (v4 + 1).toNatClampNeg 0))))) else (if (I 82 (I 122 v4.toNatClampNeg).toNatClampNeg) = (I 121 v4.toNatClampNeg) then (if (I 81 (I 122 v4.toNatClampNeg).toNatClampNeg) < 0 then (jX12_gatherI a1 a2 a3 n v4 v5 (up2 I 122 v4.toNatClampNeg ((I 122 v4.toNatClampNeg) + 1))) else (if hs v5 (I 81 (I 122 v4.toNatClampNeg).toNatClampNeg) then (jX12_gatherI a1 a2 a3 n v4 v5 (up2 I 122 v4.toNatClampNeg ((I 122 v4.toNatClampNeg) + 1))) else (if (I 81 (I 122 v4.toNatClampNeg).toNatClampNeg) = a3 then (jX12_gatherI a1 a2 a3 n v4 v5 (jX12_record (up2 (up2 I 122 v4.toNatClampNeg ((I 122 v4.toNatClampNeg) + 1)) 123 v4.toNatClampNeg (I 122 v4.toNatClampNeg)) a1 (v4 + 1) (v5 ||| ((1 : Int32) <<< (a3 &&& 31))))) else (jX12_gatherI a1 a2 a3 n (v4 + 1) (v5 ||| ((1 : Int32) <<< ((I 81 (I 122 v4.toNatClampNeg).toNatClampNeg) &&& 31))) (up2 (up2 (up2 (up2 I 122 v4.toNatClampNeg ((I 122 v4.toNatClampNeg) + 1)) 123 v4.toNatClampNeg (I 122 v4.toNatClampNeg)) 121 (v4 + 1).toNatClampNeg (I 81 (I 122 v4.toNatClampNeg).toNatClampNeg)) 122 (v4 + 1).toNatClampNeg 0))))) else (jX12_gatherI a1 a2 a3 n v4 v5 (up2 I 122 v4.toNatClampNeg ((I 122 v4.toNatClampNeg) + 1))))))) := rfl
theorem jX12_gatherO_29 (a1 : Int32) (a2 : Int32) (a3 : Int32) (n : Nat) (v4 v5 : Int32) (I : IM) : jX12_gatherO a1 a2 a3 (n + 1) v4 v5 I = (((v4 < 0) → True) ∧ ((¬ v4 < 0) → (vp_in v4 6 ∧ (((¬ (I 122 v4.toNatClampNeg) = (I 79 1)) → (vp_in v4 6 ∧ (vp_in v4 6 ∧ (vp_in (I 122 v4.toNatClampNeg) 9 ∧ (vp_in v4 6 ∧ (((¬ (I 81 (I 122 v4.toNatClampNeg).toNatClampNeg) = (I 121 v4.toNatClampNeg)) → (vp_in (I 122 v4.toNatClampNeg) 9 ∧ (vp_in v4 6 ∧ (((¬ (I 82 (I 122 v4.toNatClampNeg).toNatClampNeg) = (I 121 v4.toNatClampNeg)) → (jX12_gatherO a1 a2 a3 n v4 v5 (up2 I 122 v4.toNatClampNeg ((I 122 v4.toNatClampNeg) + 1)))) ∧ (((I 82 (I 122 v4.toNatClampNeg).toNatClampNeg) = (I 121 v4.toNatClampNeg)) → (vp_in (I 122 v4.toNatClampNeg) 9 ∧ ((((I 81 (I 122 v4.toNatClampNeg).toNatClampNeg) < 0) → (jX12_gatherO a1 a2 a3 n v4 v5 (up2 I 122 v4.toNatClampNeg ((I 122 v4.toNatClampNeg) + 1)))) ∧ ((¬ (I 81 (I 122 v4.toNatClampNeg).toNatClampNeg) < 0) → (((¬ (hs v5 (I 81 (I 122 v4.toNatClampNeg).toNatClampNeg))) → (vp_in v4 6 ∧ (((¬ (I 81 (I 122 v4.toNatClampNeg).toNatClampNeg) = a3) → (vp_in (v4 + 1) 6 ∧ (vp_in (v4 + 1) 6 ∧ (jX12_gatherO a1 a2 a3 n (v4 + 1) (v5 ||| ((1 : Int32) <<< ((I 81 (I 122 v4.toNatClampNeg).toNatClampNeg) &&& 31))) (up2 (up2 (up2 (up2 I 122 v4.toNatClampNeg ((I 122 v4.toNatClampNeg) + 1)) 123 v4.toNatClampNeg (I 122 v4.toNatClampNeg)) 121 (v4 + 1).toNatClampNeg (I 81 (I 122 v4.toNatClampNeg).toNatClampNeg)) 122 (v4 + 1).toNatClampNeg 0))))) ∧ (((I 81 (I 122 v4.toNatClampNeg).toNatClampNeg) = a3) → (((jX12_recordK (up2 (up2 I 122 v4.toNatClampNeg ((I 122 v4.toNatClampNeg) + 1)) 123 v4.toNatClampNeg (I 122 v4.toNatClampNeg)) a1 (v4 + 1) (v5 ||| ((1 : Int32) <<< (a3 &&& 31))))) ∧ (jX12_gatherO a1 a2 a3 n v4 v5 (jX12_record (up2 (up2 I 122 v4.toNatClampNeg ((I 122 v4.toNatClampNeg) + 1)) 123 v4.toNatClampNeg (I 122 v4.toNatClampNeg)) a1 (v4 + 1) (v5 ||| ((1 : Int32) <<< (a3 &&& 31)))))))))) ∧ ((hs v5 (I 81 (I 122 v4.toNatClampNeg).toNatClampNeg)) → (jX12_gatherO a1 a2 a3 n v4 v5 (up2 I 122 v4.toNatClampNeg ((I 122 v4.toNatClampNeg) + 1))))))))))))) ∧ (((I 81 (I 122 v4.toNatClampNeg).toNatClampNeg) = (I 121 v4.toNatClampNeg)) → (vp_in (I 122 v4.toNatClampNeg) 9 ∧ ((((I 82 (I 122 v4.toNatClampNeg).toNatClampNeg) < 0) → (jX12_gatherO a1 a2 a3 n v4 v5 (up2 I 122 v4.toNatClampNeg ((I 122 v4.toNatClampNeg) + 1)))) ∧ ((¬ (I 82 (I 122 v4.toNatClampNeg).toNatClampNeg) < 0) → (((¬ (hs v5 (I 82 (I 122 v4.toNatClampNeg).toNatClampNeg))) → (vp_in v4 6 ∧ (((¬ (I 82 (I 122 v4.toNatClampNeg).toNatClampNeg) = a3) → (vp_in (v4 + 1) 6 ∧ (vp_in (v4 + 1) 6 ∧ (jX12_gatherO a1 a2 a3 n (v4 + 1) (v5 ||| ((1 : Int32) <<< ((I 82 (I 122 v4.toNatClampNeg).toNatClampNeg) &&& 31))) (up2 (up2 (up2 (up2 I 122 v4.toNatClampNeg ((I 122 v4.toNatClampNeg) + 1)) 123 v4.toNatClampNeg (I 122 v4.toNatClampNeg)) 121 (v4 + 1).toNatClampNeg (I 82 (I 122 v4.toNatClampNeg).toNatClampNeg)) 122 (v4 + 1).toNatClampNeg 0))))) ∧ (((I 82 (I 122 v4.toNatClampNeg).toNatClampNeg) = a3) → (((jX12_recordK (up2 (up2 I 122 v4.toNatClampNeg ((I 122 v4.toNatClampNeg) + 1)) 123 v4.toNatClampNeg (I 122 v4.toNatClampNeg)) a1 (v4 + 1) (v5 ||| ((1 : Int32) <<< (a3 &&& 31))))) ∧ (jX12_gatherO a1 a2 a3 n v4 v5 (jX12_record (up2 (up2 I 122 v4.toNatClampNeg ((I 122 v4.toNatClampNeg) + 1)) 123 v4.toNatClampNeg (I 122 v4.toNatClampNeg)) a1 (v4 + 1) (v5 ||| ((1 : Int32) <<< (a3 &&& 31)))))))))) ∧ ((hs v5 (I 82 (I 122 v4.toNatClampNeg).toNatClampNeg)) → (jX12_gatherO a1 a2 a3 n v4 v5 (up2 I 122 v4.toNatClampNeg ((I 122 v4.toNatClampNeg) + 1))))))))))))))) ∧ (((I 122 v4.toNatClampNeg) = (I 79 1)) → (vp_in v4 6 ∧ (jX12_gatherO a1 a2 a3 n (v4 + (-1)) (v5 &&& (((1 : Int32) <<< ((I 121 v4.toNatClampNeg) &&& 31)) ^^^ (-1))) I))))))) := rfl
def jX12_gather (I : IM) (a1 : Int32) (a2 : Int32) (a3 : Int32) : IM := (jX12_gatherI a1 a2 a3 FU 0 ((1 : Int32) <<< (a2 &&& 31)) (up2 (up2 (up2 I 115 a1.toNatClampNeg 0) 121 (0 : Int32).toNatClampNeg a2) 122 (0 : Int32).toNatClampNeg 0))
def jX12_gatherK (I : IM) (a1 : Int32) (a2 : Int32) (a3 : Int32) : Prop := (vp_in a1 9 ∧ (vp_in 0 6 ∧ (vp_in 0 6 ∧ (jX12_gatherO a1 a2 a3 FU 0 ((1 : Int32) <<< (a2 &&& 31)) (up2 (up2 (up2 I 115 a1.toNatClampNeg 0) 121 (0 : Int32).toNatClampNeg a2) 122 (0 : Int32).toNatClampNeg 0)))))
set_option maxRecDepth 10000 in
set_option maxHeartbeats 1000000 in
theorem uX12_gather (d : Nat) {T : Topo} (hT : Lay T) (a1 : Int32) (a2 : Int32) (a3 : Int32)   {R : IM} : ∀ n : Nat, (∀ (v4 v5 : Int32) (I : IM), jX12_gatherO a1 a2 a3 n v4 v5 I → jX12_gatherI a1 a2 a3 n v4 v5 I = R → J (d + 2) mX12_gather (PV (fun T' I' => T' = T ∧ I' = R)) 0 0 29 [some (.ref 79), some (.int a1), none, some (.int a3), some (.int v4), some (.int v5), none, none] [] T I 0 0) := by
  intro n
  induction n with
  | zero => exact fun _ _ _ hz => hz.elim
  | succ n ih =>
    exact fun v4 v5 I hok hit => by
        rw [jX12_gatherO_29] at hok
        exact sX12_gather_29 d hT a1 a2 a3   (K29 := fun w4 w5 I_ => (jX12_gatherO a1 a2 a3 n w4 w5 I_ ∧ jX12_gatherI a1 a2 a3 n w4 w5 I_ = R)) (fun w4 w5 I_ hw => ih w4 w5 I_ hw.1 hw.2) v4 v5 I (by
          unfold fX12_gather_29
          exact ⟨fun hc1 => ⟨rfl, by rw [jX12_gatherI_29, if_pos hc1] at hit; exact hit⟩, fun hc1 => ⟨((hok).2 hc1).1, ⟨fun hc2 => ⟨((((hok).2 hc1).2).1 hc2).1, ⟨(((((hok).2 hc1).2).1 hc2).2).1, ⟨((((((hok).2 hc1).2).1 hc2).2).2).1, ⟨(((((((hok).2 hc1).2).1 hc2).2).2).2).1, ⟨fun hc3 => ⟨(((((((((hok).2 hc1).2).1 hc2).2).2).2).2).1 hc3).1, ⟨((((((((((hok).2 hc1).2).1 hc2).2).2).2).2).1 hc3).2).1, ⟨fun hc4 => ⟨(((((((((((hok).2 hc1).2).1 hc2).2).2).2).2).1 hc3).2).2).1 hc4, by rw [jX12_gatherI_29, if_neg hc1, if_neg hc2, if_neg hc3, if_neg hc4] at hit; exact hit⟩, fun hc4 => ⟨((((((((((((hok).2 hc1).2).1 hc2).2).2).2).2).1 hc3).2).2).2 hc4).1, ⟨fun hc5 => ⟨(((((((((((((hok).2 hc1).2).1 hc2).2).2).2).2).1 hc3).2).2).2 hc4).2).1 hc5, by rw [jX12_gatherI_29, if_neg hc1, if_neg hc2, if_neg hc3, if_pos hc4, if_pos hc5] at hit; exact hit⟩, fun hc5 => ⟨fun hc6 => ⟨(((((((((((((((hok).2 hc1).2).1 hc2).2).2).2).2).1 hc3).2).2).2 hc4).2).2 hc5).1 hc6).1, ⟨fun hc7 => ⟨(((((((((((((((((hok).2 hc1).2).1 hc2).2).2).2).2).1 hc3).2).2).2 hc4).2).2 hc5).1 hc6).2).1 hc7).1, ⟨((((((((((((((((((hok).2 hc1).2).1 hc2).2).2).2).2).1 hc3).2).2).2 hc4).2).2 hc5).1 hc6).2).1 hc7).2).1, ⟨((((((((((((((((((hok).2 hc1).2).1 hc2).2).2).2).2).1 hc3).2).2).2 hc4).2).2 hc5).1 hc6).2).1 hc7).2).2, by rw [jX12_gatherI_29, if_neg hc1, if_neg hc2, if_neg hc3, if_pos hc4, if_neg hc5, if_neg hc6, if_neg hc7] at hit; exact hit⟩⟩⟩, fun hc7 => ⟨(((((((((((((((((hok).2 hc1).2).1 hc2).2).2).2).2).1 hc3).2).2).2 hc4).2).2 hc5).1 hc6).2).2 hc7).1, ⟨(((((((((((((((((hok).2 hc1).2).1 hc2).2).2).2).2).1 hc3).2).2).2 hc4).2).2 hc5).1 hc6).2).2 hc7).2, by rw [jX12_gatherI_29, if_neg hc1, if_neg hc2, if_neg hc3, if_pos hc4, if_neg hc5, if_neg hc6, if_pos hc7] at hit; exact hit⟩⟩⟩⟩, fun hc6 => ⟨((((((((((((((hok).2 hc1).2).1 hc2).2).2).2).2).1 hc3).2).2).2 hc4).2).2 hc5).2 hc6, by rw [jX12_gatherI_29, if_neg hc1, if_neg hc2, if_neg hc3, if_pos hc4, if_neg hc5, if_pos hc6] at hit; exact hit⟩⟩⟩⟩⟩⟩⟩, fun hc3 => ⟨(((((((((hok).2 hc1).2).1 hc2).2).2).2).2).2 hc3).1, ⟨fun hc8 => ⟨((((((((((hok).2 hc1).2).1 hc2).2).2).2).2).2 hc3).2).1 hc8, by rw [jX12_gatherI_29, if_neg hc1, if_neg hc2, if_pos hc3, if_pos hc8] at hit; exact hit⟩, fun hc8 => ⟨fun hc9 => ⟨((((((((((((hok).2 hc1).2).1 hc2).2).2).2).2).2 hc3).2).2 hc8).1 hc9).1, ⟨fun hc10 => ⟨((((((((((((((hok).2 hc1).2).1 hc2).2).2).2).2).2 hc3).2).2 hc8).1 hc9).2).1 hc10).1, ⟨(((((((((((((((hok).2 hc1).2).1 hc2).2).2).2).2).2 hc3).2).2 hc8).1 hc9).2).1 hc10).2).1, ⟨(((((((((((((((hok).2 hc1).2).1 hc2).2).2).2).2).2 hc3).2).2 hc8).1 hc9).2).1 hc10).2).2, by rw [jX12_gatherI_29, if_neg hc1, if_neg hc2, if_pos hc3, if_neg hc8, if_neg hc9, if_neg hc10] at hit; exact hit⟩⟩⟩, fun hc10 => ⟨((((((((((((((hok).2 hc1).2).1 hc2).2).2).2).2).2 hc3).2).2 hc8).1 hc9).2).2 hc10).1, ⟨((((((((((((((hok).2 hc1).2).1 hc2).2).2).2).2).2 hc3).2).2 hc8).1 hc9).2).2 hc10).2, by rw [jX12_gatherI_29, if_neg hc1, if_neg hc2, if_pos hc3, if_neg hc8, if_neg hc9, if_pos hc10] at hit; exact hit⟩⟩⟩⟩, fun hc9 => ⟨(((((((((((hok).2 hc1).2).1 hc2).2).2).2).2).2 hc3).2).2 hc8).2 hc9, by rw [jX12_gatherI_29, if_neg hc1, if_neg hc2, if_pos hc3, if_neg hc8, if_pos hc9] at hit; exact hit⟩⟩⟩⟩⟩⟩⟩⟩⟩, fun hc2 => ⟨((((hok).2 hc1).2).2 hc2).1, ⟨((((hok).2 hc1).2).2 hc2).2, by rw [jX12_gatherI_29, if_neg hc1, if_pos hc2] at hit; exact hit⟩⟩⟩⟩⟩)
set_option maxRecDepth 10000 in
set_option maxHeartbeats 1000000 in
theorem qX12_gather (d : Nat) {T : Topo} {I : IM} (hT : Lay T) (a1 : Int32) (a2 : Int32) (a3 : Int32)  (hp : (jX12_gatherK I a1 a2 a3)) : CtV (d + 2) mX12_gather [.ref 79, .int a1, .int a2, .int a3] T I (fun J_ => J_ = (jX12_gather I a1 a2 a3)) := by
  unfold jX12_gatherK at hp
  exact Ct.ofJ (by decide +kernel) rfl (by intro v hv; revert v hv; simp [Value.category]) rfl (sX12_gather_0 d hT a1 a2 a3   (K29 := fun w4 w5 I_ => (jX12_gatherO a1 a2 a3 FU w4 w5 I_ ∧ jX12_gatherI a1 a2 a3 FU w4 w5 I_ = (jX12_gather I a1 a2 a3))) (fun w4 w5 I_ hw => uX12_gather d hT a1 a2 a3   FU w4 w5 I_ hw.1 hw.2) I (by
    unfold fX12_gather_0
    exact ⟨(hp).1, ⟨((hp).2).1, ⟨(((hp).2).2).1, ⟨(((hp).2).2).2, rfl⟩⟩⟩⟩))

def fX12_ways_0 (T : Topo) (a1 : Int32) (a2 : Int32) (Q : Int32 → Topo → IM → Prop)  (I : IM) : Prop :=
  ((((twM I a1 a2) → (((jX12_gatherK I 8 a1 a2)) ∧ (vp_in 8 9 ∧ Q ((jX12_gather I 8 a1 a2) 115 (8 : Int32).toNatClampNeg) T (jX12_gather I 8 a1 a2)))) ∧ ((¬ (twM I a1 a2)) → (Q (jX12_finds (-1000001)) T (jX12_findsM I)))))
set_option maxHeartbeats 4000000 in
set_option maxRecDepth 100000 in
theorem sX12_ways_0 (d : Nat) {T : Topo} (hT : Lay T) (a1 : Int32) (a2 : Int32)    {Q : Int32 → Topo → IM → Prop}   (I : IM) (h : fX12_ways_0 T a1 a2 Q  I) : J (d + 3) mX12_ways (PI Q) 0 0 0 [some (.ref 79), some (.int a1), some (.int a2)] [] T I 0 0 := by
  unfold fX12_ways_0 at h
  refine J.aload_n dX12_ways_0 rfl rfl ?_
  refine J.iload_n dX12_ways_1 rfl rfl ?_
  refine J.iload_n dX12_ways_2 rfl rfl ?_
  refine J.callVP (k := 79) (as := [.int a1, .int a2]) (rest := []) dX12_ways_3 kX12_areNodes vX12_areNodes lX12_224 (hT.k 79 rfl) rfl rfl rfl rfl rfl (by omega) (Nat.le_refl _) (Nat.le_refl _) (qX12_areNodes (d + 0) hT a1 a2 ) ?_
  refine J.bz_ne (tgt := 16) dX12_ways_6 (by decide) (fun hc1 => ?_) (fun hc1 => ?_)
  · have h := h.1 hc1
    refine J.aload_n dX12_ways_16 rfl rfl ?_
    refine J.bipush (v := 8) dX12_ways_17 (by decide) ?_
    refine J.iload_n dX12_ways_19 rfl rfl ?_
    refine J.iload_n dX12_ways_20 rfl rfl ?_
    obtain ⟨hp2, h⟩ := h
    refine J.callVD (k := 79) (as := [.int 8, .int a1, .int a2]) (rest := []) dX12_ways_21 kX12_gather vX12_gather lX12_227 (hT.k 79 rfl) rfl rfl rfl rfl rfl (by omega) (Nat.le_refl _) (Nat.le_refl _) (qX12_gather (d + 0) hT 8 a1 a2 hp2) ?_
    refine J.aload_n dX12_ways_24 rfl rfl ?_
    refine J.getR (r := 115) dX12_ways_25 fX12_120 (hT.k 79 rfl) rfl (hT.r 79 44 rfl rfl) ?_
    refine J.bipush (v := 8) dX12_ways_28 (by decide) ?_
    obtain ⟨hs3, h⟩ := h
    refine J.iald dX12_ways_30 (hT.k 115 rfl) (hT.l 115 rfl) hs3 ?_
    exact J.iretQ dX12_ways_31 rfl (Nat.le_refl _) (Nat.le_refl _) h
  · have h := h.2 hc1
    refine J.aload_n dX12_ways_9 rfl rfl ?_
    refine J.ldc (v := (-1000001)) dX12_ways_10 kcX12_199 ?_
    refine J.callVE (k := 79) (as := [.int (-1000001)]) (rest := []) dX12_ways_12 kX12_finds vX12_finds lX12_200 (hT.k 79 rfl) rfl rfl rfl rfl rfl (by omega) (Nat.le_refl _) (Nat.le_refl _) (qX12_finds (d + 2) hT (-1000001) ) ?_
    exact J.iretQ dX12_ways_15 rfl (Nat.le_refl _) (Nat.le_refl _) h
set_option maxHeartbeats 4000000 in
set_option maxRecDepth 100000 in
theorem wX12_ways (d : Nat) {T : Topo} (hT : Lay T) (a1 : Int32) (a2 : Int32)   {Q : Int32 → Topo → IM → Prop} {I : IM} (h : fX12_ways_0 T a1 a2 Q I) : Ct (d + 3) mX12_ways [.ref 79, .int a1, .int a2] T I 0 0 (PI Q) :=
  Ct.ofJ (by decide +kernel) rfl (by intro v hv; revert v hv; simp [Value.category]) rfl (sX12_ways_0 d hT a1 a2   I h)

def jX12_ways (I : IM) (a1 : Int32) (a2 : Int32) : Int32 := (if twM I a1 a2 then ((jX12_gather I 8 a1 a2) 115 (8 : Int32).toNatClampNeg) else (jX12_finds (-1000001)))
def jX12_waysM (I : IM) (a1 : Int32) (a2 : Int32) : IM := (if twM I a1 a2 then (jX12_gather I 8 a1 a2) else (jX12_findsM I))
def jX12_waysK (I : IM) (a1 : Int32) (a2 : Int32) : Prop := (((twM I a1 a2) → (((jX12_gatherK I 8 a1 a2)) ∧ vp_in 8 9)) ∧ ((¬ (twM I a1 a2)) → True))
set_option maxRecDepth 10000 in
theorem qX12_ways (d : Nat) {T : Topo} {I : IM} (hT : Lay T) (a1 : Int32) (a2 : Int32)  (hp : (jX12_waysK I a1 a2)) : CtI (d + 3) mX12_ways [.ref 79, .int a1, .int a2] T I (fun x_ J_ => x_ = (jX12_ways I a1 a2) ∧ J_ = (jX12_waysM I a1 a2)) :=
  wX12_ways d hT a1 a2   (by
  unfold fX12_ways_0
  exact ⟨fun hc1 => ⟨((hp).1 hc1).1, ⟨((hp).1 hc1).2, ⟨rfl, by unfold jX12_ways; rw [if_pos hc1], by unfold jX12_waysM; rw [if_pos hc1]⟩⟩⟩, fun hc1 => ⟨rfl, by unfold jX12_ways; rw [if_neg hc1], by unfold jX12_waysM; rw [if_neg hc1]⟩⟩)

def fX12_way_0 (T : Topo) (a1 : Int32) (a2 : Int32) (a3 : Int32) (a4 : Int32) (Q : Int32 → Topo → IM → Prop)  (I : IM) : Prop :=
  ((((¬ (twM I a1 a2)) → (Q (jX12_finds (-1000001)) T (jX12_findsM I))) ∧ ((twM I a1 a2) → (((a3 < 0) → (Q (jX12_finds (-1000001)) T (jX12_findsM I))) ∧ ((¬ a3 < 0) → ((((-1) ≤ a4) → (((jX12_gatherK I 8 a1 a2)) ∧ (vp_in 8 9 ∧ (((a3 < ((jX12_gather I 8 a1 a2) 115 (8 : Int32).toNatClampNeg)) → (((0 ≤ a4) → (vp_in (2048 + a3) 2304 ∧ (vp_in (2048 + a3) 2304 ∧ (((jX12_digitK (jX12_gather I 8 a1 a2) ((jX12_gather I 8 a1 a2) 116 (2048 + a3).toNatClampNeg) ((jX12_gather I 8 a1 a2) 117 (2048 + a3).toNatClampNeg) a4)) ∧ Q (jX12_digit (jX12_gather I 8 a1 a2) ((jX12_gather I 8 a1 a2) 116 (2048 + a3).toNatClampNeg) ((jX12_gather I 8 a1 a2) 117 (2048 + a3).toNatClampNeg) a4) T (jX12_gather I 8 a1 a2))))) ∧ ((¬ 0 ≤ a4) → (vp_in (2048 + a3) 2304 ∧ Q ((jX12_gather I 8 a1 a2) 118 (2048 + a3).toNatClampNeg) T (jX12_gather I 8 a1 a2))))) ∧ ((¬ a3 < ((jX12_gather I 8 a1 a2) 115 (8 : Int32).toNatClampNeg)) → (Q (jX12_finds (-1000005)) T (jX12_findsM (jX12_gather I 8 a1 a2)))))))) ∧ ((¬ (-1) ≤ a4) → (Q (jX12_finds (-1000001)) T (jX12_findsM I)))))))))
set_option maxHeartbeats 4000000 in
set_option maxRecDepth 100000 in
theorem sX12_way_0 (d : Nat) {T : Topo} (hT : Lay T) (a1 : Int32) (a2 : Int32) (a3 : Int32) (a4 : Int32)    {Q : Int32 → Topo → IM → Prop}   (I : IM) (h : fX12_way_0 T a1 a2 a3 a4 Q  I) : J (d + 3) mX12_way (PI Q) 0 0 0 [some (.ref 79), some (.int a1), some (.int a2), some (.int a3), some (.int a4), none] [] T I 0 0 := by
  unfold fX12_way_0 at h
  refine J.aload_n dX12_way_0 rfl rfl ?_
  refine J.iload_n dX12_way_1 rfl rfl ?_
  refine J.iload_n dX12_way_2 rfl rfl ?_
  refine J.callVP (k := 79) (as := [.int a1, .int a2]) (rest := []) dX12_way_3 kX12_areNodes vX12_areNodes lX12_224 (hT.k 79 rfl) rfl rfl rfl rfl rfl (by omega) (Nat.le_refl _) (Nat.le_refl _) (qX12_areNodes (d + 0) hT a1 a2 ) ?_
  refine J.bz_eq (tgt := 19) dX12_way_6 (by decide) (fun hc1 => ?_) (fun hc1 => ?_)
  · have h := h.1 hc1
    refine J.aload_n dX12_way_19 rfl rfl ?_
    refine J.ldc (v := (-1000001)) dX12_way_20 kcX12_199 ?_
    refine J.callVE (k := 79) (as := [.int (-1000001)]) (rest := []) dX12_way_22 kX12_finds vX12_finds lX12_200 (hT.k 79 rfl) rfl rfl rfl rfl rfl (by omega) (Nat.le_refl _) (Nat.le_refl _) (qX12_finds (d + 2) hT (-1000001) ) ?_
    exact J.iretQ dX12_way_25 rfl (Nat.le_refl _) (Nat.le_refl _) h
  · have h := h.2 hc1
    refine J.iload_n dX12_way_9 rfl rfl ?_
    refine J.if_lt (tgt := 19) dX12_way_10 (by decide) (fun hc2 => ?_) (fun hc2 => ?_)
    · have h := h.1 hc2
      refine J.aload_n dX12_way_19 rfl rfl ?_
      refine J.ldc (v := (-1000001)) dX12_way_20 kcX12_199 ?_
      refine J.callVE (k := 79) (as := [.int (-1000001)]) (rest := []) dX12_way_22 kX12_finds vX12_finds lX12_200 (hT.k 79 rfl) rfl rfl rfl rfl rfl (by omega) (Nat.le_refl _) (Nat.le_refl _) (qX12_finds (d + 2) hT (-1000001) ) ?_
      exact J.iretQ dX12_way_25 rfl (Nat.le_refl _) (Nat.le_refl _) h
    · have h := h.2 hc2
      refine J.iload dX12_way_13 rfl ?_
      refine J.iconst (v := (-1)) dX12_way_15 (by decide) ?_
      refine J.icmp_ge (tgt := 26) dX12_way_16 (by decide) (fun hc3 => ?_) (fun hc3 => ?_)
      · have h := h.1 hc3
        refine J.aload_n dX12_way_26 rfl rfl ?_
        refine J.bipush (v := 8) dX12_way_27 (by decide) ?_
        refine J.iload_n dX12_way_29 rfl rfl ?_
        refine J.iload_n dX12_way_30 rfl rfl ?_
        obtain ⟨hp4, h⟩ := h
        refine J.callVD (k := 79) (as := [.int 8, .int a1, .int a2]) (rest := []) dX12_way_31 kX12_gather vX12_gather lX12_227 (hT.k 79 rfl) rfl rfl rfl rfl rfl (by omega) (Nat.le_refl _) (Nat.le_refl _) (qX12_gather (d + 0) hT 8 a1 a2 hp4) ?_
        refine J.iload_n dX12_way_34 rfl rfl ?_
        refine J.aload_n dX12_way_35 rfl rfl ?_
        refine J.getR (r := 115) dX12_way_36 fX12_120 (hT.k 79 rfl) rfl (hT.r 79 44 rfl rfl) ?_
        refine J.bipush (v := 8) dX12_way_39 (by decide) ?_
        obtain ⟨hs5, h⟩ := h
        refine J.iald dX12_way_41 (hT.k 115 rfl) (hT.l 115 rfl) hs5 ?_
        refine J.icmp_lt (tgt := 52) dX12_way_42 (by decide) (fun hc6 => ?_) (fun hc6 => ?_)
        · have h := h.1 hc6
          refine J.sipush (v := 2048) dX12_way_52 (by decide) ?_
          refine J.iload_n dX12_way_55 rfl rfl ?_
          refine J.iadd dX12_way_56 ?_
          refine J.istore (ls' := [some (.ref 79), some (.int a1), some (.int a2), some (.int a3), some (.int a4), some (.int (2048 + a3))]) dX12_way_57 rfl rfl ?_
          refine J.iload dX12_way_59 rfl ?_
          refine J.if_ge (tgt := 74) dX12_way_61 (by decide) (fun hc7 => ?_) (fun hc7 => ?_)
          · have h := h.1 hc7
            refine J.aload_n dX12_way_74 rfl rfl ?_
            refine J.getR (r := 116) dX12_way_75 fX12_123 (hT.k 79 rfl) rfl (hT.r 79 45 rfl rfl) ?_
            refine J.iload dX12_way_78 rfl ?_
            obtain ⟨hs8, h⟩ := h
            refine J.iald dX12_way_80 (hT.k 116 rfl) (hT.l 116 rfl) hs8 ?_
            refine J.aload_n dX12_way_81 rfl rfl ?_
            refine J.getR (r := 117) dX12_way_82 fX12_126 (hT.k 79 rfl) rfl (hT.r 79 46 rfl rfl) ?_
            refine J.iload dX12_way_85 rfl ?_
            obtain ⟨hs9, h⟩ := h
            refine J.iald dX12_way_87 (hT.k 117 rfl) (hT.l 117 rfl) hs9 ?_
            refine J.iload dX12_way_88 rfl ?_
            obtain ⟨hp10, h⟩ := h
            refine J.callSP (as := [.int ((jX12_gather I 8 a1 a2) 116 (2048 + a3).toNatClampNeg), .int ((jX12_gather I 8 a1 a2) 117 (2048 + a3).toNatClampNeg), .int a4]) (rest := []) dX12_way_90 kX12_digit vX12_digit lX12_231 rfl rfl rfl (by omega) (Nat.le_refl _) (Nat.le_refl _) (qX12_digit (d + 2) hT ((jX12_gather I 8 a1 a2) 116 (2048 + a3).toNatClampNeg) ((jX12_gather I 8 a1 a2) 117 (2048 + a3).toNatClampNeg) a4 hp10) ?_
            exact J.iretQ dX12_way_93 rfl (Nat.le_refl _) (Nat.le_refl _) h
          · have h := h.2 hc7
            refine J.aload_n dX12_way_64 rfl rfl ?_
            refine J.getR (r := 118) dX12_way_65 fX12_129 (hT.k 79 rfl) rfl (hT.r 79 47 rfl rfl) ?_
            refine J.iload dX12_way_68 rfl ?_
            obtain ⟨hs11, h⟩ := h
            refine J.iald dX12_way_70 (hT.k 118 rfl) (hT.l 118 rfl) hs11 ?_
            refine J.goto (tgt := 93) dX12_way_71 (by decide) ?_
            exact J.iretQ dX12_way_93 rfl (Nat.le_refl _) (Nat.le_refl _) h
        · have h := h.2 hc6
          refine J.aload_n dX12_way_45 rfl rfl ?_
          refine J.ldc (v := (-1000005)) dX12_way_46 kcX12_230 ?_
          refine J.callVE (k := 79) (as := [.int (-1000005)]) (rest := []) dX12_way_48 kX12_finds vX12_finds lX12_200 (hT.k 79 rfl) rfl rfl rfl rfl rfl (by omega) (Nat.le_refl _) (Nat.le_refl _) (qX12_finds (d + 2) hT (-1000005) ) ?_
          exact J.iretQ dX12_way_51 rfl (Nat.le_refl _) (Nat.le_refl _) h
      · have h := h.2 hc3
        refine J.aload_n dX12_way_19 rfl rfl ?_
        refine J.ldc (v := (-1000001)) dX12_way_20 kcX12_199 ?_
        refine J.callVE (k := 79) (as := [.int (-1000001)]) (rest := []) dX12_way_22 kX12_finds vX12_finds lX12_200 (hT.k 79 rfl) rfl rfl rfl rfl rfl (by omega) (Nat.le_refl _) (Nat.le_refl _) (qX12_finds (d + 2) hT (-1000001) ) ?_
        exact J.iretQ dX12_way_25 rfl (Nat.le_refl _) (Nat.le_refl _) h
set_option maxHeartbeats 4000000 in
set_option maxRecDepth 100000 in
theorem wX12_way (d : Nat) {T : Topo} (hT : Lay T) (a1 : Int32) (a2 : Int32) (a3 : Int32) (a4 : Int32)   {Q : Int32 → Topo → IM → Prop} {I : IM} (h : fX12_way_0 T a1 a2 a3 a4 Q I) : Ct (d + 3) mX12_way [.ref 79, .int a1, .int a2, .int a3, .int a4] T I 0 0 (PI Q) :=
  Ct.ofJ (by decide +kernel) rfl (by intro v hv; revert v hv; simp [Value.category]) rfl (sX12_way_0 d hT a1 a2 a3 a4   I h)

def jX12_way (I : IM) (a1 : Int32) (a2 : Int32) (a3 : Int32) (a4 : Int32) : Int32 := (if twM I a1 a2 then (if a3 < 0 then (jX12_finds (-1000001)) else (if (-1) ≤ a4 then (if a3 < ((jX12_gather I 8 a1 a2) 115 (8 : Int32).toNatClampNeg) then (if 0 ≤ a4 then (jX12_digit (jX12_gather I 8 a1 a2) ((jX12_gather I 8 a1 a2) 116 (2048 + a3).toNatClampNeg) ((jX12_gather I 8 a1 a2) 117 (2048 + a3).toNatClampNeg) a4) else ((jX12_gather I 8 a1 a2) 118 (2048 + a3).toNatClampNeg)) else (jX12_finds (-1000005))) else (jX12_finds (-1000001)))) else (jX12_finds (-1000001)))
def jX12_wayM (I : IM) (a1 : Int32) (a2 : Int32) (a3 : Int32) (a4 : Int32) : IM := (if twM I a1 a2 then (if a3 < 0 then (jX12_findsM I) else (if (-1) ≤ a4 then (if a3 < ((jX12_gather I 8 a1 a2) 115 (8 : Int32).toNatClampNeg) then (jX12_gather I 8 a1 a2) else (jX12_findsM (jX12_gather I 8 a1 a2))) else (jX12_findsM I))) else (jX12_findsM I))
def jX12_wayK (I : IM) (a1 : Int32) (a2 : Int32) (a3 : Int32) (a4 : Int32) : Prop := (((¬ (twM I a1 a2)) → True) ∧ ((twM I a1 a2) → (((a3 < 0) → True) ∧ ((¬ a3 < 0) → ((((-1) ≤ a4) → (((jX12_gatherK I 8 a1 a2)) ∧ (vp_in 8 9 ∧ (((a3 < ((jX12_gather I 8 a1 a2) 115 (8 : Int32).toNatClampNeg)) → (((0 ≤ a4) → (vp_in (2048 + a3) 2304 ∧ (vp_in (2048 + a3) 2304 ∧ ((jX12_digitK (jX12_gather I 8 a1 a2) ((jX12_gather I 8 a1 a2) 116 (2048 + a3).toNatClampNeg) ((jX12_gather I 8 a1 a2) 117 (2048 + a3).toNatClampNeg) a4))))) ∧ ((¬ 0 ≤ a4) → vp_in (2048 + a3) 2304))) ∧ ((¬ a3 < ((jX12_gather I 8 a1 a2) 115 (8 : Int32).toNatClampNeg)) → True))))) ∧ ((¬ (-1) ≤ a4) → True))))))
set_option maxRecDepth 10000 in
theorem qX12_way (d : Nat) {T : Topo} {I : IM} (hT : Lay T) (a1 : Int32) (a2 : Int32) (a3 : Int32) (a4 : Int32)  (hp : (jX12_wayK I a1 a2 a3 a4)) : CtI (d + 3) mX12_way [.ref 79, .int a1, .int a2, .int a3, .int a4] T I (fun x_ J_ => x_ = (jX12_way I a1 a2 a3 a4) ∧ J_ = (jX12_wayM I a1 a2 a3 a4)) :=
  wX12_way d hT a1 a2 a3 a4   (by
  unfold fX12_way_0
  exact ⟨fun hc1 => ⟨rfl, by unfold jX12_way; rw [if_neg hc1], by unfold jX12_wayM; rw [if_neg hc1]⟩, fun hc1 => ⟨fun hc2 => ⟨rfl, by unfold jX12_way; rw [if_pos hc1, if_pos hc2], by unfold jX12_wayM; rw [if_pos hc1, if_pos hc2]⟩, fun hc2 => ⟨fun hc3 => ⟨((((hp).2 hc1).2 hc2).1 hc3).1, ⟨(((((hp).2 hc1).2 hc2).1 hc3).2).1, ⟨fun hc4 => ⟨fun hc5 => ⟨((((((((hp).2 hc1).2 hc2).1 hc3).2).2).1 hc4).1 hc5).1, ⟨(((((((((hp).2 hc1).2 hc2).1 hc3).2).2).1 hc4).1 hc5).2).1, ⟨(((((((((hp).2 hc1).2 hc2).1 hc3).2).2).1 hc4).1 hc5).2).2, ⟨rfl, by unfold jX12_way; rw [if_pos hc1, if_neg hc2, if_pos hc3, if_pos hc4, if_pos hc5], by unfold jX12_wayM; rw [if_pos hc1, if_neg hc2, if_pos hc3, if_pos hc4]⟩⟩⟩⟩, fun hc5 => ⟨(((((((hp).2 hc1).2 hc2).1 hc3).2).2).1 hc4).2 hc5, ⟨rfl, by unfold jX12_way; rw [if_pos hc1, if_neg hc2, if_pos hc3, if_pos hc4, if_neg hc5], by unfold jX12_wayM; rw [if_pos hc1, if_neg hc2, if_pos hc3, if_pos hc4]⟩⟩⟩, fun hc4 => ⟨rfl, by unfold jX12_way; rw [if_pos hc1, if_neg hc2, if_pos hc3, if_neg hc4], by unfold jX12_wayM; rw [if_pos hc1, if_neg hc2, if_pos hc3, if_neg hc4]⟩⟩⟩⟩, fun hc3 => ⟨rfl, by unfold jX12_way; rw [if_pos hc1, if_neg hc2, if_neg hc3], by unfold jX12_wayM; rw [if_pos hc1, if_neg hc2, if_neg hc3]⟩⟩⟩⟩)

def fX12_slice_0 (T : Topo) (a1 : Int32) (a2 : Int32) (a3 : Int32) (a4 : Int32) (a5 : Int32) (Q : Int32 → Topo → IM → Prop)  (I : IM) : Prop :=
  ((((¬ (wi a1 0 4)) → (Q (jX12_finds (-1000001)) T (jX12_findsM I))) ∧ ((wi a1 0 4) → ((((¬ (twM I a2 a3)) → (Q (jX12_finds (-1000001)) T (jX12_findsM I))) ∧ ((twM I a2 a3) → ((((¬ (wi a4 1 20)) → (Q (jX12_finds (-1000001)) T (jX12_findsM I))) ∧ ((wi a4 1 20) → ((((wi a5 1 99) → (((¬ (I 79 2) = 8) → (vp_in (I 79 2) 8 ∧ (vp_in (I 79 2) 8 ∧ (vp_in (I 79 2) 8 ∧ (vp_in (I 79 2) 8 ∧ (vp_in (I 79 2) 8 ∧ (vp_in (I 79 2) 8 ∧ Q (((I 79 2) + 1) - 1) T (up2 (up2 (up2 (up2 (up2 (up2 (up2 I 90 (I 79 2).toNatClampNeg a1) 91 (I 79 2).toNatClampNeg a2) 92 (I 79 2).toNatClampNeg a3) 93 (I 79 2).toNatClampNeg a4) 94 (I 79 2).toNatClampNeg a5) 99 (I 79 2).toNatClampNeg 23) 79 2 ((I 79 2) + 1))))))))) ∧ (((I 79 2) = 8) → (Q (jX12_finds (-1000002)) T (jX12_findsM I))))) ∧ ((¬ (wi a5 1 99)) → (Q (jX12_finds (-1000001)) T (jX12_findsM I))))))))))))))
set_option maxHeartbeats 4000000 in
set_option maxRecDepth 100000 in
theorem sX12_slice_0 (d : Nat) {T : Topo} (hT : Lay T) (a1 : Int32) (a2 : Int32) (a3 : Int32) (a4 : Int32) (a5 : Int32)    {Q : Int32 → Topo → IM → Prop}   (I : IM) (h : fX12_slice_0 T a1 a2 a3 a4 a5 Q  I) : J (d + 3) mX12_slice (PI Q) 0 0 0 [some (.ref 79), some (.int a1), some (.int a2), some (.int a3), some (.int a4), some (.int a5)] [] T I 0 0 := by
  unfold fX12_slice_0 at h
  refine J.iload_n dX12_slice_0 rfl rfl ?_
  refine J.iconst (v := 0) dX12_slice_1 (by decide) ?_
  refine J.iconst (v := 4) dX12_slice_2 (by decide) ?_
  refine J.callSP (as := [.int a1, .int 0, .int 4]) (rest := []) dX12_slice_3 kX12_in vX12_in lX12_189 rfl rfl rfl (by omega) (Nat.le_refl _) (Nat.le_refl _) (qX12_in (d + 2) hT a1 0 4 ) ?_
  refine J.bz_eq (tgt := 40) dX12_slice_6 (by decide) (fun hc1 => ?_) (fun hc1 => ?_)
  · have h := h.1 hc1
    refine J.aload_n dX12_slice_40 rfl rfl ?_
    refine J.ldc (v := (-1000001)) dX12_slice_41 kcX12_199 ?_
    refine J.callVE (k := 79) (as := [.int (-1000001)]) (rest := []) dX12_slice_43 kX12_finds vX12_finds lX12_200 (hT.k 79 rfl) rfl rfl rfl rfl rfl (by omega) (Nat.le_refl _) (Nat.le_refl _) (qX12_finds (d + 2) hT (-1000001) ) ?_
    exact J.iretQ dX12_slice_46 rfl (Nat.le_refl _) (Nat.le_refl _) h
  · have h := h.2 hc1
    refine J.aload_n dX12_slice_9 rfl rfl ?_
    refine J.iload_n dX12_slice_10 rfl rfl ?_
    refine J.iload_n dX12_slice_11 rfl rfl ?_
    refine J.callVP (k := 79) (as := [.int a2, .int a3]) (rest := []) dX12_slice_12 kX12_areNodes vX12_areNodes lX12_224 (hT.k 79 rfl) rfl rfl rfl rfl rfl (by omega) (Nat.le_refl _) (Nat.le_refl _) (qX12_areNodes (d + 0) hT a2 a3 ) ?_
    refine J.bz_eq (tgt := 40) dX12_slice_15 (by decide) (fun hc2 => ?_) (fun hc2 => ?_)
    · have h := h.1 hc2
      refine J.aload_n dX12_slice_40 rfl rfl ?_
      refine J.ldc (v := (-1000001)) dX12_slice_41 kcX12_199 ?_
      refine J.callVE (k := 79) (as := [.int (-1000001)]) (rest := []) dX12_slice_43 kX12_finds vX12_finds lX12_200 (hT.k 79 rfl) rfl rfl rfl rfl rfl (by omega) (Nat.le_refl _) (Nat.le_refl _) (qX12_finds (d + 2) hT (-1000001) ) ?_
      exact J.iretQ dX12_slice_46 rfl (Nat.le_refl _) (Nat.le_refl _) h
    · have h := h.2 hc2
      refine J.iload dX12_slice_18 rfl ?_
      refine J.iconst (v := 1) dX12_slice_20 (by decide) ?_
      refine J.bipush (v := 20) dX12_slice_21 (by decide) ?_
      refine J.callSP (as := [.int a4, .int 1, .int 20]) (rest := []) dX12_slice_23 kX12_in vX12_in lX12_189 rfl rfl rfl (by omega) (Nat.le_refl _) (Nat.le_refl _) (qX12_in (d + 2) hT a4 1 20 ) ?_
      refine J.bz_eq (tgt := 40) dX12_slice_26 (by decide) (fun hc3 => ?_) (fun hc3 => ?_)
      · have h := h.1 hc3
        refine J.aload_n dX12_slice_40 rfl rfl ?_
        refine J.ldc (v := (-1000001)) dX12_slice_41 kcX12_199 ?_
        refine J.callVE (k := 79) (as := [.int (-1000001)]) (rest := []) dX12_slice_43 kX12_finds vX12_finds lX12_200 (hT.k 79 rfl) rfl rfl rfl rfl rfl (by omega) (Nat.le_refl _) (Nat.le_refl _) (qX12_finds (d + 2) hT (-1000001) ) ?_
        exact J.iretQ dX12_slice_46 rfl (Nat.le_refl _) (Nat.le_refl _) h
      · have h := h.2 hc3
        refine J.iload dX12_slice_29 rfl ?_
        refine J.iconst (v := 1) dX12_slice_31 (by decide) ?_
        refine J.bipush (v := 99) dX12_slice_32 (by decide) ?_
        refine J.callSP (as := [.int a5, .int 1, .int 99]) (rest := []) dX12_slice_34 kX12_in vX12_in lX12_189 rfl rfl rfl (by omega) (Nat.le_refl _) (Nat.le_refl _) (qX12_in (d + 2) hT a5 1 99 ) ?_
        refine J.bz_ne (tgt := 47) dX12_slice_37 (by decide) (fun hc4 => ?_) (fun hc4 => ?_)
        · have h := h.1 hc4
          refine J.aload_n dX12_slice_47 rfl rfl ?_
          refine J.getI dX12_slice_48 fX12_196 (hT.k 79 rfl) rfl ?_
          refine J.bipush (v := 8) dX12_slice_51 (by decide) ?_
          refine J.icmp_ne (tgt := 63) dX12_slice_53 (by decide) (fun hc5 => ?_) (fun hc5 => ?_)
          · have h := h.1 hc5
            refine J.aload_n dX12_slice_63 rfl rfl ?_
            refine J.getR (r := 90) dX12_slice_64 fX12_45 (hT.k 79 rfl) rfl (hT.r 79 19 rfl rfl) ?_
            refine J.aload_n dX12_slice_67 rfl rfl ?_
            refine J.getI dX12_slice_68 fX12_196 (hT.k 79 rfl) rfl ?_
            refine J.iload_n dX12_slice_71 rfl rfl ?_
            obtain ⟨hs6, h⟩ := h
            refine J.iast dX12_slice_72 (hT.k 90 rfl) (hT.l 90 rfl) hs6 ?_
            refine J.aload_n dX12_slice_73 rfl rfl ?_
            refine J.getR (r := 91) dX12_slice_74 fX12_48 (hT.k 79 rfl) rfl (hT.r 79 20 rfl rfl) ?_
            refine J.aload_n dX12_slice_77 rfl rfl ?_
            refine J.getI dX12_slice_78 fX12_196 (hT.k 79 rfl) rfl ?_
            refine J.topEq (y := (I 79 2)) (up2_o _ _ _ _ (by decide)) ?_
            refine J.iload_n dX12_slice_81 rfl rfl ?_
            obtain ⟨hs7, h⟩ := h
            refine J.iast dX12_slice_82 (hT.k 91 rfl) (hT.l 91 rfl) hs7 ?_
            refine J.aload_n dX12_slice_83 rfl rfl ?_
            refine J.getR (r := 92) dX12_slice_84 fX12_51 (hT.k 79 rfl) rfl (hT.r 79 21 rfl rfl) ?_
            refine J.aload_n dX12_slice_87 rfl rfl ?_
            refine J.getI dX12_slice_88 fX12_196 (hT.k 79 rfl) rfl ?_
            refine J.topEq (y := (I 79 2)) (Eq.trans (up2_o _ _ _ _ (by decide)) (up2_o _ _ _ _ (by decide))) ?_
            refine J.iload_n dX12_slice_91 rfl rfl ?_
            obtain ⟨hs8, h⟩ := h
            refine J.iast dX12_slice_92 (hT.k 92 rfl) (hT.l 92 rfl) hs8 ?_
            refine J.aload_n dX12_slice_93 rfl rfl ?_
            refine J.getR (r := 93) dX12_slice_94 fX12_54 (hT.k 79 rfl) rfl (hT.r 79 22 rfl rfl) ?_
            refine J.aload_n dX12_slice_97 rfl rfl ?_
            refine J.getI dX12_slice_98 fX12_196 (hT.k 79 rfl) rfl ?_
            refine J.topEq (y := (I 79 2)) (Eq.trans (up2_o _ _ _ _ (by decide)) (Eq.trans (up2_o _ _ _ _ (by decide)) (up2_o _ _ _ _ (by decide)))) ?_
            refine J.iload dX12_slice_101 rfl ?_
            obtain ⟨hs9, h⟩ := h
            refine J.iast dX12_slice_103 (hT.k 93 rfl) (hT.l 93 rfl) hs9 ?_
            refine J.aload_n dX12_slice_104 rfl rfl ?_
            refine J.getR (r := 94) dX12_slice_105 fX12_57 (hT.k 79 rfl) rfl (hT.r 79 23 rfl rfl) ?_
            refine J.aload_n dX12_slice_108 rfl rfl ?_
            refine J.getI dX12_slice_109 fX12_196 (hT.k 79 rfl) rfl ?_
            refine J.topEq (y := (I 79 2)) (Eq.trans (up2_o _ _ _ _ (by decide)) (Eq.trans (up2_o _ _ _ _ (by decide)) (Eq.trans (up2_o _ _ _ _ (by decide)) (up2_o _ _ _ _ (by decide))))) ?_
            refine J.iload dX12_slice_112 rfl ?_
            obtain ⟨hs10, h⟩ := h
            refine J.iast dX12_slice_114 (hT.k 94 rfl) (hT.l 94 rfl) hs10 ?_
            refine J.aload_n dX12_slice_115 rfl rfl ?_
            refine J.getR (r := 99) dX12_slice_116 fX12_72 (hT.k 79 rfl) rfl (hT.r 79 28 rfl rfl) ?_
            refine J.aload_n dX12_slice_119 rfl rfl ?_
            refine J.getI dX12_slice_120 fX12_196 (hT.k 79 rfl) rfl ?_
            refine J.topEq (y := (I 79 2)) (Eq.trans (up2_o _ _ _ _ (by decide)) (Eq.trans (up2_o _ _ _ _ (by decide)) (Eq.trans (up2_o _ _ _ _ (by decide)) (Eq.trans (up2_o _ _ _ _ (by decide)) (up2_o _ _ _ _ (by decide)))))) ?_
            refine J.bipush (v := 23) dX12_slice_123 (by decide) ?_
            obtain ⟨hs11, h⟩ := h
            refine J.iast dX12_slice_125 (hT.k 99 rfl) (hT.l 99 rfl) hs11 ?_
            refine J.aload_n dX12_slice_126 rfl rfl ?_
            refine J.dup dX12_slice_127 rfl ?_
            refine J.getI dX12_slice_128 fX12_196 (hT.k 79 rfl) rfl ?_
            refine J.topEq (y := (I 79 2)) (Eq.trans (up2_o _ _ _ _ (by decide)) (Eq.trans (up2_o _ _ _ _ (by decide)) (Eq.trans (up2_o _ _ _ _ (by decide)) (Eq.trans (up2_o _ _ _ _ (by decide)) (Eq.trans (up2_o _ _ _ _ (by decide)) (up2_o _ _ _ _ (by decide))))))) ?_
            refine J.iconst (v := 1) dX12_slice_131 (by decide) ?_
            refine J.iadd dX12_slice_132 ?_
            refine J.putI dX12_slice_133 fX12_196 (hT.k 79 rfl) rfl ?_
            refine J.aload_n dX12_slice_136 rfl rfl ?_
            refine J.atpc (pc' := 137) rfl ?_
            refine J.getI dX12_slice_137 fX12_196 (hT.k 79 rfl) rfl ?_
            refine J.topEq (y := ((I 79 2) + 1)) (up2_at _ _ _ _) ?_
            refine J.iconst (v := 1) dX12_slice_140 (by decide) ?_
            refine J.isub dX12_slice_141 ?_
            exact J.iretQ dX12_slice_142 rfl (Nat.le_refl _) (Nat.le_refl _) h
          · have h := h.2 hc5
            refine J.aload_n dX12_slice_56 rfl rfl ?_
            refine J.ldc (v := (-1000002)) dX12_slice_57 kcX12_204 ?_
            refine J.callVE (k := 79) (as := [.int (-1000002)]) (rest := []) dX12_slice_59 kX12_finds vX12_finds lX12_200 (hT.k 79 rfl) rfl rfl rfl rfl rfl (by omega) (Nat.le_refl _) (Nat.le_refl _) (qX12_finds (d + 2) hT (-1000002) ) ?_
            exact J.iretQ dX12_slice_62 rfl (Nat.le_refl _) (Nat.le_refl _) h
        · have h := h.2 hc4
          refine J.aload_n dX12_slice_40 rfl rfl ?_
          refine J.ldc (v := (-1000001)) dX12_slice_41 kcX12_199 ?_
          refine J.callVE (k := 79) (as := [.int (-1000001)]) (rest := []) dX12_slice_43 kX12_finds vX12_finds lX12_200 (hT.k 79 rfl) rfl rfl rfl rfl rfl (by omega) (Nat.le_refl _) (Nat.le_refl _) (qX12_finds (d + 2) hT (-1000001) ) ?_
          exact J.iretQ dX12_slice_46 rfl (Nat.le_refl _) (Nat.le_refl _) h
set_option maxHeartbeats 4000000 in
set_option maxRecDepth 100000 in
theorem wX12_slice (d : Nat) {T : Topo} (hT : Lay T) (a1 : Int32) (a2 : Int32) (a3 : Int32) (a4 : Int32) (a5 : Int32)   {Q : Int32 → Topo → IM → Prop} {I : IM} (h : fX12_slice_0 T a1 a2 a3 a4 a5 Q I) : Ct (d + 3) mX12_slice [.ref 79, .int a1, .int a2, .int a3, .int a4, .int a5] T I 0 0 (PI Q) :=
  Ct.ofJ (by decide +kernel) rfl (by intro v hv; revert v hv; simp [Value.category]) rfl (sX12_slice_0 d hT a1 a2 a3 a4 a5   I h)

def jX12_slice (I : IM) (a1 : Int32) (a2 : Int32) (a3 : Int32) (a4 : Int32) (a5 : Int32) : Int32 := (if wi a1 0 4 then (if twM I a2 a3 then (if wi a4 1 20 then (if wi a5 1 99 then (if (I 79 2) = 8 then (jX12_finds (-1000002)) else (((I 79 2) + 1) - 1)) else (jX12_finds (-1000001))) else (jX12_finds (-1000001))) else (jX12_finds (-1000001))) else (jX12_finds (-1000001)))
def jX12_sliceM (I : IM) (a1 : Int32) (a2 : Int32) (a3 : Int32) (a4 : Int32) (a5 : Int32) : IM := (if wi a1 0 4 then (if twM I a2 a3 then (if wi a4 1 20 then (if wi a5 1 99 then (if (I 79 2) = 8 then (jX12_findsM I) else (up2 (up2 (up2 (up2 (up2 (up2 (up2 I 90 (I 79 2).toNatClampNeg a1) 91 (I 79 2).toNatClampNeg a2) 92 (I 79 2).toNatClampNeg a3) 93 (I 79 2).toNatClampNeg a4) 94 (I 79 2).toNatClampNeg a5) 99 (I 79 2).toNatClampNeg 23) 79 2 ((I 79 2) + 1))) else (jX12_findsM I)) else (jX12_findsM I)) else (jX12_findsM I)) else (jX12_findsM I))
def jX12_sliceK (I : IM) (a1 : Int32) (a2 : Int32) (a3 : Int32) (a4 : Int32) (a5 : Int32) : Prop := (((¬ (wi a1 0 4)) → True) ∧ ((wi a1 0 4) → (((¬ (twM I a2 a3)) → True) ∧ ((twM I a2 a3) → (((¬ (wi a4 1 20)) → True) ∧ ((wi a4 1 20) → (((wi a5 1 99) → (((¬ (I 79 2) = 8) → (vp_in (I 79 2) 8 ∧ (vp_in (I 79 2) 8 ∧ (vp_in (I 79 2) 8 ∧ (vp_in (I 79 2) 8 ∧ (vp_in (I 79 2) 8 ∧ vp_in (I 79 2) 8)))))) ∧ (((I 79 2) = 8) → True))) ∧ ((¬ (wi a5 1 99)) → True))))))))
set_option maxRecDepth 10000 in
theorem qX12_slice (d : Nat) {T : Topo} {I : IM} (hT : Lay T) (a1 : Int32) (a2 : Int32) (a3 : Int32) (a4 : Int32) (a5 : Int32)  (hp : (jX12_sliceK I a1 a2 a3 a4 a5)) : CtI (d + 3) mX12_slice [.ref 79, .int a1, .int a2, .int a3, .int a4, .int a5] T I (fun x_ J_ => x_ = (jX12_slice I a1 a2 a3 a4 a5) ∧ J_ = (jX12_sliceM I a1 a2 a3 a4 a5)) :=
  wX12_slice d hT a1 a2 a3 a4 a5   (by
  unfold fX12_slice_0
  exact ⟨fun hc1 => ⟨rfl, by unfold jX12_slice; rw [if_neg hc1], by unfold jX12_sliceM; rw [if_neg hc1]⟩, fun hc1 => ⟨fun hc2 => ⟨rfl, by unfold jX12_slice; rw [if_pos hc1, if_neg hc2], by unfold jX12_sliceM; rw [if_pos hc1, if_neg hc2]⟩, fun hc2 => ⟨fun hc3 => ⟨rfl, by unfold jX12_slice; rw [if_pos hc1, if_pos hc2, if_neg hc3], by unfold jX12_sliceM; rw [if_pos hc1, if_pos hc2, if_neg hc3]⟩, fun hc3 => ⟨fun hc4 => ⟨fun hc5 => ⟨((((((hp).2 hc1).2 hc2).2 hc3).1 hc4).1 hc5).1, ⟨(((((((hp).2 hc1).2 hc2).2 hc3).1 hc4).1 hc5).2).1, ⟨((((((((hp).2 hc1).2 hc2).2 hc3).1 hc4).1 hc5).2).2).1, ⟨(((((((((hp).2 hc1).2 hc2).2 hc3).1 hc4).1 hc5).2).2).2).1, ⟨((((((((((hp).2 hc1).2 hc2).2 hc3).1 hc4).1 hc5).2).2).2).2).1, ⟨((((((((((hp).2 hc1).2 hc2).2 hc3).1 hc4).1 hc5).2).2).2).2).2, ⟨rfl, by unfold jX12_slice; rw [if_pos hc1, if_pos hc2, if_pos hc3, if_pos hc4, if_neg hc5], by unfold jX12_sliceM; rw [if_pos hc1, if_pos hc2, if_pos hc3, if_pos hc4, if_neg hc5]⟩⟩⟩⟩⟩⟩⟩, fun hc5 => ⟨rfl, by unfold jX12_slice; rw [if_pos hc1, if_pos hc2, if_pos hc3, if_pos hc4, if_pos hc5], by unfold jX12_sliceM; rw [if_pos hc1, if_pos hc2, if_pos hc3, if_pos hc4, if_pos hc5]⟩⟩, fun hc4 => ⟨rfl, by unfold jX12_slice; rw [if_pos hc1, if_pos hc2, if_pos hc3, if_neg hc4], by unfold jX12_sliceM; rw [if_pos hc1, if_pos hc2, if_pos hc3, if_neg hc4]⟩⟩⟩⟩⟩)

def fX12_terms_0 (T : Topo) (a1 : Int32) (a2 : Int32) (a3 : Int32) (a4 : Int32) (Q : Int32 → Topo → IM → Prop)  (I : IM) : Prop :=
  ((((¬ (wi a1 0 (I 79 2 - 1))) → (Q (jX12_finds (-1000001)) T (jX12_findsM I))) ∧ ((wi a1 0 (I 79 2 - 1)) → (vp_in a1 8 ∧ ((((¬ (wi a2 0 (I 93 a1.toNatClampNeg))) → (Q (jX12_finds (-1000001)) T (jX12_findsM I))) ∧ ((wi a2 0 (I 93 a1.toNatClampNeg)) → ((((¬ (wi a3 0 20)) → (Q (jX12_finds (-1000001)) T (jX12_findsM I))) ∧ ((wi a3 0 20) → ((((wi a4 0 1000) → (vp_in a1 8 ∧ ((((I 106 a1.toNatClampNeg) = 0) → (vp_in a1 8 ∧ (vp_in a1 8 ∧ (vp_in a1 8 ∧ Q 1 T (up2 (up2 (up2 I 95 a1.toNatClampNeg a2) 96 a1.toNatClampNeg a3) 97 a1.toNatClampNeg a4))))) ∧ ((¬ (I 106 a1.toNatClampNeg) = 0) → (Q (jX12_finds (-1000003)) T (jX12_findsM I)))))) ∧ ((¬ (wi a4 0 1000)) → (Q (jX12_finds (-1000001)) T (jX12_findsM I)))))))))))))))
set_option maxHeartbeats 4000000 in
set_option maxRecDepth 100000 in
theorem sX12_terms_0 (d : Nat) {T : Topo} (hT : Lay T) (a1 : Int32) (a2 : Int32) (a3 : Int32) (a4 : Int32)    {Q : Int32 → Topo → IM → Prop}   (I : IM) (h : fX12_terms_0 T a1 a2 a3 a4 Q  I) : J (d + 2) mX12_terms (PI Q) 0 0 0 [some (.ref 79), some (.int a1), some (.int a2), some (.int a3), some (.int a4)] [] T I 0 0 := by
  unfold fX12_terms_0 at h
  refine J.aload_n dX12_terms_0 rfl rfl ?_
  refine J.iload_n dX12_terms_1 rfl rfl ?_
  refine J.callVP (k := 79) (as := [.int a1]) (rest := []) dX12_terms_2 kX12_isSlice vX12_isSlice lX12_235 (hT.k 79 rfl) rfl rfl rfl rfl rfl (by omega) (Nat.le_refl _) (Nat.le_refl _) (qX12_isSlice (d + 0) hT a1 ) ?_
  refine J.bz_eq (tgt := 44) dX12_terms_5 (by decide) (fun hc1 => ?_) (fun hc1 => ?_)
  · have h := h.1 hc1
    refine J.aload_n dX12_terms_44 rfl rfl ?_
    refine J.ldc (v := (-1000001)) dX12_terms_45 kcX12_199 ?_
    refine J.callVE (k := 79) (as := [.int (-1000001)]) (rest := []) dX12_terms_47 kX12_finds vX12_finds lX12_200 (hT.k 79 rfl) rfl rfl rfl rfl rfl (by omega) (Nat.le_refl _) (Nat.le_refl _) (qX12_finds (d + 1) hT (-1000001) ) ?_
    exact J.iretQ dX12_terms_50 rfl (Nat.le_refl _) (Nat.le_refl _) h
  · have h := h.2 hc1
    refine J.iload_n dX12_terms_8 rfl rfl ?_
    refine J.iconst (v := 0) dX12_terms_9 (by decide) ?_
    refine J.aload_n dX12_terms_10 rfl rfl ?_
    refine J.getR (r := 93) dX12_terms_11 fX12_54 (hT.k 79 rfl) rfl (hT.r 79 22 rfl rfl) ?_
    refine J.iload_n dX12_terms_14 rfl rfl ?_
    obtain ⟨hs2, h⟩ := h
    refine J.iald dX12_terms_15 (hT.k 93 rfl) (hT.l 93 rfl) hs2 ?_
    refine J.callSP (as := [.int a2, .int 0, .int (I 93 a1.toNatClampNeg)]) (rest := []) dX12_terms_16 kX12_in vX12_in lX12_189 rfl rfl rfl (by omega) (Nat.le_refl _) (Nat.le_refl _) (qX12_in (d + 1) hT a2 0 (I 93 a1.toNatClampNeg) ) ?_
    refine J.bz_eq (tgt := 44) dX12_terms_19 (by decide) (fun hc3 => ?_) (fun hc3 => ?_)
    · have h := h.1 hc3
      refine J.aload_n dX12_terms_44 rfl rfl ?_
      refine J.ldc (v := (-1000001)) dX12_terms_45 kcX12_199 ?_
      refine J.callVE (k := 79) (as := [.int (-1000001)]) (rest := []) dX12_terms_47 kX12_finds vX12_finds lX12_200 (hT.k 79 rfl) rfl rfl rfl rfl rfl (by omega) (Nat.le_refl _) (Nat.le_refl _) (qX12_finds (d + 1) hT (-1000001) ) ?_
      exact J.iretQ dX12_terms_50 rfl (Nat.le_refl _) (Nat.le_refl _) h
    · have h := h.2 hc3
      refine J.iload_n dX12_terms_22 rfl rfl ?_
      refine J.iconst (v := 0) dX12_terms_23 (by decide) ?_
      refine J.bipush (v := 20) dX12_terms_24 (by decide) ?_
      refine J.callSP (as := [.int a3, .int 0, .int 20]) (rest := []) dX12_terms_26 kX12_in vX12_in lX12_189 rfl rfl rfl (by omega) (Nat.le_refl _) (Nat.le_refl _) (qX12_in (d + 1) hT a3 0 20 ) ?_
      refine J.bz_eq (tgt := 44) dX12_terms_29 (by decide) (fun hc4 => ?_) (fun hc4 => ?_)
      · have h := h.1 hc4
        refine J.aload_n dX12_terms_44 rfl rfl ?_
        refine J.ldc (v := (-1000001)) dX12_terms_45 kcX12_199 ?_
        refine J.callVE (k := 79) (as := [.int (-1000001)]) (rest := []) dX12_terms_47 kX12_finds vX12_finds lX12_200 (hT.k 79 rfl) rfl rfl rfl rfl rfl (by omega) (Nat.le_refl _) (Nat.le_refl _) (qX12_finds (d + 1) hT (-1000001) ) ?_
        exact J.iretQ dX12_terms_50 rfl (Nat.le_refl _) (Nat.le_refl _) h
      · have h := h.2 hc4
        refine J.iload dX12_terms_32 rfl ?_
        refine J.iconst (v := 0) dX12_terms_34 (by decide) ?_
        refine J.sipush (v := 1000) dX12_terms_35 (by decide) ?_
        refine J.callSP (as := [.int a4, .int 0, .int 1000]) (rest := []) dX12_terms_38 kX12_in vX12_in lX12_189 rfl rfl rfl (by omega) (Nat.le_refl _) (Nat.le_refl _) (qX12_in (d + 1) hT a4 0 1000 ) ?_
        refine J.bz_ne (tgt := 51) dX12_terms_41 (by decide) (fun hc5 => ?_) (fun hc5 => ?_)
        · have h := h.1 hc5
          refine J.aload_n dX12_terms_51 rfl rfl ?_
          refine J.getR (r := 106) dX12_terms_52 fX12_93 (hT.k 79 rfl) rfl (hT.r 79 35 rfl rfl) ?_
          refine J.iload_n dX12_terms_55 rfl rfl ?_
          obtain ⟨hs6, h⟩ := h
          refine J.bald dX12_terms_56 (hT.k 106 rfl) (hT.l 106 rfl) hs6 ?_
          refine J.if_eq (tgt := 67) dX12_terms_57 (by decide) (fun hc7 => ?_) (fun hc7 => ?_)
          · have h := h.1 hc7
            refine J.aload_n dX12_terms_67 rfl rfl ?_
            refine J.getR (r := 95) dX12_terms_68 fX12_60 (hT.k 79 rfl) rfl (hT.r 79 24 rfl rfl) ?_
            refine J.iload_n dX12_terms_71 rfl rfl ?_
            refine J.iload_n dX12_terms_72 rfl rfl ?_
            obtain ⟨hs8, h⟩ := h
            refine J.iast dX12_terms_73 (hT.k 95 rfl) (hT.l 95 rfl) hs8 ?_
            refine J.aload_n dX12_terms_74 rfl rfl ?_
            refine J.getR (r := 96) dX12_terms_75 fX12_63 (hT.k 79 rfl) rfl (hT.r 79 25 rfl rfl) ?_
            refine J.iload_n dX12_terms_78 rfl rfl ?_
            refine J.iload_n dX12_terms_79 rfl rfl ?_
            obtain ⟨hs9, h⟩ := h
            refine J.iast dX12_terms_80 (hT.k 96 rfl) (hT.l 96 rfl) hs9 ?_
            refine J.aload_n dX12_terms_81 rfl rfl ?_
            refine J.getR (r := 97) dX12_terms_82 fX12_66 (hT.k 79 rfl) rfl (hT.r 79 26 rfl rfl) ?_
            refine J.iload_n dX12_terms_85 rfl rfl ?_
            refine J.iload dX12_terms_86 rfl ?_
            obtain ⟨hs10, h⟩ := h
            refine J.iast dX12_terms_88 (hT.k 97 rfl) (hT.l 97 rfl) hs10 ?_
            refine J.iconst (v := 1) dX12_terms_89 (by decide) ?_
            exact J.iretQ dX12_terms_90 rfl (Nat.le_refl _) (Nat.le_refl _) h
          · have h := h.2 hc7
            refine J.aload_n dX12_terms_60 rfl rfl ?_
            refine J.ldc (v := (-1000003)) dX12_terms_61 kcX12_238 ?_
            refine J.callVE (k := 79) (as := [.int (-1000003)]) (rest := []) dX12_terms_63 kX12_finds vX12_finds lX12_200 (hT.k 79 rfl) rfl rfl rfl rfl rfl (by omega) (Nat.le_refl _) (Nat.le_refl _) (qX12_finds (d + 1) hT (-1000003) ) ?_
            exact J.iretQ dX12_terms_66 rfl (Nat.le_refl _) (Nat.le_refl _) h
        · have h := h.2 hc5
          refine J.aload_n dX12_terms_44 rfl rfl ?_
          refine J.ldc (v := (-1000001)) dX12_terms_45 kcX12_199 ?_
          refine J.callVE (k := 79) (as := [.int (-1000001)]) (rest := []) dX12_terms_47 kX12_finds vX12_finds lX12_200 (hT.k 79 rfl) rfl rfl rfl rfl rfl (by omega) (Nat.le_refl _) (Nat.le_refl _) (qX12_finds (d + 1) hT (-1000001) ) ?_
          exact J.iretQ dX12_terms_50 rfl (Nat.le_refl _) (Nat.le_refl _) h
set_option maxHeartbeats 4000000 in
set_option maxRecDepth 100000 in
theorem wX12_terms (d : Nat) {T : Topo} (hT : Lay T) (a1 : Int32) (a2 : Int32) (a3 : Int32) (a4 : Int32)   {Q : Int32 → Topo → IM → Prop} {I : IM} (h : fX12_terms_0 T a1 a2 a3 a4 Q I) : Ct (d + 2) mX12_terms [.ref 79, .int a1, .int a2, .int a3, .int a4] T I 0 0 (PI Q) :=
  Ct.ofJ (by decide +kernel) rfl (by intro v hv; revert v hv; simp [Value.category]) rfl (sX12_terms_0 d hT a1 a2 a3 a4   I h)

def jX12_terms (I : IM) (a1 : Int32) (a2 : Int32) (a3 : Int32) (a4 : Int32) : Int32 := (if wi a1 0 (I 79 2 - 1) then (if wi a2 0 (I 93 a1.toNatClampNeg) then (if wi a3 0 20 then (if wi a4 0 1000 then (if (I 106 a1.toNatClampNeg) = 0 then 1 else (jX12_finds (-1000003))) else (jX12_finds (-1000001))) else (jX12_finds (-1000001))) else (jX12_finds (-1000001))) else (jX12_finds (-1000001)))
def jX12_termsM (I : IM) (a1 : Int32) (a2 : Int32) (a3 : Int32) (a4 : Int32) : IM := (if wi a1 0 (I 79 2 - 1) then (if wi a2 0 (I 93 a1.toNatClampNeg) then (if wi a3 0 20 then (if wi a4 0 1000 then (if (I 106 a1.toNatClampNeg) = 0 then (up2 (up2 (up2 I 95 a1.toNatClampNeg a2) 96 a1.toNatClampNeg a3) 97 a1.toNatClampNeg a4) else (jX12_findsM I)) else (jX12_findsM I)) else (jX12_findsM I)) else (jX12_findsM I)) else (jX12_findsM I))
def jX12_termsK (I : IM) (a1 : Int32) (a2 : Int32) (a3 : Int32) (a4 : Int32) : Prop := (((¬ (wi a1 0 (I 79 2 - 1))) → True) ∧ ((wi a1 0 (I 79 2 - 1)) → (vp_in a1 8 ∧ (((¬ (wi a2 0 (I 93 a1.toNatClampNeg))) → True) ∧ ((wi a2 0 (I 93 a1.toNatClampNeg)) → (((¬ (wi a3 0 20)) → True) ∧ ((wi a3 0 20) → (((wi a4 0 1000) → (vp_in a1 8 ∧ ((((I 106 a1.toNatClampNeg) = 0) → (vp_in a1 8 ∧ (vp_in a1 8 ∧ vp_in a1 8))) ∧ ((¬ (I 106 a1.toNatClampNeg) = 0) → True)))) ∧ ((¬ (wi a4 0 1000)) → True)))))))))
set_option maxRecDepth 10000 in
theorem qX12_terms (d : Nat) {T : Topo} {I : IM} (hT : Lay T) (a1 : Int32) (a2 : Int32) (a3 : Int32) (a4 : Int32)  (hp : (jX12_termsK I a1 a2 a3 a4)) : CtI (d + 2) mX12_terms [.ref 79, .int a1, .int a2, .int a3, .int a4] T I (fun x_ J_ => x_ = (jX12_terms I a1 a2 a3 a4) ∧ J_ = (jX12_termsM I a1 a2 a3 a4)) :=
  wX12_terms d hT a1 a2 a3 a4   (by
  unfold fX12_terms_0
  exact ⟨fun hc1 => ⟨rfl, by unfold jX12_terms; rw [if_neg hc1], by unfold jX12_termsM; rw [if_neg hc1]⟩, fun hc1 => ⟨((hp).2 hc1).1, ⟨fun hc2 => ⟨rfl, by unfold jX12_terms; rw [if_pos hc1, if_neg hc2], by unfold jX12_termsM; rw [if_pos hc1, if_neg hc2]⟩, fun hc2 => ⟨fun hc3 => ⟨rfl, by unfold jX12_terms; rw [if_pos hc1, if_pos hc2, if_neg hc3], by unfold jX12_termsM; rw [if_pos hc1, if_pos hc2, if_neg hc3]⟩, fun hc3 => ⟨fun hc4 => ⟨((((((hp).2 hc1).2).2 hc2).2 hc3).1 hc4).1, ⟨fun hc5 => ⟨((((((((hp).2 hc1).2).2 hc2).2 hc3).1 hc4).2).1 hc5).1, ⟨(((((((((hp).2 hc1).2).2 hc2).2 hc3).1 hc4).2).1 hc5).2).1, ⟨(((((((((hp).2 hc1).2).2 hc2).2 hc3).1 hc4).2).1 hc5).2).2, ⟨rfl, by unfold jX12_terms; rw [if_pos hc1, if_pos hc2, if_pos hc3, if_pos hc4, if_pos hc5], by unfold jX12_termsM; rw [if_pos hc1, if_pos hc2, if_pos hc3, if_pos hc4, if_pos hc5]⟩⟩⟩⟩, fun hc5 => ⟨rfl, by unfold jX12_terms; rw [if_pos hc1, if_pos hc2, if_pos hc3, if_pos hc4, if_neg hc5], by unfold jX12_termsM; rw [if_pos hc1, if_pos hc2, if_pos hc3, if_pos hc4, if_neg hc5]⟩⟩⟩, fun hc4 => ⟨rfl, by unfold jX12_terms; rw [if_pos hc1, if_pos hc2, if_pos hc3, if_neg hc4], by unfold jX12_termsM; rw [if_pos hc1, if_pos hc2, if_pos hc3, if_neg hc4]⟩⟩⟩⟩⟩⟩)

def fX12_span_0 (T : Topo) (a1 : Int32) (a2 : Int32) (a3 : Int32) (a4 : Int32) (Q : Int32 → Topo → IM → Prop)  (I : IM) : Prop :=
  ((((¬ (wi a1 0 (I 79 2 - 1))) → (Q (jX12_finds (-1000001)) T (jX12_findsM I))) ∧ ((wi a1 0 (I 79 2 - 1)) → ((((¬ (wi a2 0 23)) → (Q (jX12_finds (-1000001)) T (jX12_findsM I))) ∧ ((wi a2 0 23) → ((((¬ (wi a3 a2 23)) → (Q (jX12_finds (-1000001)) T (jX12_findsM I))) ∧ ((wi a3 a2 23) → ((((wi a4 0 63) → (vp_in a1 8 ∧ ((((I 106 a1.toNatClampNeg) = 0) → (vp_in a1 8 ∧ (vp_in a1 8 ∧ (vp_in a1 8 ∧ Q 1 T (up2 (up2 (up2 I 98 a1.toNatClampNeg a2) 99 a1.toNatClampNeg a3) 100 a1.toNatClampNeg a4))))) ∧ ((¬ (I 106 a1.toNatClampNeg) = 0) → (Q (jX12_finds (-1000003)) T (jX12_findsM I)))))) ∧ ((¬ (wi a4 0 63)) → (Q (jX12_finds (-1000001)) T (jX12_findsM I))))))))))))))
set_option maxHeartbeats 4000000 in
set_option maxRecDepth 100000 in
theorem sX12_span_0 (d : Nat) {T : Topo} (hT : Lay T) (a1 : Int32) (a2 : Int32) (a3 : Int32) (a4 : Int32)    {Q : Int32 → Topo → IM → Prop}   (I : IM) (h : fX12_span_0 T a1 a2 a3 a4 Q  I) : J (d + 2) mX12_span (PI Q) 0 0 0 [some (.ref 79), some (.int a1), some (.int a2), some (.int a3), some (.int a4)] [] T I 0 0 := by
  unfold fX12_span_0 at h
  refine J.aload_n dX12_span_0 rfl rfl ?_
  refine J.iload_n dX12_span_1 rfl rfl ?_
  refine J.callVP (k := 79) (as := [.int a1]) (rest := []) dX12_span_2 kX12_isSlice vX12_isSlice lX12_235 (hT.k 79 rfl) rfl rfl rfl rfl rfl (by omega) (Nat.le_refl _) (Nat.le_refl _) (qX12_isSlice (d + 0) hT a1 ) ?_
  refine J.bz_eq (tgt := 36) dX12_span_5 (by decide) (fun hc1 => ?_) (fun hc1 => ?_)
  · have h := h.1 hc1
    refine J.aload_n dX12_span_36 rfl rfl ?_
    refine J.ldc (v := (-1000001)) dX12_span_37 kcX12_199 ?_
    refine J.callVE (k := 79) (as := [.int (-1000001)]) (rest := []) dX12_span_39 kX12_finds vX12_finds lX12_200 (hT.k 79 rfl) rfl rfl rfl rfl rfl (by omega) (Nat.le_refl _) (Nat.le_refl _) (qX12_finds (d + 1) hT (-1000001) ) ?_
    exact J.iretQ dX12_span_42 rfl (Nat.le_refl _) (Nat.le_refl _) h
  · have h := h.2 hc1
    refine J.iload_n dX12_span_8 rfl rfl ?_
    refine J.callSP (as := [.int a2]) (rest := []) dX12_span_9 kX12_isTick vX12_isTick lX12_239 rfl rfl rfl (by omega) (Nat.le_refl _) (Nat.le_refl _) (qX12_isTick (d + 0) hT a2 ) ?_
    refine J.bz_eq (tgt := 36) dX12_span_12 (by decide) (fun hc2 => ?_) (fun hc2 => ?_)
    · have h := h.1 hc2
      refine J.aload_n dX12_span_36 rfl rfl ?_
      refine J.ldc (v := (-1000001)) dX12_span_37 kcX12_199 ?_
      refine J.callVE (k := 79) (as := [.int (-1000001)]) (rest := []) dX12_span_39 kX12_finds vX12_finds lX12_200 (hT.k 79 rfl) rfl rfl rfl rfl rfl (by omega) (Nat.le_refl _) (Nat.le_refl _) (qX12_finds (d + 1) hT (-1000001) ) ?_
      exact J.iretQ dX12_span_42 rfl (Nat.le_refl _) (Nat.le_refl _) h
    · have h := h.2 hc2
      refine J.iload_n dX12_span_15 rfl rfl ?_
      refine J.iload_n dX12_span_16 rfl rfl ?_
      refine J.bipush (v := 23) dX12_span_17 (by decide) ?_
      refine J.callSP (as := [.int a3, .int a2, .int 23]) (rest := []) dX12_span_19 kX12_in vX12_in lX12_189 rfl rfl rfl (by omega) (Nat.le_refl _) (Nat.le_refl _) (qX12_in (d + 1) hT a3 a2 23 ) ?_
      refine J.bz_eq (tgt := 36) dX12_span_22 (by decide) (fun hc3 => ?_) (fun hc3 => ?_)
      · have h := h.1 hc3
        refine J.aload_n dX12_span_36 rfl rfl ?_
        refine J.ldc (v := (-1000001)) dX12_span_37 kcX12_199 ?_
        refine J.callVE (k := 79) (as := [.int (-1000001)]) (rest := []) dX12_span_39 kX12_finds vX12_finds lX12_200 (hT.k 79 rfl) rfl rfl rfl rfl rfl (by omega) (Nat.le_refl _) (Nat.le_refl _) (qX12_finds (d + 1) hT (-1000001) ) ?_
        exact J.iretQ dX12_span_42 rfl (Nat.le_refl _) (Nat.le_refl _) h
      · have h := h.2 hc3
        refine J.iload dX12_span_25 rfl ?_
        refine J.iconst (v := 0) dX12_span_27 (by decide) ?_
        refine J.bipush (v := 63) dX12_span_28 (by decide) ?_
        refine J.callSP (as := [.int a4, .int 0, .int 63]) (rest := []) dX12_span_30 kX12_in vX12_in lX12_189 rfl rfl rfl (by omega) (Nat.le_refl _) (Nat.le_refl _) (qX12_in (d + 1) hT a4 0 63 ) ?_
        refine J.bz_ne (tgt := 43) dX12_span_33 (by decide) (fun hc4 => ?_) (fun hc4 => ?_)
        · have h := h.1 hc4
          refine J.aload_n dX12_span_43 rfl rfl ?_
          refine J.getR (r := 106) dX12_span_44 fX12_93 (hT.k 79 rfl) rfl (hT.r 79 35 rfl rfl) ?_
          refine J.iload_n dX12_span_47 rfl rfl ?_
          obtain ⟨hs5, h⟩ := h
          refine J.bald dX12_span_48 (hT.k 106 rfl) (hT.l 106 rfl) hs5 ?_
          refine J.if_eq (tgt := 59) dX12_span_49 (by decide) (fun hc6 => ?_) (fun hc6 => ?_)
          · have h := h.1 hc6
            refine J.aload_n dX12_span_59 rfl rfl ?_
            refine J.getR (r := 98) dX12_span_60 fX12_69 (hT.k 79 rfl) rfl (hT.r 79 27 rfl rfl) ?_
            refine J.iload_n dX12_span_63 rfl rfl ?_
            refine J.iload_n dX12_span_64 rfl rfl ?_
            obtain ⟨hs7, h⟩ := h
            refine J.iast dX12_span_65 (hT.k 98 rfl) (hT.l 98 rfl) hs7 ?_
            refine J.aload_n dX12_span_66 rfl rfl ?_
            refine J.getR (r := 99) dX12_span_67 fX12_72 (hT.k 79 rfl) rfl (hT.r 79 28 rfl rfl) ?_
            refine J.iload_n dX12_span_70 rfl rfl ?_
            refine J.iload_n dX12_span_71 rfl rfl ?_
            obtain ⟨hs8, h⟩ := h
            refine J.iast dX12_span_72 (hT.k 99 rfl) (hT.l 99 rfl) hs8 ?_
            refine J.aload_n dX12_span_73 rfl rfl ?_
            refine J.getR (r := 100) dX12_span_74 fX12_75 (hT.k 79 rfl) rfl (hT.r 79 29 rfl rfl) ?_
            refine J.iload_n dX12_span_77 rfl rfl ?_
            refine J.iload dX12_span_78 rfl ?_
            obtain ⟨hs9, h⟩ := h
            refine J.iast dX12_span_80 (hT.k 100 rfl) (hT.l 100 rfl) hs9 ?_
            refine J.iconst (v := 1) dX12_span_81 (by decide) ?_
            exact J.iretQ dX12_span_82 rfl (Nat.le_refl _) (Nat.le_refl _) h
          · have h := h.2 hc6
            refine J.aload_n dX12_span_52 rfl rfl ?_
            refine J.ldc (v := (-1000003)) dX12_span_53 kcX12_238 ?_
            refine J.callVE (k := 79) (as := [.int (-1000003)]) (rest := []) dX12_span_55 kX12_finds vX12_finds lX12_200 (hT.k 79 rfl) rfl rfl rfl rfl rfl (by omega) (Nat.le_refl _) (Nat.le_refl _) (qX12_finds (d + 1) hT (-1000003) ) ?_
            exact J.iretQ dX12_span_58 rfl (Nat.le_refl _) (Nat.le_refl _) h
        · have h := h.2 hc4
          refine J.aload_n dX12_span_36 rfl rfl ?_
          refine J.ldc (v := (-1000001)) dX12_span_37 kcX12_199 ?_
          refine J.callVE (k := 79) (as := [.int (-1000001)]) (rest := []) dX12_span_39 kX12_finds vX12_finds lX12_200 (hT.k 79 rfl) rfl rfl rfl rfl rfl (by omega) (Nat.le_refl _) (Nat.le_refl _) (qX12_finds (d + 1) hT (-1000001) ) ?_
          exact J.iretQ dX12_span_42 rfl (Nat.le_refl _) (Nat.le_refl _) h
set_option maxHeartbeats 4000000 in
set_option maxRecDepth 100000 in
theorem wX12_span (d : Nat) {T : Topo} (hT : Lay T) (a1 : Int32) (a2 : Int32) (a3 : Int32) (a4 : Int32)   {Q : Int32 → Topo → IM → Prop} {I : IM} (h : fX12_span_0 T a1 a2 a3 a4 Q I) : Ct (d + 2) mX12_span [.ref 79, .int a1, .int a2, .int a3, .int a4] T I 0 0 (PI Q) :=
  Ct.ofJ (by decide +kernel) rfl (by intro v hv; revert v hv; simp [Value.category]) rfl (sX12_span_0 d hT a1 a2 a3 a4   I h)

def jX12_span (I : IM) (a1 : Int32) (a2 : Int32) (a3 : Int32) (a4 : Int32) : Int32 := (if wi a1 0 (I 79 2 - 1) then (if wi a2 0 23 then (if wi a3 a2 23 then (if wi a4 0 63 then (if (I 106 a1.toNatClampNeg) = 0 then 1 else (jX12_finds (-1000003))) else (jX12_finds (-1000001))) else (jX12_finds (-1000001))) else (jX12_finds (-1000001))) else (jX12_finds (-1000001)))
def jX12_spanM (I : IM) (a1 : Int32) (a2 : Int32) (a3 : Int32) (a4 : Int32) : IM := (if wi a1 0 (I 79 2 - 1) then (if wi a2 0 23 then (if wi a3 a2 23 then (if wi a4 0 63 then (if (I 106 a1.toNatClampNeg) = 0 then (up2 (up2 (up2 I 98 a1.toNatClampNeg a2) 99 a1.toNatClampNeg a3) 100 a1.toNatClampNeg a4) else (jX12_findsM I)) else (jX12_findsM I)) else (jX12_findsM I)) else (jX12_findsM I)) else (jX12_findsM I))
def jX12_spanK (I : IM) (a1 : Int32) (a2 : Int32) (a3 : Int32) (a4 : Int32) : Prop := (((¬ (wi a1 0 (I 79 2 - 1))) → True) ∧ ((wi a1 0 (I 79 2 - 1)) → (((¬ (wi a2 0 23)) → True) ∧ ((wi a2 0 23) → (((¬ (wi a3 a2 23)) → True) ∧ ((wi a3 a2 23) → (((wi a4 0 63) → (vp_in a1 8 ∧ ((((I 106 a1.toNatClampNeg) = 0) → (vp_in a1 8 ∧ (vp_in a1 8 ∧ vp_in a1 8))) ∧ ((¬ (I 106 a1.toNatClampNeg) = 0) → True)))) ∧ ((¬ (wi a4 0 63)) → True))))))))
set_option maxRecDepth 10000 in
theorem qX12_span (d : Nat) {T : Topo} {I : IM} (hT : Lay T) (a1 : Int32) (a2 : Int32) (a3 : Int32) (a4 : Int32)  (hp : (jX12_spanK I a1 a2 a3 a4)) : CtI (d + 2) mX12_span [.ref 79, .int a1, .int a2, .int a3, .int a4] T I (fun x_ J_ => x_ = (jX12_span I a1 a2 a3 a4) ∧ J_ = (jX12_spanM I a1 a2 a3 a4)) :=
  wX12_span d hT a1 a2 a3 a4   (by
  unfold fX12_span_0
  exact ⟨fun hc1 => ⟨rfl, by unfold jX12_span; rw [if_neg hc1], by unfold jX12_spanM; rw [if_neg hc1]⟩, fun hc1 => ⟨fun hc2 => ⟨rfl, by unfold jX12_span; rw [if_pos hc1, if_neg hc2], by unfold jX12_spanM; rw [if_pos hc1, if_neg hc2]⟩, fun hc2 => ⟨fun hc3 => ⟨rfl, by unfold jX12_span; rw [if_pos hc1, if_pos hc2, if_neg hc3], by unfold jX12_spanM; rw [if_pos hc1, if_pos hc2, if_neg hc3]⟩, fun hc3 => ⟨fun hc4 => ⟨(((((hp).2 hc1).2 hc2).2 hc3).1 hc4).1, ⟨fun hc5 => ⟨(((((((hp).2 hc1).2 hc2).2 hc3).1 hc4).2).1 hc5).1, ⟨((((((((hp).2 hc1).2 hc2).2 hc3).1 hc4).2).1 hc5).2).1, ⟨((((((((hp).2 hc1).2 hc2).2 hc3).1 hc4).2).1 hc5).2).2, ⟨rfl, by unfold jX12_span; rw [if_pos hc1, if_pos hc2, if_pos hc3, if_pos hc4, if_pos hc5], by unfold jX12_spanM; rw [if_pos hc1, if_pos hc2, if_pos hc3, if_pos hc4, if_pos hc5]⟩⟩⟩⟩, fun hc5 => ⟨rfl, by unfold jX12_span; rw [if_pos hc1, if_pos hc2, if_pos hc3, if_pos hc4, if_neg hc5], by unfold jX12_spanM; rw [if_pos hc1, if_pos hc2, if_pos hc3, if_pos hc4, if_neg hc5]⟩⟩⟩, fun hc4 => ⟨rfl, by unfold jX12_span; rw [if_pos hc1, if_pos hc2, if_pos hc3, if_neg hc4], by unfold jX12_spanM; rw [if_pos hc1, if_pos hc2, if_pos hc3, if_neg hc4]⟩⟩⟩⟩⟩)

def fX12_as_0 (T : Topo) (a1 : Int32) (a2 : Int32) (Q : Int32 → Topo → IM → Prop)  (I : IM) : Prop :=
  ((((¬ (wi a1 0 (I 79 2 - 1))) → (Q (jX12_finds (-1000001)) T (jX12_findsM I))) ∧ ((wi a1 0 (I 79 2 - 1)) → ((((wi a2 0 4) → (vp_in a1 8 ∧ (((a2 = 0) → Q a1 T I) ∧ ((¬ a2 = 0) → (((a2 = (I 90 a1.toNatClampNeg)) → Q a1 T I) ∧ ((¬ a2 = (I 90 a1.toNatClampNeg)) → (((¬ a2 = 2) → (Q (jX12_finds (-1000004)) T (jX12_findsM I))) ∧ ((a2 = 2) → (((¬ (I 90 a1.toNatClampNeg) = 3) → (Q (jX12_finds (-1000004)) T (jX12_findsM I))) ∧ (((I 90 a1.toNatClampNeg) = 3) → Q a1 T I)))))))))) ∧ ((¬ (wi a2 0 4)) → (Q (jX12_finds (-1000001)) T (jX12_findsM I))))))))
set_option maxHeartbeats 4000000 in
set_option maxRecDepth 100000 in
theorem sX12_as_0 (d : Nat) {T : Topo} (hT : Lay T) (a1 : Int32) (a2 : Int32)    {Q : Int32 → Topo → IM → Prop}   (I : IM) (h : fX12_as_0 T a1 a2 Q  I) : J (d + 2) mX12_as (PI Q) 0 0 0 [some (.ref 79), some (.int a1), some (.int a2), none, none] [] T I 0 0 := by
  unfold fX12_as_0 at h
  refine J.aload_n dX12_as_0 rfl rfl ?_
  refine J.iload_n dX12_as_1 rfl rfl ?_
  refine J.callVP (k := 79) (as := [.int a1]) (rest := []) dX12_as_2 kX12_isSlice vX12_isSlice lX12_235 (hT.k 79 rfl) rfl rfl rfl rfl rfl (by omega) (Nat.le_refl _) (Nat.le_refl _) (qX12_isSlice (d + 0) hT a1 ) ?_
  refine J.bz_eq (tgt := 17) dX12_as_5 (by decide) (fun hc1 => ?_) (fun hc1 => ?_)
  · have h := h.1 hc1
    refine J.aload_n dX12_as_17 rfl rfl ?_
    refine J.ldc (v := (-1000001)) dX12_as_18 kcX12_199 ?_
    refine J.callVE (k := 79) (as := [.int (-1000001)]) (rest := []) dX12_as_20 kX12_finds vX12_finds lX12_200 (hT.k 79 rfl) rfl rfl rfl rfl rfl (by omega) (Nat.le_refl _) (Nat.le_refl _) (qX12_finds (d + 1) hT (-1000001) ) ?_
    exact J.iretQ dX12_as_23 rfl (Nat.le_refl _) (Nat.le_refl _) h
  · have h := h.2 hc1
    refine J.iload_n dX12_as_8 rfl rfl ?_
    refine J.iconst (v := 0) dX12_as_9 (by decide) ?_
    refine J.iconst (v := 4) dX12_as_10 (by decide) ?_
    refine J.callSP (as := [.int a2, .int 0, .int 4]) (rest := []) dX12_as_11 kX12_in vX12_in lX12_189 rfl rfl rfl (by omega) (Nat.le_refl _) (Nat.le_refl _) (qX12_in (d + 1) hT a2 0 4 ) ?_
    refine J.bz_ne (tgt := 24) dX12_as_14 (by decide) (fun hc2 => ?_) (fun hc2 => ?_)
    · have h := h.1 hc2
      refine J.aload_n dX12_as_24 rfl rfl ?_
      refine J.getR (r := 90) dX12_as_25 fX12_45 (hT.k 79 rfl) rfl (hT.r 79 19 rfl rfl) ?_
      refine J.iload_n dX12_as_28 rfl rfl ?_
      obtain ⟨hs3, h⟩ := h
      refine J.iald dX12_as_29 (hT.k 90 rfl) (hT.l 90 rfl) hs3 ?_
      refine J.istore_n (ls' := [some (.ref 79), some (.int a1), some (.int a2), some (.int (I 90 a1.toNatClampNeg)), none]) dX12_as_30 rfl rfl rfl ?_
      refine J.iload_n dX12_as_31 rfl rfl ?_
      refine J.if_eq (tgt := 50) dX12_as_32 (by decide) (fun hc4 => ?_) (fun hc4 => ?_)
      · have h := h.1 hc4
        refine J.iconst (v := 1) dX12_as_50 (by decide) ?_
        refine J.goto (tgt := 55) dX12_as_51 (by decide) ?_
        refine J.istore (ls' := [some (.ref 79), some (.int a1), some (.int a2), some (.int (I 90 a1.toNatClampNeg)), some (.int 1)]) dX12_as_55 rfl rfl ?_
        refine J.iload dX12_as_57 rfl ?_
        refine J.if_eq (tgt := 66) dX12_as_59 (by decide) (fun hc => absurd hc (by decide)) (fun hc => ?_)
        refine J.iload_n dX12_as_62 rfl rfl ?_
        refine J.goto (tgt := 72) dX12_as_63 (by decide) ?_
        refine J.atpc (pc' := 72) rfl ?_
        exact J.iretQ dX12_as_72 rfl (Nat.le_refl _) (Nat.le_refl _) h
      · have h := h.2 hc4
        refine J.iload_n dX12_as_35 rfl rfl ?_
        refine J.iload_n dX12_as_36 rfl rfl ?_
        refine J.icmp_eq (tgt := 50) dX12_as_37 (by decide) (fun hc5 => ?_) (fun hc5 => ?_)
        · have h := h.1 hc5
          refine J.iconst (v := 1) dX12_as_50 (by decide) ?_
          refine J.goto (tgt := 55) dX12_as_51 (by decide) ?_
          refine J.istore (ls' := [some (.ref 79), some (.int a1), some (.int a2), some (.int (I 90 a1.toNatClampNeg)), some (.int 1)]) dX12_as_55 rfl rfl ?_
          refine J.iload dX12_as_57 rfl ?_
          refine J.if_eq (tgt := 66) dX12_as_59 (by decide) (fun hc => absurd hc (by decide)) (fun hc => ?_)
          refine J.iload_n dX12_as_62 rfl rfl ?_
          refine J.goto (tgt := 72) dX12_as_63 (by decide) ?_
          refine J.atpc (pc' := 72) rfl ?_
          exact J.iretQ dX12_as_72 rfl (Nat.le_refl _) (Nat.le_refl _) h
        · have h := h.2 hc5
          refine J.iload_n dX12_as_40 rfl rfl ?_
          refine J.iconst (v := 2) dX12_as_41 (by decide) ?_
          refine J.icmp_ne (tgt := 54) dX12_as_42 (by decide) (fun hc6 => ?_) (fun hc6 => ?_)
          · have h := h.1 hc6
            refine J.iconst (v := 0) dX12_as_54 (by decide) ?_
            refine J.istore (ls' := [some (.ref 79), some (.int a1), some (.int a2), some (.int (I 90 a1.toNatClampNeg)), some (.int 0)]) dX12_as_55 rfl rfl ?_
            refine J.iload dX12_as_57 rfl ?_
            refine J.if_eq (tgt := 66) dX12_as_59 (by decide) (fun hc => ?_) (fun hc => absurd (by decide) hc)
            refine J.aload_n dX12_as_66 rfl rfl ?_
            refine J.ldc (v := (-1000004)) dX12_as_67 kcX12_242 ?_
            refine J.callVE (k := 79) (as := [.int (-1000004)]) (rest := []) dX12_as_69 kX12_finds vX12_finds lX12_200 (hT.k 79 rfl) rfl rfl rfl rfl rfl (by omega) (Nat.le_refl _) (Nat.le_refl _) (qX12_finds (d + 1) hT (-1000004) ) ?_
            exact J.iretQ dX12_as_72 rfl (Nat.le_refl _) (Nat.le_refl _) h
          · have h := h.2 hc6
            refine J.iload_n dX12_as_45 rfl rfl ?_
            refine J.iconst (v := 3) dX12_as_46 (by decide) ?_
            refine J.icmp_ne (tgt := 54) dX12_as_47 (by decide) (fun hc7 => ?_) (fun hc7 => ?_)
            · have h := h.1 hc7
              refine J.iconst (v := 0) dX12_as_54 (by decide) ?_
              refine J.istore (ls' := [some (.ref 79), some (.int a1), some (.int a2), some (.int (I 90 a1.toNatClampNeg)), some (.int 0)]) dX12_as_55 rfl rfl ?_
              refine J.iload dX12_as_57 rfl ?_
              refine J.if_eq (tgt := 66) dX12_as_59 (by decide) (fun hc => ?_) (fun hc => absurd (by decide) hc)
              refine J.aload_n dX12_as_66 rfl rfl ?_
              refine J.ldc (v := (-1000004)) dX12_as_67 kcX12_242 ?_
              refine J.callVE (k := 79) (as := [.int (-1000004)]) (rest := []) dX12_as_69 kX12_finds vX12_finds lX12_200 (hT.k 79 rfl) rfl rfl rfl rfl rfl (by omega) (Nat.le_refl _) (Nat.le_refl _) (qX12_finds (d + 1) hT (-1000004) ) ?_
              exact J.iretQ dX12_as_72 rfl (Nat.le_refl _) (Nat.le_refl _) h
            · have h := h.2 hc7
              refine J.iconst (v := 1) dX12_as_50 (by decide) ?_
              refine J.goto (tgt := 55) dX12_as_51 (by decide) ?_
              refine J.istore (ls' := [some (.ref 79), some (.int a1), some (.int a2), some (.int (I 90 a1.toNatClampNeg)), some (.int 1)]) dX12_as_55 rfl rfl ?_
              refine J.iload dX12_as_57 rfl ?_
              refine J.if_eq (tgt := 66) dX12_as_59 (by decide) (fun hc => absurd hc (by decide)) (fun hc => ?_)
              refine J.iload_n dX12_as_62 rfl rfl ?_
              refine J.goto (tgt := 72) dX12_as_63 (by decide) ?_
              refine J.atpc (pc' := 72) rfl ?_
              exact J.iretQ dX12_as_72 rfl (Nat.le_refl _) (Nat.le_refl _) h
    · have h := h.2 hc2
      refine J.aload_n dX12_as_17 rfl rfl ?_
      refine J.ldc (v := (-1000001)) dX12_as_18 kcX12_199 ?_
      refine J.callVE (k := 79) (as := [.int (-1000001)]) (rest := []) dX12_as_20 kX12_finds vX12_finds lX12_200 (hT.k 79 rfl) rfl rfl rfl rfl rfl (by omega) (Nat.le_refl _) (Nat.le_refl _) (qX12_finds (d + 1) hT (-1000001) ) ?_
      exact J.iretQ dX12_as_23 rfl (Nat.le_refl _) (Nat.le_refl _) h
set_option maxHeartbeats 4000000 in
set_option maxRecDepth 100000 in
theorem wX12_as (d : Nat) {T : Topo} (hT : Lay T) (a1 : Int32) (a2 : Int32)   {Q : Int32 → Topo → IM → Prop} {I : IM} (h : fX12_as_0 T a1 a2 Q I) : Ct (d + 2) mX12_as [.ref 79, .int a1, .int a2] T I 0 0 (PI Q) :=
  Ct.ofJ (by decide +kernel) rfl (by intro v hv; revert v hv; simp [Value.category]) rfl (sX12_as_0 d hT a1 a2   I h)

def jX12_as (I : IM) (a1 : Int32) (a2 : Int32) : Int32 := (if wi a1 0 (I 79 2 - 1) then (if wi a2 0 4 then (if a2 = 0 then a1 else (if a2 = (I 90 a1.toNatClampNeg) then a1 else (if a2 = 2 then (if (I 90 a1.toNatClampNeg) = 3 then a1 else (jX12_finds (-1000004))) else (jX12_finds (-1000004))))) else (jX12_finds (-1000001))) else (jX12_finds (-1000001)))
def jX12_asM (I : IM) (a1 : Int32) (a2 : Int32) : IM := (if wi a1 0 (I 79 2 - 1) then (if wi a2 0 4 then (if a2 = 0 then I else (if a2 = (I 90 a1.toNatClampNeg) then I else (if a2 = 2 then (if (I 90 a1.toNatClampNeg) = 3 then I else (jX12_findsM I)) else (jX12_findsM I)))) else (jX12_findsM I)) else (jX12_findsM I))
def jX12_asK (I : IM) (a1 : Int32) (a2 : Int32) : Prop := (((¬ (wi a1 0 (I 79 2 - 1))) → True) ∧ ((wi a1 0 (I 79 2 - 1)) → (((wi a2 0 4) → vp_in a1 8) ∧ ((¬ (wi a2 0 4)) → True))))
set_option maxRecDepth 10000 in
theorem qX12_as (d : Nat) {T : Topo} {I : IM} (hT : Lay T) (a1 : Int32) (a2 : Int32)  (hp : (jX12_asK I a1 a2)) : CtI (d + 2) mX12_as [.ref 79, .int a1, .int a2] T I (fun x_ J_ => x_ = (jX12_as I a1 a2) ∧ J_ = (jX12_asM I a1 a2)) :=
  wX12_as d hT a1 a2   (by
  unfold fX12_as_0
  exact ⟨fun hc1 => ⟨rfl, by unfold jX12_as; rw [if_neg hc1], by unfold jX12_asM; rw [if_neg hc1]⟩, fun hc1 => ⟨fun hc2 => ⟨((hp).2 hc1).1 hc2, ⟨fun hc3 => ⟨rfl, by unfold jX12_as; rw [if_pos hc1, if_pos hc2, if_pos hc3], by unfold jX12_asM; rw [if_pos hc1, if_pos hc2, if_pos hc3]⟩, fun hc3 => ⟨fun hc4 => ⟨rfl, by unfold jX12_as; rw [if_pos hc1, if_pos hc2, if_neg hc3, if_pos hc4], by unfold jX12_asM; rw [if_pos hc1, if_pos hc2, if_neg hc3, if_pos hc4]⟩, fun hc4 => ⟨fun hc5 => ⟨rfl, by unfold jX12_as; rw [if_pos hc1, if_pos hc2, if_neg hc3, if_neg hc4, if_neg hc5], by unfold jX12_asM; rw [if_pos hc1, if_pos hc2, if_neg hc3, if_neg hc4, if_neg hc5]⟩, fun hc5 => ⟨fun hc6 => ⟨rfl, by unfold jX12_as; rw [if_pos hc1, if_pos hc2, if_neg hc3, if_neg hc4, if_pos hc5, if_neg hc6], by unfold jX12_asM; rw [if_pos hc1, if_pos hc2, if_neg hc3, if_neg hc4, if_pos hc5, if_neg hc6]⟩, fun hc6 => ⟨rfl, by unfold jX12_as; rw [if_pos hc1, if_pos hc2, if_neg hc3, if_neg hc4, if_pos hc5, if_pos hc6], by unfold jX12_asM; rw [if_pos hc1, if_pos hc2, if_neg hc3, if_neg hc4, if_pos hc5, if_pos hc6]⟩⟩⟩⟩⟩⟩, fun hc2 => ⟨rfl, by unfold jX12_as; rw [if_pos hc1, if_neg hc2], by unfold jX12_asM; rw [if_pos hc1, if_neg hc2]⟩⟩⟩)

def fX12_need_0 (T : Topo) (a1 : Int32) (Q : Int32 → Topo → IM → Prop)  (I : IM) : Prop :=
  (vp_in a1 8 ∧ (((¬ (I 90 a1.toNatClampNeg) = 3) → (vp_in a1 8 ∧ (((¬ (I 90 a1.toNatClampNeg) = 2) → (vp_in a1 8 ∧ Q (I 93 a1.toNatClampNeg) T I)) ∧ (((I 90 a1.toNatClampNeg) = 2) → (vp_in a1 8 ∧ Q (I 95 a1.toNatClampNeg) T I))))) ∧ (((I 90 a1.toNatClampNeg) = 3) → Q 0 T I)))
set_option maxHeartbeats 4000000 in
set_option maxRecDepth 100000 in
theorem sX12_need_0 (d : Nat) {T : Topo} (hT : Lay T) (a1 : Int32)    {Q : Int32 → Topo → IM → Prop}   (I : IM) (h : fX12_need_0 T a1 Q  I) : J (d + 0) mX12_need (PI Q) 0 0 0 [some (.ref 79), some (.int a1)] [] T I 0 0 := by
  unfold fX12_need_0 at h
  refine J.aload_n dX12_need_0 rfl rfl ?_
  refine J.getR (r := 90) dX12_need_1 fX12_45 (hT.k 79 rfl) rfl (hT.r 79 19 rfl rfl) ?_
  refine J.iload_n dX12_need_4 rfl rfl ?_
  obtain ⟨hs1, h⟩ := h
  refine J.iald dX12_need_5 (hT.k 90 rfl) (hT.l 90 rfl) hs1 ?_
  refine J.iconst (v := 3) dX12_need_6 (by decide) ?_
  refine J.icmp_ne (tgt := 14) dX12_need_7 (by decide) (fun hc2 => ?_) (fun hc2 => ?_)
  · have h := h.1 hc2
    refine J.aload_n dX12_need_14 rfl rfl ?_
    refine J.getR (r := 90) dX12_need_15 fX12_45 (hT.k 79 rfl) rfl (hT.r 79 19 rfl rfl) ?_
    refine J.iload_n dX12_need_18 rfl rfl ?_
    obtain ⟨hs3, h⟩ := h
    refine J.iald dX12_need_19 (hT.k 90 rfl) (hT.l 90 rfl) hs3 ?_
    refine J.iconst (v := 2) dX12_need_20 (by decide) ?_
    refine J.icmp_ne (tgt := 33) dX12_need_21 (by decide) (fun hc4 => ?_) (fun hc4 => ?_)
    · have h := h.1 hc4
      refine J.aload_n dX12_need_33 rfl rfl ?_
      refine J.getR (r := 93) dX12_need_34 fX12_54 (hT.k 79 rfl) rfl (hT.r 79 22 rfl rfl) ?_
      refine J.iload_n dX12_need_37 rfl rfl ?_
      obtain ⟨hs5, h⟩ := h
      refine J.iald dX12_need_38 (hT.k 93 rfl) (hT.l 93 rfl) hs5 ?_
      exact J.iretQ dX12_need_39 rfl (Nat.le_refl _) (Nat.le_refl _) h
    · have h := h.2 hc4
      refine J.aload_n dX12_need_24 rfl rfl ?_
      refine J.getR (r := 95) dX12_need_25 fX12_60 (hT.k 79 rfl) rfl (hT.r 79 24 rfl rfl) ?_
      refine J.iload_n dX12_need_28 rfl rfl ?_
      obtain ⟨hs6, h⟩ := h
      refine J.iald dX12_need_29 (hT.k 95 rfl) (hT.l 95 rfl) hs6 ?_
      refine J.goto (tgt := 39) dX12_need_30 (by decide) ?_
      exact J.iretQ dX12_need_39 rfl (Nat.le_refl _) (Nat.le_refl _) h
  · have h := h.2 hc2
    refine J.iconst (v := 0) dX12_need_10 (by decide) ?_
    refine J.goto (tgt := 39) dX12_need_11 (by decide) ?_
    exact J.iretQ dX12_need_39 rfl (Nat.le_refl _) (Nat.le_refl _) h
set_option maxHeartbeats 4000000 in
set_option maxRecDepth 100000 in
theorem wX12_need (d : Nat) {T : Topo} (hT : Lay T) (a1 : Int32)   {Q : Int32 → Topo → IM → Prop} {I : IM} (h : fX12_need_0 T a1 Q I) : Ct (d + 0) mX12_need [.ref 79, .int a1] T I 0 0 (PI Q) :=
  Ct.ofJ (by decide +kernel) rfl (by intro v hv; revert v hv; simp [Value.category]) rfl (sX12_need_0 d hT a1   I h)

def jX12_need (I : IM) (a1 : Int32) : Int32 := (if (I 90 a1.toNatClampNeg) = 3 then 0 else (if (I 90 a1.toNatClampNeg) = 2 then (I 95 a1.toNatClampNeg) else (I 93 a1.toNatClampNeg)))
def jX12_needK (I : IM) (a1 : Int32) : Prop := (vp_in a1 8 ∧ (((¬ (I 90 a1.toNatClampNeg) = 3) → (vp_in a1 8 ∧ (((¬ (I 90 a1.toNatClampNeg) = 2) → vp_in a1 8) ∧ (((I 90 a1.toNatClampNeg) = 2) → vp_in a1 8)))) ∧ (((I 90 a1.toNatClampNeg) = 3) → True)))
set_option maxRecDepth 10000 in
theorem qX12_need (d : Nat) {T : Topo} {I : IM} (hT : Lay T) (a1 : Int32)  (hp : (jX12_needK I a1)) : CtP (d + 0) mX12_need [.ref 79, .int a1] T I ((jX12_need I a1)) :=
  wX12_need d hT a1   (by
  unfold fX12_need_0
  exact ⟨(hp).1, ⟨fun hc1 => ⟨(((hp).2).1 hc1).1, ⟨fun hc2 => ⟨((((hp).2).1 hc1).2).1 hc2, ⟨by unfold jX12_need; rw [if_neg hc1, if_neg hc2], rfl, rfl⟩⟩, fun hc2 => ⟨((((hp).2).1 hc1).2).2 hc2, ⟨by unfold jX12_need; rw [if_neg hc1, if_pos hc2], rfl, rfl⟩⟩⟩⟩, fun hc1 => ⟨by unfold jX12_need; rw [if_pos hc1], rfl, rfl⟩⟩⟩)

def fX12_does_0 (T : Topo) (a1 : Int32) (a2 : Int32) (Q : Int32 → Topo → IM → Prop)  (I : IM) : Prop :=
  (vp_in a1 8 ∧ (vp_in a1 8 ∧ ((((¬ (wi a2 (I 98 a1.toNatClampNeg) (I 99 a1.toNatClampNeg))) → Q 0 T I) ∧ ((wi a2 (I 98 a1.toNatClampNeg) (I 99 a1.toNatClampNeg)) → (vp_in a1 8 ∧ (((¬ (I 90 a1.toNatClampNeg) = 4) → Q 1 T I) ∧ (((I 90 a1.toNatClampNeg) = 4) → (vp_in a1 8 ∧ ((((¬ (hs (I 100 a1.toNatClampNeg) (a2 - a2 / 6 * 6))) → Q 0 T I) ∧ ((hs (I 100 a1.toNatClampNeg) (a2 - a2 / 6 * 6)) → Q 1 T I))))))))))))
set_option maxHeartbeats 4000000 in
set_option maxRecDepth 100000 in
theorem sX12_does_0 (d : Nat) {T : Topo} (hT : Lay T) (a1 : Int32) (a2 : Int32)    {Q : Int32 → Topo → IM → Prop}   (I : IM) (h : fX12_does_0 T a1 a2 Q  I) : J (d + 1) mX12_does (PI Q) 0 0 0 [some (.ref 79), some (.int a1), some (.int a2)] [] T I 0 0 := by
  unfold fX12_does_0 at h
  refine J.iload_n dX12_does_0 rfl rfl ?_
  refine J.aload_n dX12_does_1 rfl rfl ?_
  refine J.getR (r := 98) dX12_does_2 fX12_69 (hT.k 79 rfl) rfl (hT.r 79 27 rfl rfl) ?_
  refine J.iload_n dX12_does_5 rfl rfl ?_
  obtain ⟨hs1, h⟩ := h
  refine J.iald dX12_does_6 (hT.k 98 rfl) (hT.l 98 rfl) hs1 ?_
  refine J.aload_n dX12_does_7 rfl rfl ?_
  refine J.getR (r := 99) dX12_does_8 fX12_72 (hT.k 79 rfl) rfl (hT.r 79 28 rfl rfl) ?_
  refine J.iload_n dX12_does_11 rfl rfl ?_
  obtain ⟨hs2, h⟩ := h
  refine J.iald dX12_does_12 (hT.k 99 rfl) (hT.l 99 rfl) hs2 ?_
  refine J.callSP (as := [.int a2, .int (I 98 a1.toNatClampNeg), .int (I 99 a1.toNatClampNeg)]) (rest := []) dX12_does_13 kX12_in vX12_in lX12_189 rfl rfl rfl (by omega) (Nat.le_refl _) (Nat.le_refl _) (qX12_in (d + 0) hT a2 (I 98 a1.toNatClampNeg) (I 99 a1.toNatClampNeg) ) ?_
  refine J.bz_eq (tgt := 49) dX12_does_16 (by decide) (fun hc3 => ?_) (fun hc3 => ?_)
  · have h := h.1 hc3
    refine J.iconst (v := 0) dX12_does_49 (by decide) ?_
    exact J.zretQ dX12_does_50 rfl (Or.inl rfl) (Nat.le_refl _) (Nat.le_refl _) h
  · have h := h.2 hc3
    refine J.aload_n dX12_does_19 rfl rfl ?_
    refine J.getR (r := 90) dX12_does_20 fX12_45 (hT.k 79 rfl) rfl (hT.r 79 19 rfl rfl) ?_
    refine J.iload_n dX12_does_23 rfl rfl ?_
    obtain ⟨hs4, h⟩ := h
    refine J.iald dX12_does_24 (hT.k 90 rfl) (hT.l 90 rfl) hs4 ?_
    refine J.iconst (v := 4) dX12_does_25 (by decide) ?_
    refine J.icmp_ne (tgt := 45) dX12_does_26 (by decide) (fun hc5 => ?_) (fun hc5 => ?_)
    · have h := h.1 hc5
      refine J.iconst (v := 1) dX12_does_45 (by decide) ?_
      refine J.goto (tgt := 50) dX12_does_46 (by decide) ?_
      exact J.zretQ dX12_does_50 rfl (Or.inr rfl) (Nat.le_refl _) (Nat.le_refl _) h
    · have h := h.2 hc5
      refine J.aload_n dX12_does_29 rfl rfl ?_
      refine J.getR (r := 100) dX12_does_30 fX12_75 (hT.k 79 rfl) rfl (hT.r 79 29 rfl rfl) ?_
      refine J.iload_n dX12_does_33 rfl rfl ?_
      obtain ⟨hs6, h⟩ := h
      refine J.iald dX12_does_34 (hT.k 100 rfl) (hT.l 100 rfl) hs6 ?_
      refine J.iload_n dX12_does_35 rfl rfl ?_
      refine J.bipush (v := 6) dX12_does_36 (by decide) ?_
      refine J.irem dX12_does_38 (by decide) ?_
      refine J.callSP (as := [.int (I 100 a1.toNatClampNeg), .int (a2 - a2 / 6 * 6)]) (rest := []) dX12_does_39 kX12_has vX12_has lX12_212 rfl rfl rfl (by omega) (Nat.le_refl _) (Nat.le_refl _) (qX12_has (d + 0) hT (I 100 a1.toNatClampNeg) (a2 - a2 / 6 * 6) ) ?_
      refine J.bz_eq (tgt := 49) dX12_does_42 (by decide) (fun hc7 => ?_) (fun hc7 => ?_)
      · have h := h.1 hc7
        refine J.iconst (v := 0) dX12_does_49 (by decide) ?_
        exact J.zretQ dX12_does_50 rfl (Or.inl rfl) (Nat.le_refl _) (Nat.le_refl _) h
      · have h := h.2 hc7
        refine J.iconst (v := 1) dX12_does_45 (by decide) ?_
        refine J.goto (tgt := 50) dX12_does_46 (by decide) ?_
        exact J.zretQ dX12_does_50 rfl (Or.inr rfl) (Nat.le_refl _) (Nat.le_refl _) h
set_option maxHeartbeats 4000000 in
set_option maxRecDepth 100000 in
theorem wX12_does (d : Nat) {T : Topo} (hT : Lay T) (a1 : Int32) (a2 : Int32)   {Q : Int32 → Topo → IM → Prop} {I : IM} (h : fX12_does_0 T a1 a2 Q I) : Ct (d + 1) mX12_does [.ref 79, .int a1, .int a2] T I 0 0 (PI Q) :=
  Ct.ofJ (by decide +kernel) rfl (by intro v hv; revert v hv; simp [Value.category]) rfl (sX12_does_0 d hT a1 a2   I h)

def jX12_does (I : IM) (a1 : Int32) (a2 : Int32) : Int32 := (if wi a2 (I 98 a1.toNatClampNeg) (I 99 a1.toNatClampNeg) then (if (I 90 a1.toNatClampNeg) = 4 then (if hs (I 100 a1.toNatClampNeg) (a2 - a2 / 6 * 6) then 1 else 0) else 1) else 0)
def jX12_doesK (I : IM) (a1 : Int32) (a2 : Int32) : Prop := (vp_in a1 8 ∧ (vp_in a1 8 ∧ (((¬ (wi a2 (I 98 a1.toNatClampNeg) (I 99 a1.toNatClampNeg))) → True) ∧ ((wi a2 (I 98 a1.toNatClampNeg) (I 99 a1.toNatClampNeg)) → (vp_in a1 8 ∧ (((¬ (I 90 a1.toNatClampNeg) = 4) → True) ∧ (((I 90 a1.toNatClampNeg) = 4) → vp_in a1 8)))))))
set_option maxRecDepth 10000 in
theorem qX12_does (d : Nat) {T : Topo} {I : IM} (hT : Lay T) (a1 : Int32) (a2 : Int32)  (hp : (jX12_doesK I a1 a2)) : CtP (d + 1) mX12_does [.ref 79, .int a1, .int a2] T I ((jX12_does I a1 a2)) :=
  wX12_does d hT a1 a2   (by
  unfold fX12_does_0
  exact ⟨(hp).1, ⟨((hp).2).1, ⟨fun hc1 => ⟨by unfold jX12_does; rw [if_neg hc1], rfl, rfl⟩, fun hc1 => ⟨((((hp).2).2).2 hc1).1, ⟨fun hc2 => ⟨by unfold jX12_does; rw [if_pos hc1, if_neg hc2], rfl, rfl⟩, fun hc2 => ⟨(((((hp).2).2).2 hc1).2).2 hc2, ⟨fun hc3 => ⟨by unfold jX12_does; rw [if_pos hc1, if_pos hc2, if_neg hc3], rfl, rfl⟩, fun hc3 => ⟨by unfold jX12_does; rw [if_pos hc1, if_pos hc2, if_pos hc3], rfl, rfl⟩⟩⟩⟩⟩⟩⟩⟩)

def fX12_countIn_0 (T : Topo)  (Q : Int32 → Topo → IM → Prop) (K4 : Int32 → Int32 → IM → Prop) (I : IM) : Prop :=
  K4 0 0 I
def fX12_countIn_4 (T : Topo)  (Q : Int32 → Topo → IM → Prop) (K4 : Int32 → Int32 → IM → Prop) (v1 v2 : Int32) (I : IM) : Prop :=
  ((((I 79 2) ≤ v2) → Q v1 T I) ∧ ((¬ (I 79 2) ≤ v2) → (vp_in v2 8 ∧ ((((I 106 v2.toNatClampNeg) = 0) → K4 (v1 + 0) (v2 + 1) I) ∧ ((¬ (I 106 v2.toNatClampNeg) = 0) → K4 (v1 + 1) (v2 + 1) I)))))
set_option maxHeartbeats 4000000 in
set_option maxRecDepth 100000 in
theorem sX12_countIn_0 (d : Nat) {T : Topo} (hT : Lay T)     {Q : Int32 → Topo → IM → Prop} {K4 : Int32 → Int32 → IM → Prop} (hK4 : ∀ (v1 v2 : Int32) (I : IM), K4 v1 v2 I → J (d + 0) mX12_countIn (PI Q) 0 0 4 [some (.ref 79), some (.int v1), some (.int v2)] [] T I 0 0) (I : IM) (h : fX12_countIn_0 T  Q K4 I) : J (d + 0) mX12_countIn (PI Q) 0 0 0 [some (.ref 79), none, none] [] T I 0 0 := by
  unfold fX12_countIn_0 at h
  refine J.iconst (v := 0) dX12_countIn_0 (by decide) ?_
  refine J.istore_n (ls' := [some (.ref 79), some (.int 0), none]) dX12_countIn_1 rfl rfl rfl ?_
  refine J.iconst (v := 0) dX12_countIn_2 (by decide) ?_
  refine J.istore_n (ls' := [some (.ref 79), some (.int 0), some (.int 0)]) dX12_countIn_3 rfl rfl rfl ?_
  exact J.weaken (ls' := [some (.ref 79), some (.int 0), some (.int 0)]) (And.intro rfl (And.intro rfl (And.intro rfl trivial))) (hK4 0 0 I h)
set_option maxHeartbeats 4000000 in
set_option maxRecDepth 100000 in
theorem sX12_countIn_4 (d : Nat) {T : Topo} (hT : Lay T)     {Q : Int32 → Topo → IM → Prop} {K4 : Int32 → Int32 → IM → Prop} (hK4 : ∀ (v1 v2 : Int32) (I : IM), K4 v1 v2 I → J (d + 0) mX12_countIn (PI Q) 0 0 4 [some (.ref 79), some (.int v1), some (.int v2)] [] T I 0 0) (v1 v2 : Int32) (I : IM) (h : fX12_countIn_4 T  Q K4 v1 v2 I) : J (d + 0) mX12_countIn (PI Q) 0 0 4 [some (.ref 79), some (.int v1), some (.int v2)] [] T I 0 0 := by
  unfold fX12_countIn_4 at h
  refine J.iload_n dX12_countIn_4 rfl rfl ?_
  refine J.aload_n dX12_countIn_5 rfl rfl ?_
  refine J.getI dX12_countIn_6 fX12_196 (hT.k 79 rfl) rfl ?_
  refine J.icmp_ge (tgt := 35) dX12_countIn_9 (by decide) (fun hc1 => ?_) (fun hc1 => ?_)
  · have h := h.1 hc1
    refine J.iload_n dX12_countIn_35 rfl rfl ?_
    exact J.iretQ dX12_countIn_36 rfl (Nat.le_refl _) (Nat.le_refl _) h
  · have h := h.2 hc1
    refine J.iload_n dX12_countIn_12 rfl rfl ?_
    refine J.aload_n dX12_countIn_13 rfl rfl ?_
    refine J.getR (r := 106) dX12_countIn_14 fX12_93 (hT.k 79 rfl) rfl (hT.r 79 35 rfl rfl) ?_
    refine J.iload_n dX12_countIn_17 rfl rfl ?_
    obtain ⟨hs2, h⟩ := h
    refine J.bald dX12_countIn_18 (hT.k 106 rfl) (hT.l 106 rfl) hs2 ?_
    refine J.if_eq (tgt := 26) dX12_countIn_19 (by decide) (fun hc3 => ?_) (fun hc3 => ?_)
    · have h := h.1 hc3
      refine J.iconst (v := 0) dX12_countIn_26 (by decide) ?_
      refine J.iadd dX12_countIn_27 ?_
      refine J.istore_n (ls' := [some (.ref 79), some (.int (v1 + 0)), some (.int v2)]) dX12_countIn_28 rfl rfl rfl ?_
      refine J.iinc (v := (v2 + 1)) (ls' := [some (.ref 79), some (.int (v1 + 0)), some (.int (v2 + 1))]) dX12_countIn_29 rfl (by rfl) rfl ?_
      refine J.goto (tgt := 4) dX12_countIn_32 (by decide) ?_
      exact J.weaken (ls' := [some (.ref 79), some (.int (v1 + 0)), some (.int (v2 + 1))]) (And.intro rfl (And.intro rfl (And.intro rfl trivial))) (hK4 (v1 + 0) (v2 + 1) I h)
    · have h := h.2 hc3
      refine J.iconst (v := 1) dX12_countIn_22 (by decide) ?_
      refine J.goto (tgt := 27) dX12_countIn_23 (by decide) ?_
      refine J.iadd dX12_countIn_27 ?_
      refine J.istore_n (ls' := [some (.ref 79), some (.int (v1 + 1)), some (.int v2)]) dX12_countIn_28 rfl rfl rfl ?_
      refine J.iinc (v := (v2 + 1)) (ls' := [some (.ref 79), some (.int (v1 + 1)), some (.int (v2 + 1))]) dX12_countIn_29 rfl (by rfl) rfl ?_
      refine J.goto (tgt := 4) dX12_countIn_32 (by decide) ?_
      exact J.weaken (ls' := [some (.ref 79), some (.int (v1 + 1)), some (.int (v2 + 1))]) (And.intro rfl (And.intro rfl (And.intro rfl trivial))) (hK4 (v1 + 1) (v2 + 1) I h)
set_option maxHeartbeats 4000000 in
set_option maxRecDepth 100000 in
theorem wX12_countIn (d : Nat) {T : Topo} (hT : Lay T)    {Q : Int32 → Topo → IM → Prop} (V4 : Int32 → Int32 → IM → Prop) (μ4 : Int32 → Int32 → IM → Nat) (vc4 : ∀ (v1 v2 : Int32) (I : IM), V4 v1 v2 I → fX12_countIn_4 T  Q (fun w1 w2 I_ => V4 w1 w2 I_ ∧ μ4 w1 w2 I_ < μ4 v1 v2 I) v1 v2 I) {I : IM} (h : fX12_countIn_0 T  Q V4 I) : Ct (d + 0) mX12_countIn [.ref 79] T I 0 0 (PI Q) := by
  have all : ∀ n : Nat, (∀ (v1 v2 : Int32) (I : IM), V4 v1 v2 I → μ4 v1 v2 I < n → J (d + 0) mX12_countIn (PI Q) 0 0 4 [some (.ref 79), some (.int v1), some (.int v2)] [] T I 0 0) := by
    intro n
    induction n with
    | zero => exact fun _ _ _ _ hn => absurd hn (Nat.not_lt_zero _)
    | succ n ih =>
      exact fun v1 v2 I hv hn => sX12_countIn_4 d hT    (fun w1 w2 I_ hw => ih w1 w2 I_ hw.1 (by have := hw.2; omega)) v1 v2 I (vc4 v1 v2 I hv)
  exact Ct.ofJ (by decide +kernel) rfl (by intro v hv; revert v hv; simp [Value.category]) rfl (sX12_countIn_0 d hT    (fun w1 w2 I_ hw => (all (μ4 w1 w2 I_ + 1)) w1 w2 I_ hw (Nat.lt_succ_self _)) I h)

def jX12_countInI  : Nat → Int32 → Int32 → IM → Int32
  | 0 => fun _ _ I => 0
  | n + 1 => fun v1 v2 I => (if (I 79 2) ≤ v2 then v1 else (if (I 106 v2.toNatClampNeg) = 0 then (jX12_countInI  n (v1 + 0) (v2 + 1) I) else (jX12_countInI  n (v1 + 1) (v2 + 1) I)))
def jX12_countInO  : Nat → Int32 → Int32 → IM → Prop
  | 0 => fun _ _ _ => False
  | n + 1 => fun v1 v2 I => ((((I 79 2) ≤ v2) → True) ∧ ((¬ (I 79 2) ≤ v2) → (vp_in v2 8 ∧ ((((I 106 v2.toNatClampNeg) = 0) → (jX12_countInO  n (v1 + 0) (v2 + 1) I)) ∧ ((¬ (I 106 v2.toNatClampNeg) = 0) → (jX12_countInO  n (v1 + 1) (v2 + 1) I))))))
theorem jX12_countInI_4  (n : Nat) (v1 v2 : Int32) (I : IM) : jX12_countInI  (n + 1) v1 v2 I = (if (I 79 2) ≤ v2 then v1 else (if (I 106 v2.toNatClampNeg) = 0 then (jX12_countInI  n (v1 + 0) (v2 + 1) I) else (jX12_countInI  n (v1 + 1) (v2 + 1) I))) := rfl
theorem jX12_countInO_4  (n : Nat) (v1 v2 : Int32) (I : IM) : jX12_countInO  (n + 1) v1 v2 I = ((((I 79 2) ≤ v2) → True) ∧ ((¬ (I 79 2) ≤ v2) → (vp_in v2 8 ∧ ((((I 106 v2.toNatClampNeg) = 0) → (jX12_countInO  n (v1 + 0) (v2 + 1) I)) ∧ ((¬ (I 106 v2.toNatClampNeg) = 0) → (jX12_countInO  n (v1 + 1) (v2 + 1) I)))))) := rfl
def jX12_countIn (I : IM)  : Int32 := (jX12_countInI  FU 0 0 I)
def jX12_countInK (I : IM)  : Prop := (jX12_countInO  FU 0 0 I)
set_option maxRecDepth 10000 in
set_option maxHeartbeats 1000000 in
theorem uX12_countIn (d : Nat) {T : Topo} (hT : Lay T)    {R : Int32} {I00 : IM} : ∀ n : Nat, (∀ (v1 v2 : Int32) (I : IM), I = I00 → jX12_countInO  n v1 v2 I → jX12_countInI  n v1 v2 I = R → J (d + 0) mX12_countIn (PI (fun x T' I' => x = R ∧ T' = T ∧ I' = I00)) 0 0 4 [some (.ref 79), some (.int v1), some (.int v2)] [] T I 0 0) := by
  intro n
  induction n with
  | zero => exact fun _ _ _ _ hz => hz.elim
  | succ n ih =>
    exact fun v1 v2 I hI hok hit => by
        rw [jX12_countInO_4] at hok
        exact sX12_countIn_4 d hT    (K4 := fun w1 w2 I_ => (jX12_countInO  n w1 w2 I_ ∧ jX12_countInI  n w1 w2 I_ = R) ∧ I_ = I00) (fun w1 w2 I_ hw => ih w1 w2 I_ hw.2 hw.1.1 hw.1.2) v1 v2 I (by
          unfold fX12_countIn_4
          exact ⟨fun hc1 => ⟨by rw [jX12_countInI_4, if_pos hc1] at hit; exact hit, rfl, hI⟩, fun hc1 => ⟨((hok).2 hc1).1, ⟨fun hc2 => ⟨⟨(((hok).2 hc1).2).1 hc2, by rw [jX12_countInI_4, if_neg hc1, if_pos hc2] at hit; exact hit⟩, hI⟩, fun hc2 => ⟨⟨(((hok).2 hc1).2).2 hc2, by rw [jX12_countInI_4, if_neg hc1, if_neg hc2] at hit; exact hit⟩, hI⟩⟩⟩⟩)
set_option maxRecDepth 10000 in
set_option maxHeartbeats 1000000 in
theorem qX12_countIn (d : Nat) {T : Topo} {I : IM} (hT : Lay T)   (hp : (jX12_countInK I)) : CtP (d + 0) mX12_countIn [.ref 79] T I (jX12_countIn I) := by
  unfold jX12_countInK at hp
  exact Ct.ofJ (by decide +kernel) rfl (by intro v hv; revert v hv; simp [Value.category]) rfl (sX12_countIn_0 d hT    (K4 := fun w1 w2 I_ => (jX12_countInO  FU w1 w2 I_ ∧ jX12_countInI  FU w1 w2 I_ = (jX12_countIn I )) ∧ I_ = I) (fun w1 w2 I_ hw => uX12_countIn d hT    FU w1 w2 I_ hw.2 hw.1.1 hw.1.2) I (by
    unfold fX12_countIn_0
    exact ⟨⟨hp, rfl⟩, rfl⟩))

theorem swd_0_17 {x : Int32} (h : x.toInt < 0 ∨ 17 < x.toInt) : ¬ x = 0 ∧ ¬ x = 1 ∧ ¬ x = 2 ∧ ¬ x = 3 ∧ ¬ x = 4 ∧ ¬ x = 5 ∧ ¬ x = 6 ∧ ¬ x = 7 ∧ ¬ x = 8 ∧ ¬ x = 9 ∧ ¬ x = 10 ∧ ¬ x = 11 ∧ ¬ x = 12 ∧ ¬ x = 13 ∧ ¬ x = 14 ∧ ¬ x = 15 ∧ ¬ x = 16 ∧ ¬ x = 17 := by
  refine ⟨?_, ?_, ?_, ?_, ?_, ?_, ?_, ?_, ?_, ?_, ?_, ?_, ?_, ?_, ?_, ?_, ?_, ?_⟩ <;> (intro e; subst e; revert h; decide)
theorem sw_0_17 (x : Int32) : x = 0 ∨ x = 1 ∨ x = 2 ∨ x = 3 ∨ x = 4 ∨ x = 5 ∨ x = 6 ∨ x = 7 ∨ x = 8 ∨ x = 9 ∨ x = 10 ∨ x = 11 ∨ x = 12 ∨ x = 13 ∨ x = 14 ∨ x = 15 ∨ x = 16 ∨ x = 17 ∨ (x.toInt < 0 ∨ 17 < x.toInt) := by
  by_cases hr : x.toInt < 0 ∨ 17 < x.toInt
  · exact Or.inr (Or.inr (Or.inr (Or.inr (Or.inr (Or.inr (Or.inr (Or.inr (Or.inr (Or.inr (Or.inr (Or.inr (Or.inr (Or.inr (Or.inr (Or.inr (Or.inr (Or.inr (hr))))))))))))))))))
  · have hc : x.toInt = 0 ∨ x.toInt = 1 ∨ x.toInt = 2 ∨ x.toInt = 3 ∨ x.toInt = 4 ∨ x.toInt = 5 ∨ x.toInt = 6 ∨ x.toInt = 7 ∨ x.toInt = 8 ∨ x.toInt = 9 ∨ x.toInt = 10 ∨ x.toInt = 11 ∨ x.toInt = 12 ∨ x.toInt = 13 ∨ x.toInt = 14 ∨ x.toInt = 15 ∨ x.toInt = 16 ∨ x.toInt = 17 := by omega
    rcases hc with hc | hc | hc | hc | hc | hc | hc | hc | hc | hc | hc | hc | hc | hc | hc | hc | hc | hc
    · exact Or.inl (Int32.toInt_inj.mp (hc.trans (by decide)))
    · exact Or.inr (Or.inl (Int32.toInt_inj.mp (hc.trans (by decide))))
    · exact Or.inr (Or.inr (Or.inl (Int32.toInt_inj.mp (hc.trans (by decide)))))
    · exact Or.inr (Or.inr (Or.inr (Or.inl (Int32.toInt_inj.mp (hc.trans (by decide))))))
    · exact Or.inr (Or.inr (Or.inr (Or.inr (Or.inl (Int32.toInt_inj.mp (hc.trans (by decide)))))))
    · exact Or.inr (Or.inr (Or.inr (Or.inr (Or.inr (Or.inl (Int32.toInt_inj.mp (hc.trans (by decide))))))))
    · exact Or.inr (Or.inr (Or.inr (Or.inr (Or.inr (Or.inr (Or.inl (Int32.toInt_inj.mp (hc.trans (by decide)))))))))
    · exact Or.inr (Or.inr (Or.inr (Or.inr (Or.inr (Or.inr (Or.inr (Or.inl (Int32.toInt_inj.mp (hc.trans (by decide))))))))))
    · exact Or.inr (Or.inr (Or.inr (Or.inr (Or.inr (Or.inr (Or.inr (Or.inr (Or.inl (Int32.toInt_inj.mp (hc.trans (by decide)))))))))))
    · exact Or.inr (Or.inr (Or.inr (Or.inr (Or.inr (Or.inr (Or.inr (Or.inr (Or.inr (Or.inl (Int32.toInt_inj.mp (hc.trans (by decide))))))))))))
    · exact Or.inr (Or.inr (Or.inr (Or.inr (Or.inr (Or.inr (Or.inr (Or.inr (Or.inr (Or.inr (Or.inl (Int32.toInt_inj.mp (hc.trans (by decide)))))))))))))
    · exact Or.inr (Or.inr (Or.inr (Or.inr (Or.inr (Or.inr (Or.inr (Or.inr (Or.inr (Or.inr (Or.inr (Or.inl (Int32.toInt_inj.mp (hc.trans (by decide))))))))))))))
    · exact Or.inr (Or.inr (Or.inr (Or.inr (Or.inr (Or.inr (Or.inr (Or.inr (Or.inr (Or.inr (Or.inr (Or.inr (Or.inl (Int32.toInt_inj.mp (hc.trans (by decide)))))))))))))))
    · exact Or.inr (Or.inr (Or.inr (Or.inr (Or.inr (Or.inr (Or.inr (Or.inr (Or.inr (Or.inr (Or.inr (Or.inr (Or.inr (Or.inl (Int32.toInt_inj.mp (hc.trans (by decide))))))))))))))))
    · exact Or.inr (Or.inr (Or.inr (Or.inr (Or.inr (Or.inr (Or.inr (Or.inr (Or.inr (Or.inr (Or.inr (Or.inr (Or.inr (Or.inr (Or.inl (Int32.toInt_inj.mp (hc.trans (by decide)))))))))))))))))
    · exact Or.inr (Or.inr (Or.inr (Or.inr (Or.inr (Or.inr (Or.inr (Or.inr (Or.inr (Or.inr (Or.inr (Or.inr (Or.inr (Or.inr (Or.inr (Or.inl (Int32.toInt_inj.mp (hc.trans (by decide))))))))))))))))))
    · exact Or.inr (Or.inr (Or.inr (Or.inr (Or.inr (Or.inr (Or.inr (Or.inr (Or.inr (Or.inr (Or.inr (Or.inr (Or.inr (Or.inr (Or.inr (Or.inr (Or.inl (Int32.toInt_inj.mp (hc.trans (by decide)))))))))))))))))))
    · exact Or.inr (Or.inr (Or.inr (Or.inr (Or.inr (Or.inr (Or.inr (Or.inr (Or.inr (Or.inr (Or.inr (Or.inr (Or.inr (Or.inr (Or.inr (Or.inr (Or.inr (Or.inl (Int32.toInt_inj.mp (hc.trans (by decide))))))))))))))))))))

def fX12_of_0 (T : Topo) (a1 : Int32) (a2 : Int32) (Q : Int32 → Topo → IM → Prop)  (I : IM) : Prop :=
  ((((wi a1 0 (I 79 2 - 1)) → ((a2 = 0 → (vp_in a1 8 ∧ Q (I 90 a1.toNatClampNeg) T I)) ∧ (a2 = 1 → (vp_in a1 8 ∧ Q (I 91 a1.toNatClampNeg) T I)) ∧ (a2 = 2 → (vp_in a1 8 ∧ Q (I 92 a1.toNatClampNeg) T I)) ∧ (a2 = 3 → (vp_in a1 8 ∧ Q (I 93 a1.toNatClampNeg) T I)) ∧ (a2 = 4 → (vp_in a1 8 ∧ Q (I 94 a1.toNatClampNeg) T I)) ∧ (a2 = 5 → (vp_in a1 8 ∧ Q (I 95 a1.toNatClampNeg) T I)) ∧ (a2 = 6 → (vp_in a1 8 ∧ Q (I 96 a1.toNatClampNeg) T I)) ∧ (a2 = 7 → (vp_in a1 8 ∧ Q (I 97 a1.toNatClampNeg) T I)) ∧ (a2 = 8 → (vp_in a1 8 ∧ Q (I 98 a1.toNatClampNeg) T I)) ∧ (a2 = 9 → (vp_in a1 8 ∧ Q (I 99 a1.toNatClampNeg) T I)) ∧ (a2 = 10 → (vp_in a1 8 ∧ Q (I 100 a1.toNatClampNeg) T I)) ∧ (a2 = 11 → (vp_in a1 8 ∧ ((((I 106 a1.toNatClampNeg) = 0) → Q 0 T I) ∧ ((¬ (I 106 a1.toNatClampNeg) = 0) → Q 1 T I)))) ∧ (a2 = 12 → (vp_in a1 8 ∧ Q (I 101 a1.toNatClampNeg) T I)) ∧ (a2 = 13 → (vp_in a1 8 ∧ Q (I 102 a1.toNatClampNeg) T I)) ∧ (a2 = 14 → (vp_in a1 8 ∧ Q (I 103 a1.toNatClampNeg) T I)) ∧ (a2 = 15 → (vp_in a1 8 ∧ Q (I 104 a1.toNatClampNeg) T I)) ∧ (a2 = 16 → (vp_in a1 8 ∧ Q (I 105 a1.toNatClampNeg) T I)) ∧ (a2 = 17 → (((jX12_needK I a1)) ∧ Q (jX12_need I a1) T I)) ∧ ((a2.toInt < 0 ∨ 17 < a2.toInt) → (Q (jX12_finds (-1000001)) T (jX12_findsM I))))) ∧ ((¬ (wi a1 0 (I 79 2 - 1))) → (Q (jX12_finds (-1000001)) T (jX12_findsM I)))))
set_option maxHeartbeats 4000000 in
set_option maxRecDepth 100000 in
theorem sX12_of_0 (d : Nat) {T : Topo} (hT : Lay T) (a1 : Int32) (a2 : Int32)    {Q : Int32 → Topo → IM → Prop}   (I : IM) (h : fX12_of_0 T a1 a2 Q  I) : J (d + 2) mX12_of (PI Q) 0 0 0 [some (.ref 79), some (.int a1), some (.int a2)] [] T I 0 0 := by
  unfold fX12_of_0 at h
  refine J.aload_n dX12_of_0 rfl rfl ?_
  refine J.iload_n dX12_of_1 rfl rfl ?_
  refine J.callVP (k := 79) (as := [.int a1]) (rest := []) dX12_of_2 kX12_isSlice vX12_isSlice lX12_235 (hT.k 79 rfl) rfl rfl rfl rfl rfl (by omega) (Nat.le_refl _) (Nat.le_refl _) (qX12_isSlice (d + 0) hT a1 ) ?_
  refine J.bz_ne (tgt := 15) dX12_of_5 (by decide) (fun hc1 => ?_) (fun hc1 => ?_)
  · have h := h.1 hc1
    refine J.iload_n dX12_of_15 rfl rfl ?_
    obtain ⟨h0_, h1_, h2_, h3_, h4_, h5_, h6_, h7_, h8_, h9_, h10_, h11_, h12_, h13_, h14_, h15_, h16_, h17_, hdf⟩ := h
    rcases sw_0_17 a2 with e | e | e | e | e | e | e | e | e | e | e | e | e | e | e | e | e | e | e
    · refine J.tableIn (off := 88) (tgt := 104) dX12_of_16 (by rw [e]; decide) (by rw [e]; decide) (by rw [e]; decide) (by decide) ?_
      have h := h0_ e
      refine J.aload_n dX12_of_104 rfl rfl ?_
      refine J.getR (r := 90) dX12_of_105 fX12_45 (hT.k 79 rfl) rfl (hT.r 79 19 rfl rfl) ?_
      refine J.iload_n dX12_of_108 rfl rfl ?_
      obtain ⟨hs2, h⟩ := h
      refine J.iald dX12_of_109 (hT.k 90 rfl) (hT.l 90 rfl) hs2 ?_
      exact J.iretQ dX12_of_110 rfl (Nat.le_refl _) (Nat.le_refl _) h
    · refine J.tableIn (off := 95) (tgt := 111) dX12_of_16 (by rw [e]; decide) (by rw [e]; decide) (by rw [e]; decide) (by decide) ?_
      have h := h1_ e
      refine J.aload_n dX12_of_111 rfl rfl ?_
      refine J.getR (r := 91) dX12_of_112 fX12_48 (hT.k 79 rfl) rfl (hT.r 79 20 rfl rfl) ?_
      refine J.iload_n dX12_of_115 rfl rfl ?_
      obtain ⟨hs3, h⟩ := h
      refine J.iald dX12_of_116 (hT.k 91 rfl) (hT.l 91 rfl) hs3 ?_
      exact J.iretQ dX12_of_117 rfl (Nat.le_refl _) (Nat.le_refl _) h
    · refine J.tableIn (off := 102) (tgt := 118) dX12_of_16 (by rw [e]; decide) (by rw [e]; decide) (by rw [e]; decide) (by decide) ?_
      have h := h2_ e
      refine J.aload_n dX12_of_118 rfl rfl ?_
      refine J.getR (r := 92) dX12_of_119 fX12_51 (hT.k 79 rfl) rfl (hT.r 79 21 rfl rfl) ?_
      refine J.iload_n dX12_of_122 rfl rfl ?_
      obtain ⟨hs4, h⟩ := h
      refine J.iald dX12_of_123 (hT.k 92 rfl) (hT.l 92 rfl) hs4 ?_
      exact J.iretQ dX12_of_124 rfl (Nat.le_refl _) (Nat.le_refl _) h
    · refine J.tableIn (off := 109) (tgt := 125) dX12_of_16 (by rw [e]; decide) (by rw [e]; decide) (by rw [e]; decide) (by decide) ?_
      have h := h3_ e
      refine J.aload_n dX12_of_125 rfl rfl ?_
      refine J.getR (r := 93) dX12_of_126 fX12_54 (hT.k 79 rfl) rfl (hT.r 79 22 rfl rfl) ?_
      refine J.iload_n dX12_of_129 rfl rfl ?_
      obtain ⟨hs5, h⟩ := h
      refine J.iald dX12_of_130 (hT.k 93 rfl) (hT.l 93 rfl) hs5 ?_
      exact J.iretQ dX12_of_131 rfl (Nat.le_refl _) (Nat.le_refl _) h
    · refine J.tableIn (off := 116) (tgt := 132) dX12_of_16 (by rw [e]; decide) (by rw [e]; decide) (by rw [e]; decide) (by decide) ?_
      have h := h4_ e
      refine J.aload_n dX12_of_132 rfl rfl ?_
      refine J.getR (r := 94) dX12_of_133 fX12_57 (hT.k 79 rfl) rfl (hT.r 79 23 rfl rfl) ?_
      refine J.iload_n dX12_of_136 rfl rfl ?_
      obtain ⟨hs6, h⟩ := h
      refine J.iald dX12_of_137 (hT.k 94 rfl) (hT.l 94 rfl) hs6 ?_
      exact J.iretQ dX12_of_138 rfl (Nat.le_refl _) (Nat.le_refl _) h
    · refine J.tableIn (off := 123) (tgt := 139) dX12_of_16 (by rw [e]; decide) (by rw [e]; decide) (by rw [e]; decide) (by decide) ?_
      have h := h5_ e
      refine J.aload_n dX12_of_139 rfl rfl ?_
      refine J.getR (r := 95) dX12_of_140 fX12_60 (hT.k 79 rfl) rfl (hT.r 79 24 rfl rfl) ?_
      refine J.iload_n dX12_of_143 rfl rfl ?_
      obtain ⟨hs7, h⟩ := h
      refine J.iald dX12_of_144 (hT.k 95 rfl) (hT.l 95 rfl) hs7 ?_
      exact J.iretQ dX12_of_145 rfl (Nat.le_refl _) (Nat.le_refl _) h
    · refine J.tableIn (off := 130) (tgt := 146) dX12_of_16 (by rw [e]; decide) (by rw [e]; decide) (by rw [e]; decide) (by decide) ?_
      have h := h6_ e
      refine J.aload_n dX12_of_146 rfl rfl ?_
      refine J.getR (r := 96) dX12_of_147 fX12_63 (hT.k 79 rfl) rfl (hT.r 79 25 rfl rfl) ?_
      refine J.iload_n dX12_of_150 rfl rfl ?_
      obtain ⟨hs8, h⟩ := h
      refine J.iald dX12_of_151 (hT.k 96 rfl) (hT.l 96 rfl) hs8 ?_
      exact J.iretQ dX12_of_152 rfl (Nat.le_refl _) (Nat.le_refl _) h
    · refine J.tableIn (off := 137) (tgt := 153) dX12_of_16 (by rw [e]; decide) (by rw [e]; decide) (by rw [e]; decide) (by decide) ?_
      have h := h7_ e
      refine J.aload_n dX12_of_153 rfl rfl ?_
      refine J.getR (r := 97) dX12_of_154 fX12_66 (hT.k 79 rfl) rfl (hT.r 79 26 rfl rfl) ?_
      refine J.iload_n dX12_of_157 rfl rfl ?_
      obtain ⟨hs9, h⟩ := h
      refine J.iald dX12_of_158 (hT.k 97 rfl) (hT.l 97 rfl) hs9 ?_
      exact J.iretQ dX12_of_159 rfl (Nat.le_refl _) (Nat.le_refl _) h
    · refine J.tableIn (off := 144) (tgt := 160) dX12_of_16 (by rw [e]; decide) (by rw [e]; decide) (by rw [e]; decide) (by decide) ?_
      have h := h8_ e
      refine J.aload_n dX12_of_160 rfl rfl ?_
      refine J.getR (r := 98) dX12_of_161 fX12_69 (hT.k 79 rfl) rfl (hT.r 79 27 rfl rfl) ?_
      refine J.iload_n dX12_of_164 rfl rfl ?_
      obtain ⟨hs10, h⟩ := h
      refine J.iald dX12_of_165 (hT.k 98 rfl) (hT.l 98 rfl) hs10 ?_
      exact J.iretQ dX12_of_166 rfl (Nat.le_refl _) (Nat.le_refl _) h
    · refine J.tableIn (off := 151) (tgt := 167) dX12_of_16 (by rw [e]; decide) (by rw [e]; decide) (by rw [e]; decide) (by decide) ?_
      have h := h9_ e
      refine J.aload_n dX12_of_167 rfl rfl ?_
      refine J.getR (r := 99) dX12_of_168 fX12_72 (hT.k 79 rfl) rfl (hT.r 79 28 rfl rfl) ?_
      refine J.iload_n dX12_of_171 rfl rfl ?_
      obtain ⟨hs11, h⟩ := h
      refine J.iald dX12_of_172 (hT.k 99 rfl) (hT.l 99 rfl) hs11 ?_
      exact J.iretQ dX12_of_173 rfl (Nat.le_refl _) (Nat.le_refl _) h
    · refine J.tableIn (off := 158) (tgt := 174) dX12_of_16 (by rw [e]; decide) (by rw [e]; decide) (by rw [e]; decide) (by decide) ?_
      have h := h10_ e
      refine J.aload_n dX12_of_174 rfl rfl ?_
      refine J.getR (r := 100) dX12_of_175 fX12_75 (hT.k 79 rfl) rfl (hT.r 79 29 rfl rfl) ?_
      refine J.iload_n dX12_of_178 rfl rfl ?_
      obtain ⟨hs12, h⟩ := h
      refine J.iald dX12_of_179 (hT.k 100 rfl) (hT.l 100 rfl) hs12 ?_
      exact J.iretQ dX12_of_180 rfl (Nat.le_refl _) (Nat.le_refl _) h
    · refine J.tableIn (off := 165) (tgt := 181) dX12_of_16 (by rw [e]; decide) (by rw [e]; decide) (by rw [e]; decide) (by decide) ?_
      have h := h11_ e
      refine J.aload_n dX12_of_181 rfl rfl ?_
      refine J.getR (r := 106) dX12_of_182 fX12_93 (hT.k 79 rfl) rfl (hT.r 79 35 rfl rfl) ?_
      refine J.iload_n dX12_of_185 rfl rfl ?_
      obtain ⟨hs13, h⟩ := h
      refine J.bald dX12_of_186 (hT.k 106 rfl) (hT.l 106 rfl) hs13 ?_
      refine J.if_eq (tgt := 194) dX12_of_187 (by decide) (fun hc14 => ?_) (fun hc14 => ?_)
      · have h := h.1 hc14
        refine J.iconst (v := 0) dX12_of_194 (by decide) ?_
        exact J.iretQ dX12_of_195 rfl (Nat.le_refl _) (Nat.le_refl _) h
      · have h := h.2 hc14
        refine J.iconst (v := 1) dX12_of_190 (by decide) ?_
        refine J.goto (tgt := 195) dX12_of_191 (by decide) ?_
        exact J.iretQ dX12_of_195 rfl (Nat.le_refl _) (Nat.le_refl _) h
    · refine J.tableIn (off := 180) (tgt := 196) dX12_of_16 (by rw [e]; decide) (by rw [e]; decide) (by rw [e]; decide) (by decide) ?_
      have h := h12_ e
      refine J.aload_n dX12_of_196 rfl rfl ?_
      refine J.getR (r := 101) dX12_of_197 fX12_78 (hT.k 79 rfl) rfl (hT.r 79 30 rfl rfl) ?_
      refine J.iload_n dX12_of_200 rfl rfl ?_
      obtain ⟨hs15, h⟩ := h
      refine J.iald dX12_of_201 (hT.k 101 rfl) (hT.l 101 rfl) hs15 ?_
      exact J.iretQ dX12_of_202 rfl (Nat.le_refl _) (Nat.le_refl _) h
    · refine J.tableIn (off := 187) (tgt := 203) dX12_of_16 (by rw [e]; decide) (by rw [e]; decide) (by rw [e]; decide) (by decide) ?_
      have h := h13_ e
      refine J.aload_n dX12_of_203 rfl rfl ?_
      refine J.getR (r := 102) dX12_of_204 fX12_81 (hT.k 79 rfl) rfl (hT.r 79 31 rfl rfl) ?_
      refine J.iload_n dX12_of_207 rfl rfl ?_
      obtain ⟨hs16, h⟩ := h
      refine J.iald dX12_of_208 (hT.k 102 rfl) (hT.l 102 rfl) hs16 ?_
      exact J.iretQ dX12_of_209 rfl (Nat.le_refl _) (Nat.le_refl _) h
    · refine J.tableIn (off := 194) (tgt := 210) dX12_of_16 (by rw [e]; decide) (by rw [e]; decide) (by rw [e]; decide) (by decide) ?_
      have h := h14_ e
      refine J.aload_n dX12_of_210 rfl rfl ?_
      refine J.getR (r := 103) dX12_of_211 fX12_84 (hT.k 79 rfl) rfl (hT.r 79 32 rfl rfl) ?_
      refine J.iload_n dX12_of_214 rfl rfl ?_
      obtain ⟨hs17, h⟩ := h
      refine J.iald dX12_of_215 (hT.k 103 rfl) (hT.l 103 rfl) hs17 ?_
      exact J.iretQ dX12_of_216 rfl (Nat.le_refl _) (Nat.le_refl _) h
    · refine J.tableIn (off := 201) (tgt := 217) dX12_of_16 (by rw [e]; decide) (by rw [e]; decide) (by rw [e]; decide) (by decide) ?_
      have h := h15_ e
      refine J.aload_n dX12_of_217 rfl rfl ?_
      refine J.getR (r := 104) dX12_of_218 fX12_87 (hT.k 79 rfl) rfl (hT.r 79 33 rfl rfl) ?_
      refine J.iload_n dX12_of_221 rfl rfl ?_
      obtain ⟨hs18, h⟩ := h
      refine J.iald dX12_of_222 (hT.k 104 rfl) (hT.l 104 rfl) hs18 ?_
      exact J.iretQ dX12_of_223 rfl (Nat.le_refl _) (Nat.le_refl _) h
    · refine J.tableIn (off := 208) (tgt := 224) dX12_of_16 (by rw [e]; decide) (by rw [e]; decide) (by rw [e]; decide) (by decide) ?_
      have h := h16_ e
      refine J.aload_n dX12_of_224 rfl rfl ?_
      refine J.getR (r := 105) dX12_of_225 fX12_90 (hT.k 79 rfl) rfl (hT.r 79 34 rfl rfl) ?_
      refine J.iload_n dX12_of_228 rfl rfl ?_
      obtain ⟨hs19, h⟩ := h
      refine J.iald dX12_of_229 (hT.k 105 rfl) (hT.l 105 rfl) hs19 ?_
      exact J.iretQ dX12_of_230 rfl (Nat.le_refl _) (Nat.le_refl _) h
    · refine J.tableIn (off := 215) (tgt := 231) dX12_of_16 (by rw [e]; decide) (by rw [e]; decide) (by rw [e]; decide) (by decide) ?_
      have h := h17_ e
      refine J.aload_n dX12_of_231 rfl rfl ?_
      refine J.iload_n dX12_of_232 rfl rfl ?_
      obtain ⟨hp20, h⟩ := h
      refine J.callVP (k := 79) (as := [.int a1]) (rest := []) dX12_of_233 kX12_need vX12_need lX12_243 (hT.k 79 rfl) rfl rfl rfl rfl rfl (by omega) (Nat.le_refl _) (Nat.le_refl _) (qX12_need (d + 1) hT a1 hp20) ?_
      exact J.iretQ dX12_of_236 rfl (Nat.le_refl _) (Nat.le_refl _) h
    · refine J.tableOut (tgt := 237) dX12_of_16 e (by decide) ?_
      have h := hdf e
      refine J.aload_n dX12_of_237 rfl rfl ?_
      refine J.ldc (v := (-1000001)) dX12_of_238 kcX12_199 ?_
      refine J.callVE (k := 79) (as := [.int (-1000001)]) (rest := []) dX12_of_240 kX12_finds vX12_finds lX12_200 (hT.k 79 rfl) rfl rfl rfl rfl rfl (by omega) (Nat.le_refl _) (Nat.le_refl _) (qX12_finds (d + 1) hT (-1000001) ) ?_
      exact J.iretQ dX12_of_243 rfl (Nat.le_refl _) (Nat.le_refl _) h
  · have h := h.2 hc1
    refine J.aload_n dX12_of_8 rfl rfl ?_
    refine J.ldc (v := (-1000001)) dX12_of_9 kcX12_199 ?_
    refine J.callVE (k := 79) (as := [.int (-1000001)]) (rest := []) dX12_of_11 kX12_finds vX12_finds lX12_200 (hT.k 79 rfl) rfl rfl rfl rfl rfl (by omega) (Nat.le_refl _) (Nat.le_refl _) (qX12_finds (d + 1) hT (-1000001) ) ?_
    exact J.iretQ dX12_of_14 rfl (Nat.le_refl _) (Nat.le_refl _) h
set_option maxHeartbeats 4000000 in
set_option maxRecDepth 100000 in
theorem wX12_of (d : Nat) {T : Topo} (hT : Lay T) (a1 : Int32) (a2 : Int32)   {Q : Int32 → Topo → IM → Prop} {I : IM} (h : fX12_of_0 T a1 a2 Q I) : Ct (d + 2) mX12_of [.ref 79, .int a1, .int a2] T I 0 0 (PI Q) :=
  Ct.ofJ (by decide +kernel) rfl (by intro v hv; revert v hv; simp [Value.category]) rfl (sX12_of_0 d hT a1 a2   I h)

def jX12_of (I : IM) (a1 : Int32) (a2 : Int32) : Int32 := (if wi a1 0 (I 79 2 - 1) then (if a2 = 0 then (I 90 a1.toNatClampNeg) else (if a2 = 1 then (I 91 a1.toNatClampNeg) else (if a2 = 2 then (I 92 a1.toNatClampNeg) else (if a2 = 3 then (I 93 a1.toNatClampNeg) else (if a2 = 4 then (I 94 a1.toNatClampNeg) else (if a2 = 5 then (I 95 a1.toNatClampNeg) else (if a2 = 6 then (I 96 a1.toNatClampNeg) else (if a2 = 7 then (I 97 a1.toNatClampNeg) else (if a2 = 8 then (I 98 a1.toNatClampNeg) else (if a2 = 9 then (I 99 a1.toNatClampNeg) else (if a2 = 10 then (I 100 a1.toNatClampNeg) else (if a2 = 11 then (if (I 106 a1.toNatClampNeg) = 0 then 0 else 1) else (if a2 = 12 then (I 101 a1.toNatClampNeg) else (if a2 = 13 then (I 102 a1.toNatClampNeg) else (if a2 = 14 then (I 103 a1.toNatClampNeg) else (if a2 = 15 then (I 104 a1.toNatClampNeg) else (if a2 = 16 then (I 105 a1.toNatClampNeg) else (if a2 = 17 then (jX12_need I a1) else (jX12_finds (-1000001)))))))))))))))))))) else (jX12_finds (-1000001)))
def jX12_ofM (I : IM) (a1 : Int32) (a2 : Int32) : IM := (if wi a1 0 (I 79 2 - 1) then (if a2 = 0 then I else (if a2 = 1 then I else (if a2 = 2 then I else (if a2 = 3 then I else (if a2 = 4 then I else (if a2 = 5 then I else (if a2 = 6 then I else (if a2 = 7 then I else (if a2 = 8 then I else (if a2 = 9 then I else (if a2 = 10 then I else (if a2 = 11 then I else (if a2 = 12 then I else (if a2 = 13 then I else (if a2 = 14 then I else (if a2 = 15 then I else (if a2 = 16 then I else (if a2 = 17 then I else (jX12_findsM I))))))))))))))))))) else (jX12_findsM I))
def jX12_ofK (I : IM) (a1 : Int32) (a2 : Int32) : Prop := (((wi a1 0 (I 79 2 - 1)) → ((a2 = 0 → vp_in a1 8) ∧ (a2 = 1 → vp_in a1 8) ∧ (a2 = 2 → vp_in a1 8) ∧ (a2 = 3 → vp_in a1 8) ∧ (a2 = 4 → vp_in a1 8) ∧ (a2 = 5 → vp_in a1 8) ∧ (a2 = 6 → vp_in a1 8) ∧ (a2 = 7 → vp_in a1 8) ∧ (a2 = 8 → vp_in a1 8) ∧ (a2 = 9 → vp_in a1 8) ∧ (a2 = 10 → vp_in a1 8) ∧ (a2 = 11 → vp_in a1 8) ∧ (a2 = 12 → vp_in a1 8) ∧ (a2 = 13 → vp_in a1 8) ∧ (a2 = 14 → vp_in a1 8) ∧ (a2 = 15 → vp_in a1 8) ∧ (a2 = 16 → vp_in a1 8) ∧ (a2 = 17 → ((jX12_needK I a1))) ∧ ((a2.toInt < 0 ∨ 17 < a2.toInt) → True))) ∧ ((¬ (wi a1 0 (I 79 2 - 1))) → True))
set_option maxRecDepth 10000 in
theorem qX12_of (d : Nat) {T : Topo} {I : IM} (hT : Lay T) (a1 : Int32) (a2 : Int32)  (hp : (jX12_ofK I a1 a2)) : CtI (d + 2) mX12_of [.ref 79, .int a1, .int a2] T I (fun x_ J_ => x_ = (jX12_of I a1 a2) ∧ J_ = (jX12_ofM I a1 a2)) :=
  wX12_of d hT a1 a2   (by
  unfold fX12_of_0
  exact ⟨fun hc1 => ⟨fun hw2 => ⟨(((hp).1 hc1).1) hw2, ⟨rfl, by unfold jX12_of; rw [if_pos hc1, if_pos hw2], by unfold jX12_ofM; rw [if_pos hc1, if_pos hw2]⟩⟩, fun hw2 => ⟨(((hp).1 hc1).2.1) hw2, ⟨rfl, by unfold jX12_of; rw [if_pos hc1, if_neg (show ¬ a2 = 0 by rw [hw2]; decide), if_pos hw2], by unfold jX12_ofM; rw [if_pos hc1, if_neg (show ¬ a2 = 0 by rw [hw2]; decide), if_pos hw2]⟩⟩, fun hw2 => ⟨(((hp).1 hc1).2.2.1) hw2, ⟨rfl, by unfold jX12_of; rw [if_pos hc1, if_neg (show ¬ a2 = 0 by rw [hw2]; decide), if_neg (show ¬ a2 = 1 by rw [hw2]; decide), if_pos hw2], by unfold jX12_ofM; rw [if_pos hc1, if_neg (show ¬ a2 = 0 by rw [hw2]; decide), if_neg (show ¬ a2 = 1 by rw [hw2]; decide), if_pos hw2]⟩⟩, fun hw2 => ⟨(((hp).1 hc1).2.2.2.1) hw2, ⟨rfl, by unfold jX12_of; rw [if_pos hc1, if_neg (show ¬ a2 = 0 by rw [hw2]; decide), if_neg (show ¬ a2 = 1 by rw [hw2]; decide), if_neg (show ¬ a2 = 2 by rw [hw2]; decide), if_pos hw2], by unfold jX12_ofM; rw [if_pos hc1, if_neg (show ¬ a2 = 0 by rw [hw2]; decide), if_neg (show ¬ a2 = 1 by rw [hw2]; decide), if_neg (show ¬ a2 = 2 by rw [hw2]; decide), if_pos hw2]⟩⟩, fun hw2 => ⟨(((hp).1 hc1).2.2.2.2.1) hw2, ⟨rfl, by unfold jX12_of; rw [if_pos hc1, if_neg (show ¬ a2 = 0 by rw [hw2]; decide), if_neg (show ¬ a2 = 1 by rw [hw2]; decide), if_neg (show ¬ a2 = 2 by rw [hw2]; decide), if_neg (show ¬ a2 = 3 by rw [hw2]; decide), if_pos hw2], by unfold jX12_ofM; rw [if_pos hc1, if_neg (show ¬ a2 = 0 by rw [hw2]; decide), if_neg (show ¬ a2 = 1 by rw [hw2]; decide), if_neg (show ¬ a2 = 2 by rw [hw2]; decide), if_neg (show ¬ a2 = 3 by rw [hw2]; decide), if_pos hw2]⟩⟩, fun hw2 => ⟨(((hp).1 hc1).2.2.2.2.2.1) hw2, ⟨rfl, by unfold jX12_of; rw [if_pos hc1, if_neg (show ¬ a2 = 0 by rw [hw2]; decide), if_neg (show ¬ a2 = 1 by rw [hw2]; decide), if_neg (show ¬ a2 = 2 by rw [hw2]; decide), if_neg (show ¬ a2 = 3 by rw [hw2]; decide), if_neg (show ¬ a2 = 4 by rw [hw2]; decide), if_pos hw2], by unfold jX12_ofM; rw [if_pos hc1, if_neg (show ¬ a2 = 0 by rw [hw2]; decide), if_neg (show ¬ a2 = 1 by rw [hw2]; decide), if_neg (show ¬ a2 = 2 by rw [hw2]; decide), if_neg (show ¬ a2 = 3 by rw [hw2]; decide), if_neg (show ¬ a2 = 4 by rw [hw2]; decide), if_pos hw2]⟩⟩, fun hw2 => ⟨(((hp).1 hc1).2.2.2.2.2.2.1) hw2, ⟨rfl, by unfold jX12_of; rw [if_pos hc1, if_neg (show ¬ a2 = 0 by rw [hw2]; decide), if_neg (show ¬ a2 = 1 by rw [hw2]; decide), if_neg (show ¬ a2 = 2 by rw [hw2]; decide), if_neg (show ¬ a2 = 3 by rw [hw2]; decide), if_neg (show ¬ a2 = 4 by rw [hw2]; decide), if_neg (show ¬ a2 = 5 by rw [hw2]; decide), if_pos hw2], by unfold jX12_ofM; rw [if_pos hc1, if_neg (show ¬ a2 = 0 by rw [hw2]; decide), if_neg (show ¬ a2 = 1 by rw [hw2]; decide), if_neg (show ¬ a2 = 2 by rw [hw2]; decide), if_neg (show ¬ a2 = 3 by rw [hw2]; decide), if_neg (show ¬ a2 = 4 by rw [hw2]; decide), if_neg (show ¬ a2 = 5 by rw [hw2]; decide), if_pos hw2]⟩⟩, fun hw2 => ⟨(((hp).1 hc1).2.2.2.2.2.2.2.1) hw2, ⟨rfl, by unfold jX12_of; rw [if_pos hc1, if_neg (show ¬ a2 = 0 by rw [hw2]; decide), if_neg (show ¬ a2 = 1 by rw [hw2]; decide), if_neg (show ¬ a2 = 2 by rw [hw2]; decide), if_neg (show ¬ a2 = 3 by rw [hw2]; decide), if_neg (show ¬ a2 = 4 by rw [hw2]; decide), if_neg (show ¬ a2 = 5 by rw [hw2]; decide), if_neg (show ¬ a2 = 6 by rw [hw2]; decide), if_pos hw2], by unfold jX12_ofM; rw [if_pos hc1, if_neg (show ¬ a2 = 0 by rw [hw2]; decide), if_neg (show ¬ a2 = 1 by rw [hw2]; decide), if_neg (show ¬ a2 = 2 by rw [hw2]; decide), if_neg (show ¬ a2 = 3 by rw [hw2]; decide), if_neg (show ¬ a2 = 4 by rw [hw2]; decide), if_neg (show ¬ a2 = 5 by rw [hw2]; decide), if_neg (show ¬ a2 = 6 by rw [hw2]; decide), if_pos hw2]⟩⟩, fun hw2 => ⟨(((hp).1 hc1).2.2.2.2.2.2.2.2.1) hw2, ⟨rfl, by unfold jX12_of; rw [if_pos hc1, if_neg (show ¬ a2 = 0 by rw [hw2]; decide), if_neg (show ¬ a2 = 1 by rw [hw2]; decide), if_neg (show ¬ a2 = 2 by rw [hw2]; decide), if_neg (show ¬ a2 = 3 by rw [hw2]; decide), if_neg (show ¬ a2 = 4 by rw [hw2]; decide), if_neg (show ¬ a2 = 5 by rw [hw2]; decide), if_neg (show ¬ a2 = 6 by rw [hw2]; decide), if_neg (show ¬ a2 = 7 by rw [hw2]; decide), if_pos hw2], by unfold jX12_ofM; rw [if_pos hc1, if_neg (show ¬ a2 = 0 by rw [hw2]; decide), if_neg (show ¬ a2 = 1 by rw [hw2]; decide), if_neg (show ¬ a2 = 2 by rw [hw2]; decide), if_neg (show ¬ a2 = 3 by rw [hw2]; decide), if_neg (show ¬ a2 = 4 by rw [hw2]; decide), if_neg (show ¬ a2 = 5 by rw [hw2]; decide), if_neg (show ¬ a2 = 6 by rw [hw2]; decide), if_neg (show ¬ a2 = 7 by rw [hw2]; decide), if_pos hw2]⟩⟩, fun hw2 => ⟨(((hp).1 hc1).2.2.2.2.2.2.2.2.2.1) hw2, ⟨rfl, by unfold jX12_of; rw [if_pos hc1, if_neg (show ¬ a2 = 0 by rw [hw2]; decide), if_neg (show ¬ a2 = 1 by rw [hw2]; decide), if_neg (show ¬ a2 = 2 by rw [hw2]; decide), if_neg (show ¬ a2 = 3 by rw [hw2]; decide), if_neg (show ¬ a2 = 4 by rw [hw2]; decide), if_neg (show ¬ a2 = 5 by rw [hw2]; decide), if_neg (show ¬ a2 = 6 by rw [hw2]; decide), if_neg (show ¬ a2 = 7 by rw [hw2]; decide), if_neg (show ¬ a2 = 8 by rw [hw2]; decide), if_pos hw2], by unfold jX12_ofM; rw [if_pos hc1, if_neg (show ¬ a2 = 0 by rw [hw2]; decide), if_neg (show ¬ a2 = 1 by rw [hw2]; decide), if_neg (show ¬ a2 = 2 by rw [hw2]; decide), if_neg (show ¬ a2 = 3 by rw [hw2]; decide), if_neg (show ¬ a2 = 4 by rw [hw2]; decide), if_neg (show ¬ a2 = 5 by rw [hw2]; decide), if_neg (show ¬ a2 = 6 by rw [hw2]; decide), if_neg (show ¬ a2 = 7 by rw [hw2]; decide), if_neg (show ¬ a2 = 8 by rw [hw2]; decide), if_pos hw2]⟩⟩, fun hw2 => ⟨(((hp).1 hc1).2.2.2.2.2.2.2.2.2.2.1) hw2, ⟨rfl, by unfold jX12_of; rw [if_pos hc1, if_neg (show ¬ a2 = 0 by rw [hw2]; decide), if_neg (show ¬ a2 = 1 by rw [hw2]; decide), if_neg (show ¬ a2 = 2 by rw [hw2]; decide), if_neg (show ¬ a2 = 3 by rw [hw2]; decide), if_neg (show ¬ a2 = 4 by rw [hw2]; decide), if_neg (show ¬ a2 = 5 by rw [hw2]; decide), if_neg (show ¬ a2 = 6 by rw [hw2]; decide), if_neg (show ¬ a2 = 7 by rw [hw2]; decide), if_neg (show ¬ a2 = 8 by rw [hw2]; decide), if_neg (show ¬ a2 = 9 by rw [hw2]; decide), if_pos hw2], by unfold jX12_ofM; rw [if_pos hc1, if_neg (show ¬ a2 = 0 by rw [hw2]; decide), if_neg (show ¬ a2 = 1 by rw [hw2]; decide), if_neg (show ¬ a2 = 2 by rw [hw2]; decide), if_neg (show ¬ a2 = 3 by rw [hw2]; decide), if_neg (show ¬ a2 = 4 by rw [hw2]; decide), if_neg (show ¬ a2 = 5 by rw [hw2]; decide), if_neg (show ¬ a2 = 6 by rw [hw2]; decide), if_neg (show ¬ a2 = 7 by rw [hw2]; decide), if_neg (show ¬ a2 = 8 by rw [hw2]; decide), if_neg (show ¬ a2 = 9 by rw [hw2]; decide), if_pos hw2]⟩⟩, fun hw2 => ⟨(((hp).1 hc1).2.2.2.2.2.2.2.2.2.2.2.1) hw2, ⟨fun hc3 => ⟨rfl, by unfold jX12_of; rw [if_pos hc1, if_neg (show ¬ a2 = 0 by rw [hw2]; decide), if_neg (show ¬ a2 = 1 by rw [hw2]; decide), if_neg (show ¬ a2 = 2 by rw [hw2]; decide), if_neg (show ¬ a2 = 3 by rw [hw2]; decide), if_neg (show ¬ a2 = 4 by rw [hw2]; decide), if_neg (show ¬ a2 = 5 by rw [hw2]; decide), if_neg (show ¬ a2 = 6 by rw [hw2]; decide), if_neg (show ¬ a2 = 7 by rw [hw2]; decide), if_neg (show ¬ a2 = 8 by rw [hw2]; decide), if_neg (show ¬ a2 = 9 by rw [hw2]; decide), if_neg (show ¬ a2 = 10 by rw [hw2]; decide), if_pos hw2, if_pos hc3], by unfold jX12_ofM; rw [if_pos hc1, if_neg (show ¬ a2 = 0 by rw [hw2]; decide), if_neg (show ¬ a2 = 1 by rw [hw2]; decide), if_neg (show ¬ a2 = 2 by rw [hw2]; decide), if_neg (show ¬ a2 = 3 by rw [hw2]; decide), if_neg (show ¬ a2 = 4 by rw [hw2]; decide), if_neg (show ¬ a2 = 5 by rw [hw2]; decide), if_neg (show ¬ a2 = 6 by rw [hw2]; decide), if_neg (show ¬ a2 = 7 by rw [hw2]; decide), if_neg (show ¬ a2 = 8 by rw [hw2]; decide), if_neg (show ¬ a2 = 9 by rw [hw2]; decide), if_neg (show ¬ a2 = 10 by rw [hw2]; decide), if_pos hw2]⟩, fun hc3 => ⟨rfl, by unfold jX12_of; rw [if_pos hc1, if_neg (show ¬ a2 = 0 by rw [hw2]; decide), if_neg (show ¬ a2 = 1 by rw [hw2]; decide), if_neg (show ¬ a2 = 2 by rw [hw2]; decide), if_neg (show ¬ a2 = 3 by rw [hw2]; decide), if_neg (show ¬ a2 = 4 by rw [hw2]; decide), if_neg (show ¬ a2 = 5 by rw [hw2]; decide), if_neg (show ¬ a2 = 6 by rw [hw2]; decide), if_neg (show ¬ a2 = 7 by rw [hw2]; decide), if_neg (show ¬ a2 = 8 by rw [hw2]; decide), if_neg (show ¬ a2 = 9 by rw [hw2]; decide), if_neg (show ¬ a2 = 10 by rw [hw2]; decide), if_pos hw2, if_neg hc3], by unfold jX12_ofM; rw [if_pos hc1, if_neg (show ¬ a2 = 0 by rw [hw2]; decide), if_neg (show ¬ a2 = 1 by rw [hw2]; decide), if_neg (show ¬ a2 = 2 by rw [hw2]; decide), if_neg (show ¬ a2 = 3 by rw [hw2]; decide), if_neg (show ¬ a2 = 4 by rw [hw2]; decide), if_neg (show ¬ a2 = 5 by rw [hw2]; decide), if_neg (show ¬ a2 = 6 by rw [hw2]; decide), if_neg (show ¬ a2 = 7 by rw [hw2]; decide), if_neg (show ¬ a2 = 8 by rw [hw2]; decide), if_neg (show ¬ a2 = 9 by rw [hw2]; decide), if_neg (show ¬ a2 = 10 by rw [hw2]; decide), if_pos hw2]⟩⟩⟩, fun hw2 => ⟨(((hp).1 hc1).2.2.2.2.2.2.2.2.2.2.2.2.1) hw2, ⟨rfl, by unfold jX12_of; rw [if_pos hc1, if_neg (show ¬ a2 = 0 by rw [hw2]; decide), if_neg (show ¬ a2 = 1 by rw [hw2]; decide), if_neg (show ¬ a2 = 2 by rw [hw2]; decide), if_neg (show ¬ a2 = 3 by rw [hw2]; decide), if_neg (show ¬ a2 = 4 by rw [hw2]; decide), if_neg (show ¬ a2 = 5 by rw [hw2]; decide), if_neg (show ¬ a2 = 6 by rw [hw2]; decide), if_neg (show ¬ a2 = 7 by rw [hw2]; decide), if_neg (show ¬ a2 = 8 by rw [hw2]; decide), if_neg (show ¬ a2 = 9 by rw [hw2]; decide), if_neg (show ¬ a2 = 10 by rw [hw2]; decide), if_neg (show ¬ a2 = 11 by rw [hw2]; decide), if_pos hw2], by unfold jX12_ofM; rw [if_pos hc1, if_neg (show ¬ a2 = 0 by rw [hw2]; decide), if_neg (show ¬ a2 = 1 by rw [hw2]; decide), if_neg (show ¬ a2 = 2 by rw [hw2]; decide), if_neg (show ¬ a2 = 3 by rw [hw2]; decide), if_neg (show ¬ a2 = 4 by rw [hw2]; decide), if_neg (show ¬ a2 = 5 by rw [hw2]; decide), if_neg (show ¬ a2 = 6 by rw [hw2]; decide), if_neg (show ¬ a2 = 7 by rw [hw2]; decide), if_neg (show ¬ a2 = 8 by rw [hw2]; decide), if_neg (show ¬ a2 = 9 by rw [hw2]; decide), if_neg (show ¬ a2 = 10 by rw [hw2]; decide), if_neg (show ¬ a2 = 11 by rw [hw2]; decide), if_pos hw2]⟩⟩, fun hw2 => ⟨(((hp).1 hc1).2.2.2.2.2.2.2.2.2.2.2.2.2.1) hw2, ⟨rfl, by unfold jX12_of; rw [if_pos hc1, if_neg (show ¬ a2 = 0 by rw [hw2]; decide), if_neg (show ¬ a2 = 1 by rw [hw2]; decide), if_neg (show ¬ a2 = 2 by rw [hw2]; decide), if_neg (show ¬ a2 = 3 by rw [hw2]; decide), if_neg (show ¬ a2 = 4 by rw [hw2]; decide), if_neg (show ¬ a2 = 5 by rw [hw2]; decide), if_neg (show ¬ a2 = 6 by rw [hw2]; decide), if_neg (show ¬ a2 = 7 by rw [hw2]; decide), if_neg (show ¬ a2 = 8 by rw [hw2]; decide), if_neg (show ¬ a2 = 9 by rw [hw2]; decide), if_neg (show ¬ a2 = 10 by rw [hw2]; decide), if_neg (show ¬ a2 = 11 by rw [hw2]; decide), if_neg (show ¬ a2 = 12 by rw [hw2]; decide), if_pos hw2], by unfold jX12_ofM; rw [if_pos hc1, if_neg (show ¬ a2 = 0 by rw [hw2]; decide), if_neg (show ¬ a2 = 1 by rw [hw2]; decide), if_neg (show ¬ a2 = 2 by rw [hw2]; decide), if_neg (show ¬ a2 = 3 by rw [hw2]; decide), if_neg (show ¬ a2 = 4 by rw [hw2]; decide), if_neg (show ¬ a2 = 5 by rw [hw2]; decide), if_neg (show ¬ a2 = 6 by rw [hw2]; decide), if_neg (show ¬ a2 = 7 by rw [hw2]; decide), if_neg (show ¬ a2 = 8 by rw [hw2]; decide), if_neg (show ¬ a2 = 9 by rw [hw2]; decide), if_neg (show ¬ a2 = 10 by rw [hw2]; decide), if_neg (show ¬ a2 = 11 by rw [hw2]; decide), if_neg (show ¬ a2 = 12 by rw [hw2]; decide), if_pos hw2]⟩⟩, fun hw2 => ⟨(((hp).1 hc1).2.2.2.2.2.2.2.2.2.2.2.2.2.2.1) hw2, ⟨rfl, by unfold jX12_of; rw [if_pos hc1, if_neg (show ¬ a2 = 0 by rw [hw2]; decide), if_neg (show ¬ a2 = 1 by rw [hw2]; decide), if_neg (show ¬ a2 = 2 by rw [hw2]; decide), if_neg (show ¬ a2 = 3 by rw [hw2]; decide), if_neg (show ¬ a2 = 4 by rw [hw2]; decide), if_neg (show ¬ a2 = 5 by rw [hw2]; decide), if_neg (show ¬ a2 = 6 by rw [hw2]; decide), if_neg (show ¬ a2 = 7 by rw [hw2]; decide), if_neg (show ¬ a2 = 8 by rw [hw2]; decide), if_neg (show ¬ a2 = 9 by rw [hw2]; decide), if_neg (show ¬ a2 = 10 by rw [hw2]; decide), if_neg (show ¬ a2 = 11 by rw [hw2]; decide), if_neg (show ¬ a2 = 12 by rw [hw2]; decide), if_neg (show ¬ a2 = 13 by rw [hw2]; decide), if_pos hw2], by unfold jX12_ofM; rw [if_pos hc1, if_neg (show ¬ a2 = 0 by rw [hw2]; decide), if_neg (show ¬ a2 = 1 by rw [hw2]; decide), if_neg (show ¬ a2 = 2 by rw [hw2]; decide), if_neg (show ¬ a2 = 3 by rw [hw2]; decide), if_neg (show ¬ a2 = 4 by rw [hw2]; decide), if_neg (show ¬ a2 = 5 by rw [hw2]; decide), if_neg (show ¬ a2 = 6 by rw [hw2]; decide), if_neg (show ¬ a2 = 7 by rw [hw2]; decide), if_neg (show ¬ a2 = 8 by rw [hw2]; decide), if_neg (show ¬ a2 = 9 by rw [hw2]; decide), if_neg (show ¬ a2 = 10 by rw [hw2]; decide), if_neg (show ¬ a2 = 11 by rw [hw2]; decide), if_neg (show ¬ a2 = 12 by rw [hw2]; decide), if_neg (show ¬ a2 = 13 by rw [hw2]; decide), if_pos hw2]⟩⟩, fun hw2 => ⟨(((hp).1 hc1).2.2.2.2.2.2.2.2.2.2.2.2.2.2.2.1) hw2, ⟨rfl, by unfold jX12_of; rw [if_pos hc1, if_neg (show ¬ a2 = 0 by rw [hw2]; decide), if_neg (show ¬ a2 = 1 by rw [hw2]; decide), if_neg (show ¬ a2 = 2 by rw [hw2]; decide), if_neg (show ¬ a2 = 3 by rw [hw2]; decide), if_neg (show ¬ a2 = 4 by rw [hw2]; decide), if_neg (show ¬ a2 = 5 by rw [hw2]; decide), if_neg (show ¬ a2 = 6 by rw [hw2]; decide), if_neg (show ¬ a2 = 7 by rw [hw2]; decide), if_neg (show ¬ a2 = 8 by rw [hw2]; decide), if_neg (show ¬ a2 = 9 by rw [hw2]; decide), if_neg (show ¬ a2 = 10 by rw [hw2]; decide), if_neg (show ¬ a2 = 11 by rw [hw2]; decide), if_neg (show ¬ a2 = 12 by rw [hw2]; decide), if_neg (show ¬ a2 = 13 by rw [hw2]; decide), if_neg (show ¬ a2 = 14 by rw [hw2]; decide), if_pos hw2], by unfold jX12_ofM; rw [if_pos hc1, if_neg (show ¬ a2 = 0 by rw [hw2]; decide), if_neg (show ¬ a2 = 1 by rw [hw2]; decide), if_neg (show ¬ a2 = 2 by rw [hw2]; decide), if_neg (show ¬ a2 = 3 by rw [hw2]; decide), if_neg (show ¬ a2 = 4 by rw [hw2]; decide), if_neg (show ¬ a2 = 5 by rw [hw2]; decide), if_neg (show ¬ a2 = 6 by rw [hw2]; decide), if_neg (show ¬ a2 = 7 by rw [hw2]; decide), if_neg (show ¬ a2 = 8 by rw [hw2]; decide), if_neg (show ¬ a2 = 9 by rw [hw2]; decide), if_neg (show ¬ a2 = 10 by rw [hw2]; decide), if_neg (show ¬ a2 = 11 by rw [hw2]; decide), if_neg (show ¬ a2 = 12 by rw [hw2]; decide), if_neg (show ¬ a2 = 13 by rw [hw2]; decide), if_neg (show ¬ a2 = 14 by rw [hw2]; decide), if_pos hw2]⟩⟩, fun hw2 => ⟨(((hp).1 hc1).2.2.2.2.2.2.2.2.2.2.2.2.2.2.2.2.1) hw2, ⟨rfl, by unfold jX12_of; rw [if_pos hc1, if_neg (show ¬ a2 = 0 by rw [hw2]; decide), if_neg (show ¬ a2 = 1 by rw [hw2]; decide), if_neg (show ¬ a2 = 2 by rw [hw2]; decide), if_neg (show ¬ a2 = 3 by rw [hw2]; decide), if_neg (show ¬ a2 = 4 by rw [hw2]; decide), if_neg (show ¬ a2 = 5 by rw [hw2]; decide), if_neg (show ¬ a2 = 6 by rw [hw2]; decide), if_neg (show ¬ a2 = 7 by rw [hw2]; decide), if_neg (show ¬ a2 = 8 by rw [hw2]; decide), if_neg (show ¬ a2 = 9 by rw [hw2]; decide), if_neg (show ¬ a2 = 10 by rw [hw2]; decide), if_neg (show ¬ a2 = 11 by rw [hw2]; decide), if_neg (show ¬ a2 = 12 by rw [hw2]; decide), if_neg (show ¬ a2 = 13 by rw [hw2]; decide), if_neg (show ¬ a2 = 14 by rw [hw2]; decide), if_neg (show ¬ a2 = 15 by rw [hw2]; decide), if_pos hw2], by unfold jX12_ofM; rw [if_pos hc1, if_neg (show ¬ a2 = 0 by rw [hw2]; decide), if_neg (show ¬ a2 = 1 by rw [hw2]; decide), if_neg (show ¬ a2 = 2 by rw [hw2]; decide), if_neg (show ¬ a2 = 3 by rw [hw2]; decide), if_neg (show ¬ a2 = 4 by rw [hw2]; decide), if_neg (show ¬ a2 = 5 by rw [hw2]; decide), if_neg (show ¬ a2 = 6 by rw [hw2]; decide), if_neg (show ¬ a2 = 7 by rw [hw2]; decide), if_neg (show ¬ a2 = 8 by rw [hw2]; decide), if_neg (show ¬ a2 = 9 by rw [hw2]; decide), if_neg (show ¬ a2 = 10 by rw [hw2]; decide), if_neg (show ¬ a2 = 11 by rw [hw2]; decide), if_neg (show ¬ a2 = 12 by rw [hw2]; decide), if_neg (show ¬ a2 = 13 by rw [hw2]; decide), if_neg (show ¬ a2 = 14 by rw [hw2]; decide), if_neg (show ¬ a2 = 15 by rw [hw2]; decide), if_pos hw2]⟩⟩, fun hw2 => ⟨(((hp).1 hc1).2.2.2.2.2.2.2.2.2.2.2.2.2.2.2.2.2.1) hw2, ⟨rfl, by unfold jX12_of; rw [if_pos hc1, if_neg (show ¬ a2 = 0 by rw [hw2]; decide), if_neg (show ¬ a2 = 1 by rw [hw2]; decide), if_neg (show ¬ a2 = 2 by rw [hw2]; decide), if_neg (show ¬ a2 = 3 by rw [hw2]; decide), if_neg (show ¬ a2 = 4 by rw [hw2]; decide), if_neg (show ¬ a2 = 5 by rw [hw2]; decide), if_neg (show ¬ a2 = 6 by rw [hw2]; decide), if_neg (show ¬ a2 = 7 by rw [hw2]; decide), if_neg (show ¬ a2 = 8 by rw [hw2]; decide), if_neg (show ¬ a2 = 9 by rw [hw2]; decide), if_neg (show ¬ a2 = 10 by rw [hw2]; decide), if_neg (show ¬ a2 = 11 by rw [hw2]; decide), if_neg (show ¬ a2 = 12 by rw [hw2]; decide), if_neg (show ¬ a2 = 13 by rw [hw2]; decide), if_neg (show ¬ a2 = 14 by rw [hw2]; decide), if_neg (show ¬ a2 = 15 by rw [hw2]; decide), if_neg (show ¬ a2 = 16 by rw [hw2]; decide), if_pos hw2], by unfold jX12_ofM; rw [if_pos hc1, if_neg (show ¬ a2 = 0 by rw [hw2]; decide), if_neg (show ¬ a2 = 1 by rw [hw2]; decide), if_neg (show ¬ a2 = 2 by rw [hw2]; decide), if_neg (show ¬ a2 = 3 by rw [hw2]; decide), if_neg (show ¬ a2 = 4 by rw [hw2]; decide), if_neg (show ¬ a2 = 5 by rw [hw2]; decide), if_neg (show ¬ a2 = 6 by rw [hw2]; decide), if_neg (show ¬ a2 = 7 by rw [hw2]; decide), if_neg (show ¬ a2 = 8 by rw [hw2]; decide), if_neg (show ¬ a2 = 9 by rw [hw2]; decide), if_neg (show ¬ a2 = 10 by rw [hw2]; decide), if_neg (show ¬ a2 = 11 by rw [hw2]; decide), if_neg (show ¬ a2 = 12 by rw [hw2]; decide), if_neg (show ¬ a2 = 13 by rw [hw2]; decide), if_neg (show ¬ a2 = 14 by rw [hw2]; decide), if_neg (show ¬ a2 = 15 by rw [hw2]; decide), if_neg (show ¬ a2 = 16 by rw [hw2]; decide), if_pos hw2]⟩⟩, fun hw2 => ⟨rfl, by unfold jX12_of; rw [if_pos hc1, if_neg (swd_0_17 hw2).1, if_neg (swd_0_17 hw2).2.1, if_neg (swd_0_17 hw2).2.2.1, if_neg (swd_0_17 hw2).2.2.2.1, if_neg (swd_0_17 hw2).2.2.2.2.1, if_neg (swd_0_17 hw2).2.2.2.2.2.1, if_neg (swd_0_17 hw2).2.2.2.2.2.2.1, if_neg (swd_0_17 hw2).2.2.2.2.2.2.2.1, if_neg (swd_0_17 hw2).2.2.2.2.2.2.2.2.1, if_neg (swd_0_17 hw2).2.2.2.2.2.2.2.2.2.1, if_neg (swd_0_17 hw2).2.2.2.2.2.2.2.2.2.2.1, if_neg (swd_0_17 hw2).2.2.2.2.2.2.2.2.2.2.2.1, if_neg (swd_0_17 hw2).2.2.2.2.2.2.2.2.2.2.2.2.1, if_neg (swd_0_17 hw2).2.2.2.2.2.2.2.2.2.2.2.2.2.1, if_neg (swd_0_17 hw2).2.2.2.2.2.2.2.2.2.2.2.2.2.2.1, if_neg (swd_0_17 hw2).2.2.2.2.2.2.2.2.2.2.2.2.2.2.2.1, if_neg (swd_0_17 hw2).2.2.2.2.2.2.2.2.2.2.2.2.2.2.2.2.1, if_neg (swd_0_17 hw2).2.2.2.2.2.2.2.2.2.2.2.2.2.2.2.2.2], by unfold jX12_ofM; rw [if_pos hc1, if_neg (swd_0_17 hw2).1, if_neg (swd_0_17 hw2).2.1, if_neg (swd_0_17 hw2).2.2.1, if_neg (swd_0_17 hw2).2.2.2.1, if_neg (swd_0_17 hw2).2.2.2.2.1, if_neg (swd_0_17 hw2).2.2.2.2.2.1, if_neg (swd_0_17 hw2).2.2.2.2.2.2.1, if_neg (swd_0_17 hw2).2.2.2.2.2.2.2.1, if_neg (swd_0_17 hw2).2.2.2.2.2.2.2.2.1, if_neg (swd_0_17 hw2).2.2.2.2.2.2.2.2.2.1, if_neg (swd_0_17 hw2).2.2.2.2.2.2.2.2.2.2.1, if_neg (swd_0_17 hw2).2.2.2.2.2.2.2.2.2.2.2.1, if_neg (swd_0_17 hw2).2.2.2.2.2.2.2.2.2.2.2.2.1, if_neg (swd_0_17 hw2).2.2.2.2.2.2.2.2.2.2.2.2.2.1, if_neg (swd_0_17 hw2).2.2.2.2.2.2.2.2.2.2.2.2.2.2.1, if_neg (swd_0_17 hw2).2.2.2.2.2.2.2.2.2.2.2.2.2.2.2.1, if_neg (swd_0_17 hw2).2.2.2.2.2.2.2.2.2.2.2.2.2.2.2.2.1, if_neg (swd_0_17 hw2).2.2.2.2.2.2.2.2.2.2.2.2.2.2.2.2.2]⟩⟩, fun hc1 => ⟨rfl, by unfold jX12_of; rw [if_neg hc1], by unfold jX12_ofM; rw [if_neg hc1]⟩⟩)

def fX12_countingAt_0 (T : Topo) (a1 : Int32) (Q : Int32 → Topo → IM → Prop) (K4 : Int32 → Int32 → IM → Prop) (I : IM) : Prop :=
  K4 0 0 I
def fX12_countingAt_4 (T : Topo) (a1 : Int32) (Q : Int32 → Topo → IM → Prop) (K4 : Int32 → Int32 → IM → Prop) (v2 v3 : Int32) (I : IM) : Prop :=
  ((((I 79 2) ≤ v3) → Q v2 T I) ∧ ((¬ (I 79 2) ≤ v3) → (vp_in v3 8 ∧ ((((I 106 v3.toNatClampNeg) = 0) → K4 (v2 ||| 0) (v3 + 1) I) ∧ ((¬ (I 106 v3.toNatClampNeg) = 0) → (((jX12_doesK I v3 a1)) ∧ ((((jX12_does I v3 a1) = 0) → K4 (v2 ||| 0) (v3 + 1) I) ∧ ((¬ (jX12_does I v3 a1) = 0) → K4 (v2 ||| ((1 : Int32) <<< (v3 &&& 31))) (v3 + 1) I))))))))
set_option maxHeartbeats 4000000 in
set_option maxRecDepth 100000 in
theorem sX12_countingAt_0 (d : Nat) {T : Topo} (hT : Lay T) (a1 : Int32)    {Q : Int32 → Topo → IM → Prop} {K4 : Int32 → Int32 → IM → Prop} (hK4 : ∀ (v2 v3 : Int32) (I : IM), K4 v2 v3 I → J (d + 2) mX12_countingAt (PI Q) 0 0 4 [some (.ref 79), some (.int a1), some (.int v2), some (.int v3)] [] T I 0 0) (I : IM) (h : fX12_countingAt_0 T a1 Q K4 I) : J (d + 2) mX12_countingAt (PI Q) 0 0 0 [some (.ref 79), some (.int a1), none, none] [] T I 0 0 := by
  unfold fX12_countingAt_0 at h
  refine J.iconst (v := 0) dX12_countingAt_0 (by decide) ?_
  refine J.istore_n (ls' := [some (.ref 79), some (.int a1), some (.int 0), none]) dX12_countingAt_1 rfl rfl rfl ?_
  refine J.iconst (v := 0) dX12_countingAt_2 (by decide) ?_
  refine J.istore_n (ls' := [some (.ref 79), some (.int a1), some (.int 0), some (.int 0)]) dX12_countingAt_3 rfl rfl rfl ?_
  exact J.weaken (ls' := [some (.ref 79), some (.int a1), some (.int 0), some (.int 0)]) (And.intro rfl (And.intro rfl (And.intro rfl (And.intro rfl trivial)))) (hK4 0 0 I h)
set_option maxHeartbeats 4000000 in
set_option maxRecDepth 100000 in
theorem sX12_countingAt_4 (d : Nat) {T : Topo} (hT : Lay T) (a1 : Int32)    {Q : Int32 → Topo → IM → Prop} {K4 : Int32 → Int32 → IM → Prop} (hK4 : ∀ (v2 v3 : Int32) (I : IM), K4 v2 v3 I → J (d + 2) mX12_countingAt (PI Q) 0 0 4 [some (.ref 79), some (.int a1), some (.int v2), some (.int v3)] [] T I 0 0) (v2 v3 : Int32) (I : IM) (h : fX12_countingAt_4 T a1 Q K4 v2 v3 I) : J (d + 2) mX12_countingAt (PI Q) 0 0 4 [some (.ref 79), some (.int a1), some (.int v2), some (.int v3)] [] T I 0 0 := by
  unfold fX12_countingAt_4 at h
  refine J.iload_n dX12_countingAt_4 rfl rfl ?_
  refine J.aload_n dX12_countingAt_5 rfl rfl ?_
  refine J.getI dX12_countingAt_6 fX12_196 (hT.k 79 rfl) rfl ?_
  refine J.icmp_ge (tgt := 46) dX12_countingAt_9 (by decide) (fun hc1 => ?_) (fun hc1 => ?_)
  · have h := h.1 hc1
    refine J.iload_n dX12_countingAt_46 rfl rfl ?_
    exact J.iretQ dX12_countingAt_47 rfl (Nat.le_refl _) (Nat.le_refl _) h
  · have h := h.2 hc1
    refine J.iload_n dX12_countingAt_12 rfl rfl ?_
    refine J.aload_n dX12_countingAt_13 rfl rfl ?_
    refine J.getR (r := 106) dX12_countingAt_14 fX12_93 (hT.k 79 rfl) rfl (hT.r 79 35 rfl rfl) ?_
    refine J.iload_n dX12_countingAt_17 rfl rfl ?_
    obtain ⟨hs2, h⟩ := h
    refine J.bald dX12_countingAt_18 (hT.k 106 rfl) (hT.l 106 rfl) hs2 ?_
    refine J.if_eq (tgt := 37) dX12_countingAt_19 (by decide) (fun hc3 => ?_) (fun hc3 => ?_)
    · have h := h.1 hc3
      refine J.iconst (v := 0) dX12_countingAt_37 (by decide) ?_
      refine J.ior dX12_countingAt_38 ?_
      refine J.istore_n (ls' := [some (.ref 79), some (.int a1), some (.int (v2 ||| 0)), some (.int v3)]) dX12_countingAt_39 rfl rfl rfl ?_
      refine J.iinc (v := (v3 + 1)) (ls' := [some (.ref 79), some (.int a1), some (.int (v2 ||| 0)), some (.int (v3 + 1))]) dX12_countingAt_40 rfl (by rfl) rfl ?_
      refine J.goto (tgt := 4) dX12_countingAt_43 (by decide) ?_
      exact J.weaken (ls' := [some (.ref 79), some (.int a1), some (.int (v2 ||| 0)), some (.int (v3 + 1))]) (And.intro rfl (And.intro rfl (And.intro rfl (And.intro rfl trivial)))) (hK4 (v2 ||| 0) (v3 + 1) I h)
    · have h := h.2 hc3
      refine J.aload_n dX12_countingAt_22 rfl rfl ?_
      refine J.iload_n dX12_countingAt_23 rfl rfl ?_
      refine J.iload_n dX12_countingAt_24 rfl rfl ?_
      obtain ⟨hp4, h⟩ := h
      refine J.callVP (k := 79) (as := [.int v3, .int a1]) (rest := [.int v2]) dX12_countingAt_25 kX12_does vX12_does lX12_246 (hT.k 79 rfl) rfl rfl rfl rfl rfl (by omega) (Nat.le_refl _) (Nat.le_refl _) (qX12_does (d + 0) hT v3 a1 hp4) ?_
      refine J.if_eq (tgt := 37) dX12_countingAt_28 (by decide) (fun hc5 => ?_) (fun hc5 => ?_)
      · have h := h.1 hc5
        refine J.iconst (v := 0) dX12_countingAt_37 (by decide) ?_
        refine J.ior dX12_countingAt_38 ?_
        refine J.istore_n (ls' := [some (.ref 79), some (.int a1), some (.int (v2 ||| 0)), some (.int v3)]) dX12_countingAt_39 rfl rfl rfl ?_
        refine J.iinc (v := (v3 + 1)) (ls' := [some (.ref 79), some (.int a1), some (.int (v2 ||| 0)), some (.int (v3 + 1))]) dX12_countingAt_40 rfl (by rfl) rfl ?_
        refine J.goto (tgt := 4) dX12_countingAt_43 (by decide) ?_
        exact J.weaken (ls' := [some (.ref 79), some (.int a1), some (.int (v2 ||| 0)), some (.int (v3 + 1))]) (And.intro rfl (And.intro rfl (And.intro rfl (And.intro rfl trivial)))) (hK4 (v2 ||| 0) (v3 + 1) I h)
      · have h := h.2 hc5
        refine J.iconst (v := 1) dX12_countingAt_31 (by decide) ?_
        refine J.iload_n dX12_countingAt_32 rfl rfl ?_
        refine J.ishl dX12_countingAt_33 ?_
        refine J.goto (tgt := 38) dX12_countingAt_34 (by decide) ?_
        refine J.ior dX12_countingAt_38 ?_
        refine J.istore_n (ls' := [some (.ref 79), some (.int a1), some (.int (v2 ||| ((1 : Int32) <<< (v3 &&& 31)))), some (.int v3)]) dX12_countingAt_39 rfl rfl rfl ?_
        refine J.iinc (v := (v3 + 1)) (ls' := [some (.ref 79), some (.int a1), some (.int (v2 ||| ((1 : Int32) <<< (v3 &&& 31)))), some (.int (v3 + 1))]) dX12_countingAt_40 rfl (by rfl) rfl ?_
        refine J.atpc (pc' := 43) rfl ?_
        refine J.goto (tgt := 4) dX12_countingAt_43 (by decide) ?_
        exact J.weaken (ls' := [some (.ref 79), some (.int a1), some (.int (v2 ||| ((1 : Int32) <<< (v3 &&& 31)))), some (.int (v3 + 1))]) (And.intro rfl (And.intro rfl (And.intro rfl (And.intro rfl trivial)))) (hK4 (v2 ||| ((1 : Int32) <<< (v3 &&& 31))) (v3 + 1) I h)
set_option maxHeartbeats 4000000 in
set_option maxRecDepth 100000 in
theorem wX12_countingAt (d : Nat) {T : Topo} (hT : Lay T) (a1 : Int32)   {Q : Int32 → Topo → IM → Prop} (V4 : Int32 → Int32 → IM → Prop) (μ4 : Int32 → Int32 → IM → Nat) (vc4 : ∀ (v2 v3 : Int32) (I : IM), V4 v2 v3 I → fX12_countingAt_4 T a1 Q (fun w2 w3 I_ => V4 w2 w3 I_ ∧ μ4 w2 w3 I_ < μ4 v2 v3 I) v2 v3 I) {I : IM} (h : fX12_countingAt_0 T a1 Q V4 I) : Ct (d + 2) mX12_countingAt [.ref 79, .int a1] T I 0 0 (PI Q) := by
  have all : ∀ n : Nat, (∀ (v2 v3 : Int32) (I : IM), V4 v2 v3 I → μ4 v2 v3 I < n → J (d + 2) mX12_countingAt (PI Q) 0 0 4 [some (.ref 79), some (.int a1), some (.int v2), some (.int v3)] [] T I 0 0) := by
    intro n
    induction n with
    | zero => exact fun _ _ _ _ hn => absurd hn (Nat.not_lt_zero _)
    | succ n ih =>
      exact fun v2 v3 I hv hn => sX12_countingAt_4 d hT a1   (fun w2 w3 I_ hw => ih w2 w3 I_ hw.1 (by have := hw.2; omega)) v2 v3 I (vc4 v2 v3 I hv)
  exact Ct.ofJ (by decide +kernel) rfl (by intro v hv; revert v hv; simp [Value.category]) rfl (sX12_countingAt_0 d hT a1   (fun w2 w3 I_ hw => (all (μ4 w2 w3 I_ + 1)) w2 w3 I_ hw (Nat.lt_succ_self _)) I h)

def jX12_countingAtI (a1 : Int32) : Nat → Int32 → Int32 → IM → Int32
  | 0 => fun _ _ I => 0
  | n + 1 => fun v2 v3 I => (if (I 79 2) ≤ v3 then v2 else (if (I 106 v3.toNatClampNeg) = 0 then (jX12_countingAtI a1 n (v2 ||| 0) (v3 + 1) I) else (if (jX12_does I v3 a1) = 0 then (jX12_countingAtI a1 n (v2 ||| 0) (v3 + 1) I) else (jX12_countingAtI a1 n (v2 ||| ((1 : Int32) <<< (v3 &&& 31))) (v3 + 1) I))))
def jX12_countingAtO (a1 : Int32) : Nat → Int32 → Int32 → IM → Prop
  | 0 => fun _ _ _ => False
  | n + 1 => fun v2 v3 I => ((((I 79 2) ≤ v3) → True) ∧ ((¬ (I 79 2) ≤ v3) → (vp_in v3 8 ∧ ((((I 106 v3.toNatClampNeg) = 0) → (jX12_countingAtO a1 n (v2 ||| 0) (v3 + 1) I)) ∧ ((¬ (I 106 v3.toNatClampNeg) = 0) → (((jX12_doesK I v3 a1)) ∧ ((((jX12_does I v3 a1) = 0) → (jX12_countingAtO a1 n (v2 ||| 0) (v3 + 1) I)) ∧ ((¬ (jX12_does I v3 a1) = 0) → (jX12_countingAtO a1 n (v2 ||| ((1 : Int32) <<< (v3 &&& 31))) (v3 + 1) I)))))))))
theorem jX12_countingAtI_4 (a1 : Int32) (n : Nat) (v2 v3 : Int32) (I : IM) : jX12_countingAtI a1 (n + 1) v2 v3 I = (if (I 79 2) ≤ v3 then v2 else (if (I 106 v3.toNatClampNeg) = 0 then (jX12_countingAtI a1 n (v2 ||| 0) (v3 + 1) I) else (if (jX12_does I v3 a1) = 0 then (jX12_countingAtI a1 n (v2 ||| 0) (v3 + 1) I) else (jX12_countingAtI a1 n (v2 ||| ((1 : Int32) <<< (v3 &&& 31))) (v3 + 1) I)))) := rfl
theorem jX12_countingAtO_4 (a1 : Int32) (n : Nat) (v2 v3 : Int32) (I : IM) : jX12_countingAtO a1 (n + 1) v2 v3 I = ((((I 79 2) ≤ v3) → True) ∧ ((¬ (I 79 2) ≤ v3) → (vp_in v3 8 ∧ ((((I 106 v3.toNatClampNeg) = 0) → (jX12_countingAtO a1 n (v2 ||| 0) (v3 + 1) I)) ∧ ((¬ (I 106 v3.toNatClampNeg) = 0) → (((jX12_doesK I v3 a1)) ∧ ((((jX12_does I v3 a1) = 0) → (jX12_countingAtO a1 n (v2 ||| 0) (v3 + 1) I)) ∧ ((¬ (jX12_does I v3 a1) = 0) → (jX12_countingAtO a1 n (v2 ||| ((1 : Int32) <<< (v3 &&& 31))) (v3 + 1) I))))))))) := rfl
def jX12_countingAt (I : IM) (a1 : Int32) : Int32 := (jX12_countingAtI a1 FU 0 0 I)
def jX12_countingAtK (I : IM) (a1 : Int32) : Prop := (jX12_countingAtO a1 FU 0 0 I)
set_option maxRecDepth 10000 in
set_option maxHeartbeats 1000000 in
theorem uX12_countingAt (d : Nat) {T : Topo} (hT : Lay T) (a1 : Int32)   {R : Int32} {I00 : IM} : ∀ n : Nat, (∀ (v2 v3 : Int32) (I : IM), I = I00 → jX12_countingAtO a1 n v2 v3 I → jX12_countingAtI a1 n v2 v3 I = R → J (d + 2) mX12_countingAt (PI (fun x T' I' => x = R ∧ T' = T ∧ I' = I00)) 0 0 4 [some (.ref 79), some (.int a1), some (.int v2), some (.int v3)] [] T I 0 0) := by
  intro n
  induction n with
  | zero => exact fun _ _ _ _ hz => hz.elim
  | succ n ih =>
    exact fun v2 v3 I hI hok hit => by
        rw [jX12_countingAtO_4] at hok
        exact sX12_countingAt_4 d hT a1   (K4 := fun w2 w3 I_ => (jX12_countingAtO a1 n w2 w3 I_ ∧ jX12_countingAtI a1 n w2 w3 I_ = R) ∧ I_ = I00) (fun w2 w3 I_ hw => ih w2 w3 I_ hw.2 hw.1.1 hw.1.2) v2 v3 I (by
          unfold fX12_countingAt_4
          exact ⟨fun hc1 => ⟨by rw [jX12_countingAtI_4, if_pos hc1] at hit; exact hit, rfl, hI⟩, fun hc1 => ⟨((hok).2 hc1).1, ⟨fun hc2 => ⟨⟨(((hok).2 hc1).2).1 hc2, by rw [jX12_countingAtI_4, if_neg hc1, if_pos hc2] at hit; exact hit⟩, hI⟩, fun hc2 => ⟨((((hok).2 hc1).2).2 hc2).1, ⟨fun hc3 => ⟨⟨(((((hok).2 hc1).2).2 hc2).2).1 hc3, by rw [jX12_countingAtI_4, if_neg hc1, if_neg hc2, if_pos hc3] at hit; exact hit⟩, hI⟩, fun hc3 => ⟨⟨(((((hok).2 hc1).2).2 hc2).2).2 hc3, by rw [jX12_countingAtI_4, if_neg hc1, if_neg hc2, if_neg hc3] at hit; exact hit⟩, hI⟩⟩⟩⟩⟩⟩)
set_option maxRecDepth 10000 in
set_option maxHeartbeats 1000000 in
theorem qX12_countingAt (d : Nat) {T : Topo} {I : IM} (hT : Lay T) (a1 : Int32)  (hp : (jX12_countingAtK I a1)) : CtP (d + 2) mX12_countingAt [.ref 79, .int a1] T I (jX12_countingAt I a1) := by
  unfold jX12_countingAtK at hp
  exact Ct.ofJ (by decide +kernel) rfl (by intro v hv; revert v hv; simp [Value.category]) rfl (sX12_countingAt_0 d hT a1   (K4 := fun w2 w3 I_ => (jX12_countingAtO a1 FU w2 w3 I_ ∧ jX12_countingAtI a1 FU w2 w3 I_ = (jX12_countingAt I a1)) ∧ I_ = I) (fun w2 w3 I_ hw => uX12_countingAt d hT a1   FU w2 w3 I_ hw.2 hw.1.1 hw.1.2) I (by
    unfold fX12_countingAt_0
    exact ⟨⟨hp, rfl⟩, rfl⟩))

def fX12_loadOf_0 (T : Topo) (a1 : Int32) (a2 : Int32) (Q : Int32 → Topo → IM → Prop) (K5 : Int32 → Int32 → IM → Prop) (I : IM) : Prop :=
  K5 0 0 I
def fX12_loadOf_5 (T : Topo) (a1 : Int32) (a2 : Int32) (Q : Int32 → Topo → IM → Prop) (K5 : Int32 → Int32 → IM → Prop) (v3 v4 : Int32) (I : IM) : Prop :=
  ((((I 79 2) ≤ v4) → Q v3 T I) ∧ ((¬ (I 79 2) ≤ v4) → ((((¬ (hs a2 v4)) → K5 (v3 + 0) (v4 + 1) I) ∧ ((hs a2 v4) → (vp_in v4 8 ∧ ((((¬ (hs (I 107 v4.toNatClampNeg) a1)) → K5 (v3 + 0) (v4 + 1) I) ∧ ((hs (I 107 v4.toNatClampNeg) a1) → (((jX12_needK I v4)) ∧ K5 (v3 + (jX12_need I v4)) (v4 + 1) I))))))))))
set_option maxHeartbeats 4000000 in
set_option maxRecDepth 100000 in
theorem sX12_loadOf_0 (d : Nat) {T : Topo} (hT : Lay T) (a1 : Int32) (a2 : Int32)    {Q : Int32 → Topo → IM → Prop} {K5 : Int32 → Int32 → IM → Prop} (hK5 : ∀ (v3 v4 : Int32) (I : IM), K5 v3 v4 I → J (d + 1) mX12_loadOf (PI Q) 0 0 5 [some (.ref 79), some (.int a1), some (.int a2), some (.int v3), some (.int v4)] [] T I 0 0) (I : IM) (h : fX12_loadOf_0 T a1 a2 Q K5 I) : J (d + 1) mX12_loadOf (PI Q) 0 0 0 [some (.ref 79), some (.int a1), some (.int a2), none, none] [] T I 0 0 := by
  unfold fX12_loadOf_0 at h
  refine J.iconst (v := 0) dX12_loadOf_0 (by decide) ?_
  refine J.istore_n (ls' := [some (.ref 79), some (.int a1), some (.int a2), some (.int 0), none]) dX12_loadOf_1 rfl rfl rfl ?_
  refine J.iconst (v := 0) dX12_loadOf_2 (by decide) ?_
  refine J.istore (ls' := [some (.ref 79), some (.int a1), some (.int a2), some (.int 0), some (.int 0)]) dX12_loadOf_3 rfl rfl ?_
  exact J.weaken (ls' := [some (.ref 79), some (.int a1), some (.int a2), some (.int 0), some (.int 0)]) (And.intro rfl (And.intro rfl (And.intro rfl (And.intro rfl (And.intro rfl trivial))))) (hK5 0 0 I h)
set_option maxHeartbeats 4000000 in
set_option maxRecDepth 100000 in
theorem sX12_loadOf_5 (d : Nat) {T : Topo} (hT : Lay T) (a1 : Int32) (a2 : Int32)    {Q : Int32 → Topo → IM → Prop} {K5 : Int32 → Int32 → IM → Prop} (hK5 : ∀ (v3 v4 : Int32) (I : IM), K5 v3 v4 I → J (d + 1) mX12_loadOf (PI Q) 0 0 5 [some (.ref 79), some (.int a1), some (.int a2), some (.int v3), some (.int v4)] [] T I 0 0) (v3 v4 : Int32) (I : IM) (h : fX12_loadOf_5 T a1 a2 Q K5 v3 v4 I) : J (d + 1) mX12_loadOf (PI Q) 0 0 5 [some (.ref 79), some (.int a1), some (.int a2), some (.int v3), some (.int v4)] [] T I 0 0 := by
  unfold fX12_loadOf_5 at h
  refine J.iload dX12_loadOf_5 rfl ?_
  refine J.aload_n dX12_loadOf_7 rfl rfl ?_
  refine J.getI dX12_loadOf_8 fX12_196 (hT.k 79 rfl) rfl ?_
  refine J.icmp_ge (tgt := 56) dX12_loadOf_11 (by decide) (fun hc1 => ?_) (fun hc1 => ?_)
  · have h := h.1 hc1
    refine J.iload_n dX12_loadOf_56 rfl rfl ?_
    exact J.iretQ dX12_loadOf_57 rfl (Nat.le_refl _) (Nat.le_refl _) h
  · have h := h.2 hc1
    refine J.iload_n dX12_loadOf_14 rfl rfl ?_
    refine J.iload_n dX12_loadOf_15 rfl rfl ?_
    refine J.iload dX12_loadOf_16 rfl ?_
    refine J.callSP (as := [.int a2, .int v4]) (rest := [.int v3]) dX12_loadOf_18 kX12_has vX12_has lX12_212 rfl rfl rfl (by omega) (Nat.le_refl _) (Nat.le_refl _) (qX12_has (d + 0) hT a2 v4 ) ?_
    refine J.bz_eq (tgt := 47) dX12_loadOf_21 (by decide) (fun hc2 => ?_) (fun hc2 => ?_)
    · have h := h.1 hc2
      refine J.iconst (v := 0) dX12_loadOf_47 (by decide) ?_
      refine J.iadd dX12_loadOf_48 ?_
      refine J.istore_n (ls' := [some (.ref 79), some (.int a1), some (.int a2), some (.int (v3 + 0)), some (.int v4)]) dX12_loadOf_49 rfl rfl rfl ?_
      refine J.iinc (v := (v4 + 1)) (ls' := [some (.ref 79), some (.int a1), some (.int a2), some (.int (v3 + 0)), some (.int (v4 + 1))]) dX12_loadOf_50 rfl (by rfl) rfl ?_
      refine J.goto (tgt := 5) dX12_loadOf_53 (by decide) ?_
      exact J.weaken (ls' := [some (.ref 79), some (.int a1), some (.int a2), some (.int (v3 + 0)), some (.int (v4 + 1))]) (And.intro rfl (And.intro rfl (And.intro rfl (And.intro rfl (And.intro rfl trivial))))) (hK5 (v3 + 0) (v4 + 1) I h)
    · have h := h.2 hc2
      refine J.aload_n dX12_loadOf_24 rfl rfl ?_
      refine J.getR (r := 107) dX12_loadOf_25 fX12_96 (hT.k 79 rfl) rfl (hT.r 79 36 rfl rfl) ?_
      refine J.iload dX12_loadOf_28 rfl ?_
      obtain ⟨hs3, h⟩ := h
      refine J.iald dX12_loadOf_30 (hT.k 107 rfl) (hT.l 107 rfl) hs3 ?_
      refine J.iload_n dX12_loadOf_31 rfl rfl ?_
      refine J.callSP (as := [.int (I 107 v4.toNatClampNeg), .int a1]) (rest := [.int v3]) dX12_loadOf_32 kX12_has vX12_has lX12_212 rfl rfl rfl (by omega) (Nat.le_refl _) (Nat.le_refl _) (qX12_has (d + 0) hT (I 107 v4.toNatClampNeg) a1 ) ?_
      refine J.bz_eq (tgt := 47) dX12_loadOf_35 (by decide) (fun hc4 => ?_) (fun hc4 => ?_)
      · have h := h.1 hc4
        refine J.iconst (v := 0) dX12_loadOf_47 (by decide) ?_
        refine J.iadd dX12_loadOf_48 ?_
        refine J.istore_n (ls' := [some (.ref 79), some (.int a1), some (.int a2), some (.int (v3 + 0)), some (.int v4)]) dX12_loadOf_49 rfl rfl rfl ?_
        refine J.iinc (v := (v4 + 1)) (ls' := [some (.ref 79), some (.int a1), some (.int a2), some (.int (v3 + 0)), some (.int (v4 + 1))]) dX12_loadOf_50 rfl (by rfl) rfl ?_
        refine J.goto (tgt := 5) dX12_loadOf_53 (by decide) ?_
        exact J.weaken (ls' := [some (.ref 79), some (.int a1), some (.int a2), some (.int (v3 + 0)), some (.int (v4 + 1))]) (And.intro rfl (And.intro rfl (And.intro rfl (And.intro rfl (And.intro rfl trivial))))) (hK5 (v3 + 0) (v4 + 1) I h)
      · have h := h.2 hc4
        refine J.aload_n dX12_loadOf_38 rfl rfl ?_
        refine J.iload dX12_loadOf_39 rfl ?_
        obtain ⟨hp5, h⟩ := h
        refine J.callVP (k := 79) (as := [.int v4]) (rest := [.int v3]) dX12_loadOf_41 kX12_need vX12_need lX12_243 (hT.k 79 rfl) rfl rfl rfl rfl rfl (by omega) (Nat.le_refl _) (Nat.le_refl _) (qX12_need (d + 0) hT v4 hp5) ?_
        refine J.goto (tgt := 48) dX12_loadOf_44 (by decide) ?_
        refine J.iadd dX12_loadOf_48 ?_
        refine J.istore_n (ls' := [some (.ref 79), some (.int a1), some (.int a2), some (.int (v3 + (jX12_need I v4))), some (.int v4)]) dX12_loadOf_49 rfl rfl rfl ?_
        refine J.iinc (v := (v4 + 1)) (ls' := [some (.ref 79), some (.int a1), some (.int a2), some (.int (v3 + (jX12_need I v4))), some (.int (v4 + 1))]) dX12_loadOf_50 rfl (by rfl) rfl ?_
        refine J.goto (tgt := 5) dX12_loadOf_53 (by decide) ?_
        exact J.weaken (ls' := [some (.ref 79), some (.int a1), some (.int a2), some (.int (v3 + (jX12_need I v4))), some (.int (v4 + 1))]) (And.intro rfl (And.intro rfl (And.intro rfl (And.intro rfl (And.intro rfl trivial))))) (hK5 (v3 + (jX12_need I v4)) (v4 + 1) I h)
set_option maxHeartbeats 4000000 in
set_option maxRecDepth 100000 in
theorem wX12_loadOf (d : Nat) {T : Topo} (hT : Lay T) (a1 : Int32) (a2 : Int32)   {Q : Int32 → Topo → IM → Prop} (V5 : Int32 → Int32 → IM → Prop) (μ5 : Int32 → Int32 → IM → Nat) (vc5 : ∀ (v3 v4 : Int32) (I : IM), V5 v3 v4 I → fX12_loadOf_5 T a1 a2 Q (fun w3 w4 I_ => V5 w3 w4 I_ ∧ μ5 w3 w4 I_ < μ5 v3 v4 I) v3 v4 I) {I : IM} (h : fX12_loadOf_0 T a1 a2 Q V5 I) : Ct (d + 1) mX12_loadOf [.ref 79, .int a1, .int a2] T I 0 0 (PI Q) := by
  have all : ∀ n : Nat, (∀ (v3 v4 : Int32) (I : IM), V5 v3 v4 I → μ5 v3 v4 I < n → J (d + 1) mX12_loadOf (PI Q) 0 0 5 [some (.ref 79), some (.int a1), some (.int a2), some (.int v3), some (.int v4)] [] T I 0 0) := by
    intro n
    induction n with
    | zero => exact fun _ _ _ _ hn => absurd hn (Nat.not_lt_zero _)
    | succ n ih =>
      exact fun v3 v4 I hv hn => sX12_loadOf_5 d hT a1 a2   (fun w3 w4 I_ hw => ih w3 w4 I_ hw.1 (by have := hw.2; omega)) v3 v4 I (vc5 v3 v4 I hv)
  exact Ct.ofJ (by decide +kernel) rfl (by intro v hv; revert v hv; simp [Value.category]) rfl (sX12_loadOf_0 d hT a1 a2   (fun w3 w4 I_ hw => (all (μ5 w3 w4 I_ + 1)) w3 w4 I_ hw (Nat.lt_succ_self _)) I h)

def jX12_loadOfI (a1 : Int32) (a2 : Int32) : Nat → Int32 → Int32 → IM → Int32
  | 0 => fun _ _ I => 0
  | n + 1 => fun v3 v4 I => (if (I 79 2) ≤ v4 then v3 else (if hs a2 v4 then (if hs (I 107 v4.toNatClampNeg) a1 then (jX12_loadOfI a1 a2 n (v3 + (jX12_need I v4)) (v4 + 1) I) else (jX12_loadOfI a1 a2 n (v3 + 0) (v4 + 1) I)) else (jX12_loadOfI a1 a2 n (v3 + 0) (v4 + 1) I)))
def jX12_loadOfO (a1 : Int32) (a2 : Int32) : Nat → Int32 → Int32 → IM → Prop
  | 0 => fun _ _ _ => False
  | n + 1 => fun v3 v4 I => ((((I 79 2) ≤ v4) → True) ∧ ((¬ (I 79 2) ≤ v4) → (((¬ (hs a2 v4)) → (jX12_loadOfO a1 a2 n (v3 + 0) (v4 + 1) I)) ∧ ((hs a2 v4) → (vp_in v4 8 ∧ (((¬ (hs (I 107 v4.toNatClampNeg) a1)) → (jX12_loadOfO a1 a2 n (v3 + 0) (v4 + 1) I)) ∧ ((hs (I 107 v4.toNatClampNeg) a1) → (((jX12_needK I v4)) ∧ (jX12_loadOfO a1 a2 n (v3 + (jX12_need I v4)) (v4 + 1) I)))))))))
theorem jX12_loadOfI_5 (a1 : Int32) (a2 : Int32) (n : Nat) (v3 v4 : Int32) (I : IM) : jX12_loadOfI a1 a2 (n + 1) v3 v4 I = (if (I 79 2) ≤ v4 then v3 else (if hs a2 v4 then (if hs (I 107 v4.toNatClampNeg) a1 then (jX12_loadOfI a1 a2 n (v3 + (jX12_need I v4)) (v4 + 1) I) else (jX12_loadOfI a1 a2 n (v3 + 0) (v4 + 1) I)) else (jX12_loadOfI a1 a2 n (v3 + 0) (v4 + 1) I))) := rfl
theorem jX12_loadOfO_5 (a1 : Int32) (a2 : Int32) (n : Nat) (v3 v4 : Int32) (I : IM) : jX12_loadOfO a1 a2 (n + 1) v3 v4 I = ((((I 79 2) ≤ v4) → True) ∧ ((¬ (I 79 2) ≤ v4) → (((¬ (hs a2 v4)) → (jX12_loadOfO a1 a2 n (v3 + 0) (v4 + 1) I)) ∧ ((hs a2 v4) → (vp_in v4 8 ∧ (((¬ (hs (I 107 v4.toNatClampNeg) a1)) → (jX12_loadOfO a1 a2 n (v3 + 0) (v4 + 1) I)) ∧ ((hs (I 107 v4.toNatClampNeg) a1) → (((jX12_needK I v4)) ∧ (jX12_loadOfO a1 a2 n (v3 + (jX12_need I v4)) (v4 + 1) I))))))))) := rfl
def jX12_loadOf (I : IM) (a1 : Int32) (a2 : Int32) : Int32 := (jX12_loadOfI a1 a2 FU 0 0 I)
def jX12_loadOfK (I : IM) (a1 : Int32) (a2 : Int32) : Prop := (jX12_loadOfO a1 a2 FU 0 0 I)
set_option maxRecDepth 10000 in
set_option maxHeartbeats 1000000 in
theorem uX12_loadOf (d : Nat) {T : Topo} (hT : Lay T) (a1 : Int32) (a2 : Int32)   {R : Int32} {I00 : IM} : ∀ n : Nat, (∀ (v3 v4 : Int32) (I : IM), I = I00 → jX12_loadOfO a1 a2 n v3 v4 I → jX12_loadOfI a1 a2 n v3 v4 I = R → J (d + 1) mX12_loadOf (PI (fun x T' I' => x = R ∧ T' = T ∧ I' = I00)) 0 0 5 [some (.ref 79), some (.int a1), some (.int a2), some (.int v3), some (.int v4)] [] T I 0 0) := by
  intro n
  induction n with
  | zero => exact fun _ _ _ _ hz => hz.elim
  | succ n ih =>
    exact fun v3 v4 I hI hok hit => by
        rw [jX12_loadOfO_5] at hok
        exact sX12_loadOf_5 d hT a1 a2   (K5 := fun w3 w4 I_ => (jX12_loadOfO a1 a2 n w3 w4 I_ ∧ jX12_loadOfI a1 a2 n w3 w4 I_ = R) ∧ I_ = I00) (fun w3 w4 I_ hw => ih w3 w4 I_ hw.2 hw.1.1 hw.1.2) v3 v4 I (by
          unfold fX12_loadOf_5
          exact ⟨fun hc1 => ⟨by rw [jX12_loadOfI_5, if_pos hc1] at hit; exact hit, rfl, hI⟩, fun hc1 => ⟨fun hc2 => ⟨⟨((hok).2 hc1).1 hc2, by rw [jX12_loadOfI_5, if_neg hc1, if_neg hc2] at hit; exact hit⟩, hI⟩, fun hc2 => ⟨(((hok).2 hc1).2 hc2).1, ⟨fun hc3 => ⟨⟨((((hok).2 hc1).2 hc2).2).1 hc3, by rw [jX12_loadOfI_5, if_neg hc1, if_pos hc2, if_neg hc3] at hit; exact hit⟩, hI⟩, fun hc3 => ⟨(((((hok).2 hc1).2 hc2).2).2 hc3).1, ⟨⟨(((((hok).2 hc1).2 hc2).2).2 hc3).2, by rw [jX12_loadOfI_5, if_neg hc1, if_pos hc2, if_pos hc3] at hit; exact hit⟩, hI⟩⟩⟩⟩⟩⟩)
set_option maxRecDepth 10000 in
set_option maxHeartbeats 1000000 in
theorem qX12_loadOf (d : Nat) {T : Topo} {I : IM} (hT : Lay T) (a1 : Int32) (a2 : Int32)  (hp : (jX12_loadOfK I a1 a2)) : CtP (d + 1) mX12_loadOf [.ref 79, .int a1, .int a2] T I (jX12_loadOf I a1 a2) := by
  unfold jX12_loadOfK at hp
  exact Ct.ofJ (by decide +kernel) rfl (by intro v hv; revert v hv; simp [Value.category]) rfl (sX12_loadOf_0 d hT a1 a2   (K5 := fun w3 w4 I_ => (jX12_loadOfO a1 a2 FU w3 w4 I_ ∧ jX12_loadOfI a1 a2 FU w3 w4 I_ = (jX12_loadOf I a1 a2)) ∧ I_ = I) (fun w3 w4 I_ hw => uX12_loadOf d hT a1 a2   FU w3 w4 I_ hw.2 hw.1.1 hw.1.2) I (by
    unfold fX12_loadOf_0
    exact ⟨⟨hp, rfl⟩, rfl⟩))

def fX12_fallOf_0 (T : Topo) (a1 : Int32) (a2 : Int32) (Q : Int32 → Topo → IM → Prop) (K5 : Int32 → Int32 → IM → Prop) (K29 : Int32 → Int32 → Int32 → Int32 → IM → Prop) (I : IM) : Prop :=
  K5 0 0 I
def fX12_fallOf_5 (T : Topo) (a1 : Int32) (a2 : Int32) (Q : Int32 → Topo → IM → Prop) (K5 : Int32 → Int32 → IM → Prop) (K29 : Int32 → Int32 → Int32 → Int32 → IM → Prop) (v3 v4 : Int32) (I : IM) : Prop :=
  ((((I 79 1) ≤ v4) → Q v3 T I) ∧ ((¬ (I 79 1) ≤ v4) → (((¬ v4 = a1) → K29 v3 v4 0 0 I) ∧ ((v4 = a1) → K5 v3 (v4 + 1) I))))
def fX12_fallOf_29 (T : Topo) (a1 : Int32) (a2 : Int32) (Q : Int32 → Topo → IM → Prop) (K5 : Int32 → Int32 → IM → Prop) (K29 : Int32 → Int32 → Int32 → Int32 → IM → Prop) (v3 v4 v5 v6 : Int32) (I : IM) : Prop :=
  ((((I 79 2) ≤ v6) → (((v5 ≤ v3) → K5 v3 (v4 + 1) I) ∧ ((¬ v5 ≤ v3) → K5 v5 (v4 + 1) I))) ∧ ((¬ (I 79 2) ≤ v6) → ((((¬ (hs a2 v6)) → K29 v3 v4 (v5 + 0) (v6 + 1) I) ∧ ((hs a2 v6) → (vp_in v6 8 ∧ (((¬ (I 90 v6.toNatClampNeg) = 1) → K29 v3 v4 (v5 + 0) (v6 + 1) I) ∧ (((I 90 v6.toNatClampNeg) = 1) → (vp_in v6 8 ∧ ((((¬ (hs (I 107 v6.toNatClampNeg) v4)) → K29 v3 v4 (v5 + 0) (v6 + 1) I) ∧ ((hs (I 107 v6.toNatClampNeg) v4) → (vp_in v6 8 ∧ ((((¬ (hs (I 108 v6.toNatClampNeg) a1)) → K29 v3 v4 (v5 + 0) (v6 + 1) I) ∧ ((hs (I 108 v6.toNatClampNeg) a1) → (((jX12_needK I v6)) ∧ K29 v3 v4 (v5 + (jX12_need I v6)) (v6 + 1) I)))))))))))))))))
set_option maxHeartbeats 4000000 in
set_option maxRecDepth 100000 in
theorem sX12_fallOf_0 (d : Nat) {T : Topo} (hT : Lay T) (a1 : Int32) (a2 : Int32)    {Q : Int32 → Topo → IM → Prop} {K5 : Int32 → Int32 → IM → Prop} {K29 : Int32 → Int32 → Int32 → Int32 → IM → Prop} (hK5 : ∀ (v3 v4 : Int32) (I : IM), K5 v3 v4 I → J (d + 1) mX12_fallOf (PI Q) 0 0 5 [some (.ref 79), some (.int a1), some (.int a2), some (.int v3), some (.int v4), none, none] [] T I 0 0) (hK29 : ∀ (v3 v4 v5 v6 : Int32) (I : IM), K29 v3 v4 v5 v6 I → J (d + 1) mX12_fallOf (PI Q) 0 0 29 [some (.ref 79), some (.int a1), some (.int a2), some (.int v3), some (.int v4), some (.int v5), some (.int v6)] [] T I 0 0) (I : IM) (h : fX12_fallOf_0 T a1 a2 Q K5 K29 I) : J (d + 1) mX12_fallOf (PI Q) 0 0 0 [some (.ref 79), some (.int a1), some (.int a2), none, none, none, none] [] T I 0 0 := by
  unfold fX12_fallOf_0 at h
  refine J.iconst (v := 0) dX12_fallOf_0 (by decide) ?_
  refine J.istore_n (ls' := [some (.ref 79), some (.int a1), some (.int a2), some (.int 0), none, none, none]) dX12_fallOf_1 rfl rfl rfl ?_
  refine J.iconst (v := 0) dX12_fallOf_2 (by decide) ?_
  refine J.istore (ls' := [some (.ref 79), some (.int a1), some (.int a2), some (.int 0), some (.int 0), none, none]) dX12_fallOf_3 rfl rfl ?_
  exact J.weaken (ls' := [some (.ref 79), some (.int a1), some (.int a2), some (.int 0), some (.int 0), none, none]) (And.intro rfl (And.intro rfl (And.intro rfl (And.intro rfl (And.intro rfl trivial))))) (hK5 0 0 I h)
set_option maxHeartbeats 4000000 in
set_option maxRecDepth 100000 in
theorem sX12_fallOf_5 (d : Nat) {T : Topo} (hT : Lay T) (a1 : Int32) (a2 : Int32)    {Q : Int32 → Topo → IM → Prop} {K5 : Int32 → Int32 → IM → Prop} {K29 : Int32 → Int32 → Int32 → Int32 → IM → Prop} (hK5 : ∀ (v3 v4 : Int32) (I : IM), K5 v3 v4 I → J (d + 1) mX12_fallOf (PI Q) 0 0 5 [some (.ref 79), some (.int a1), some (.int a2), some (.int v3), some (.int v4), none, none] [] T I 0 0) (hK29 : ∀ (v3 v4 v5 v6 : Int32) (I : IM), K29 v3 v4 v5 v6 I → J (d + 1) mX12_fallOf (PI Q) 0 0 29 [some (.ref 79), some (.int a1), some (.int a2), some (.int v3), some (.int v4), some (.int v5), some (.int v6)] [] T I 0 0) (v3 v4 : Int32) (I : IM) (h : fX12_fallOf_5 T a1 a2 Q K5 K29 v3 v4 I) : J (d + 1) mX12_fallOf (PI Q) 0 0 5 [some (.ref 79), some (.int a1), some (.int a2), some (.int v3), some (.int v4), none, none] [] T I 0 0 := by
  unfold fX12_fallOf_5 at h
  refine J.iload dX12_fallOf_5 rfl ?_
  refine J.aload_n dX12_fallOf_7 rfl rfl ?_
  refine J.getI dX12_fallOf_8 fX12_193 (hT.k 79 rfl) rfl ?_
  refine J.icmp_ge (tgt := 127) dX12_fallOf_11 (by decide) (fun hc1 => ?_) (fun hc1 => ?_)
  · have h := h.1 hc1
    refine J.iload_n dX12_fallOf_127 rfl rfl ?_
    exact J.iretQ dX12_fallOf_128 rfl (Nat.le_refl _) (Nat.le_refl _) h
  · have h := h.2 hc1
    refine J.iload dX12_fallOf_14 rfl ?_
    refine J.iload_n dX12_fallOf_16 rfl rfl ?_
    refine J.icmp_ne (tgt := 23) dX12_fallOf_17 (by decide) (fun hc2 => ?_) (fun hc2 => ?_)
    · have h := h.1 hc2
      refine J.iconst (v := 0) dX12_fallOf_23 (by decide) ?_
      refine J.istore (ls' := [some (.ref 79), some (.int a1), some (.int a2), some (.int v3), some (.int v4), some (.int 0), none]) dX12_fallOf_24 rfl rfl ?_
      refine J.iconst (v := 0) dX12_fallOf_26 (by decide) ?_
      refine J.istore (ls' := [some (.ref 79), some (.int a1), some (.int a2), some (.int v3), some (.int v4), some (.int 0), some (.int 0)]) dX12_fallOf_27 rfl rfl ?_
      exact J.weaken (ls' := [some (.ref 79), some (.int a1), some (.int a2), some (.int v3), some (.int v4), some (.int 0), some (.int 0)]) (And.intro rfl (And.intro rfl (And.intro rfl (And.intro rfl (And.intro rfl (And.intro rfl (And.intro rfl trivial))))))) (hK29 v3 v4 0 0 I h)
    · have h := h.2 hc2
      refine J.goto (tgt := 121) dX12_fallOf_20 (by decide) ?_
      refine J.iinc (v := (v4 + 1)) (ls' := [some (.ref 79), some (.int a1), some (.int a2), some (.int v3), some (.int (v4 + 1)), none, none]) dX12_fallOf_121 rfl (by rfl) rfl ?_
      refine J.goto (tgt := 5) dX12_fallOf_124 (by decide) ?_
      exact J.weaken (ls' := [some (.ref 79), some (.int a1), some (.int a2), some (.int v3), some (.int (v4 + 1)), none, none]) (And.intro rfl (And.intro rfl (And.intro rfl (And.intro rfl (And.intro rfl trivial))))) (hK5 v3 (v4 + 1) I h)
set_option maxHeartbeats 4000000 in
set_option maxRecDepth 100000 in
theorem sX12_fallOf_29 (d : Nat) {T : Topo} (hT : Lay T) (a1 : Int32) (a2 : Int32)    {Q : Int32 → Topo → IM → Prop} {K5 : Int32 → Int32 → IM → Prop} {K29 : Int32 → Int32 → Int32 → Int32 → IM → Prop} (hK5 : ∀ (v3 v4 : Int32) (I : IM), K5 v3 v4 I → J (d + 1) mX12_fallOf (PI Q) 0 0 5 [some (.ref 79), some (.int a1), some (.int a2), some (.int v3), some (.int v4), none, none] [] T I 0 0) (hK29 : ∀ (v3 v4 v5 v6 : Int32) (I : IM), K29 v3 v4 v5 v6 I → J (d + 1) mX12_fallOf (PI Q) 0 0 29 [some (.ref 79), some (.int a1), some (.int a2), some (.int v3), some (.int v4), some (.int v5), some (.int v6)] [] T I 0 0) (v3 v4 v5 v6 : Int32) (I : IM) (h : fX12_fallOf_29 T a1 a2 Q K5 K29 v3 v4 v5 v6 I) : J (d + 1) mX12_fallOf (PI Q) 0 0 29 [some (.ref 79), some (.int a1), some (.int a2), some (.int v3), some (.int v4), some (.int v5), some (.int v6)] [] T I 0 0 := by
  unfold fX12_fallOf_29 at h
  refine J.iload dX12_fallOf_29 rfl ?_
  refine J.aload_n dX12_fallOf_31 rfl rfl ?_
  refine J.getI dX12_fallOf_32 fX12_196 (hT.k 79 rfl) rfl ?_
  refine J.icmp_ge (tgt := 108) dX12_fallOf_35 (by decide) (fun hc1 => ?_) (fun hc1 => ?_)
  · have h := h.1 hc1
    refine J.iload dX12_fallOf_108 rfl ?_
    refine J.iload_n dX12_fallOf_110 rfl rfl ?_
    refine J.icmp_le (tgt := 119) dX12_fallOf_111 (by decide) (fun hc2 => ?_) (fun hc2 => ?_)
    · have h := h.1 hc2
      refine J.iload_n dX12_fallOf_119 rfl rfl ?_
      refine J.istore_n (ls' := [some (.ref 79), some (.int a1), some (.int a2), some (.int v3), some (.int v4), some (.int v5), some (.int v6)]) dX12_fallOf_120 rfl rfl rfl ?_
      refine J.iinc (v := (v4 + 1)) (ls' := [some (.ref 79), some (.int a1), some (.int a2), some (.int v3), some (.int (v4 + 1)), some (.int v5), some (.int v6)]) dX12_fallOf_121 rfl (by rfl) rfl ?_
      refine J.goto (tgt := 5) dX12_fallOf_124 (by decide) ?_
      exact J.weaken (ls' := [some (.ref 79), some (.int a1), some (.int a2), some (.int v3), some (.int (v4 + 1)), none, none]) (And.intro rfl (And.intro rfl (And.intro rfl (And.intro rfl (And.intro rfl trivial))))) (hK5 v3 (v4 + 1) I h)
    · have h := h.2 hc2
      refine J.iload dX12_fallOf_114 rfl ?_
      refine J.goto (tgt := 120) dX12_fallOf_116 (by decide) ?_
      refine J.istore_n (ls' := [some (.ref 79), some (.int a1), some (.int a2), some (.int v5), some (.int v4), some (.int v5), some (.int v6)]) dX12_fallOf_120 rfl rfl rfl ?_
      refine J.iinc (v := (v4 + 1)) (ls' := [some (.ref 79), some (.int a1), some (.int a2), some (.int v5), some (.int (v4 + 1)), some (.int v5), some (.int v6)]) dX12_fallOf_121 rfl (by rfl) rfl ?_
      refine J.goto (tgt := 5) dX12_fallOf_124 (by decide) ?_
      exact J.weaken (ls' := [some (.ref 79), some (.int a1), some (.int a2), some (.int v5), some (.int (v4 + 1)), none, none]) (And.intro rfl (And.intro rfl (And.intro rfl (And.intro rfl (And.intro rfl trivial))))) (hK5 v5 (v4 + 1) I h)
  · have h := h.2 hc1
    refine J.iload dX12_fallOf_38 rfl ?_
    refine J.iload_n dX12_fallOf_40 rfl rfl ?_
    refine J.iload dX12_fallOf_41 rfl ?_
    refine J.callSP (as := [.int a2, .int v6]) (rest := [.int v5]) dX12_fallOf_43 kX12_has vX12_has lX12_212 rfl rfl rfl (by omega) (Nat.le_refl _) (Nat.le_refl _) (qX12_has (d + 0) hT a2 v6 ) ?_
    refine J.bz_eq (tgt := 98) dX12_fallOf_46 (by decide) (fun hc3 => ?_) (fun hc3 => ?_)
    · have h := h.1 hc3
      refine J.iconst (v := 0) dX12_fallOf_98 (by decide) ?_
      refine J.iadd dX12_fallOf_99 ?_
      refine J.istore (ls' := [some (.ref 79), some (.int a1), some (.int a2), some (.int v3), some (.int v4), some (.int (v5 + 0)), some (.int v6)]) dX12_fallOf_100 rfl rfl ?_
      refine J.iinc (v := (v6 + 1)) (ls' := [some (.ref 79), some (.int a1), some (.int a2), some (.int v3), some (.int v4), some (.int (v5 + 0)), some (.int (v6 + 1))]) dX12_fallOf_102 rfl (by rfl) rfl ?_
      refine J.goto (tgt := 29) dX12_fallOf_105 (by decide) ?_
      exact J.weaken (ls' := [some (.ref 79), some (.int a1), some (.int a2), some (.int v3), some (.int v4), some (.int (v5 + 0)), some (.int (v6 + 1))]) (And.intro rfl (And.intro rfl (And.intro rfl (And.intro rfl (And.intro rfl (And.intro rfl (And.intro rfl trivial))))))) (hK29 v3 v4 (v5 + 0) (v6 + 1) I h)
    · have h := h.2 hc3
      refine J.aload_n dX12_fallOf_49 rfl rfl ?_
      refine J.getR (r := 90) dX12_fallOf_50 fX12_45 (hT.k 79 rfl) rfl (hT.r 79 19 rfl rfl) ?_
      refine J.iload dX12_fallOf_53 rfl ?_
      obtain ⟨hs4, h⟩ := h
      refine J.iald dX12_fallOf_55 (hT.k 90 rfl) (hT.l 90 rfl) hs4 ?_
      refine J.iconst (v := 1) dX12_fallOf_56 (by decide) ?_
      refine J.icmp_ne (tgt := 98) dX12_fallOf_57 (by decide) (fun hc5 => ?_) (fun hc5 => ?_)
      · have h := h.1 hc5
        refine J.iconst (v := 0) dX12_fallOf_98 (by decide) ?_
        refine J.iadd dX12_fallOf_99 ?_
        refine J.istore (ls' := [some (.ref 79), some (.int a1), some (.int a2), some (.int v3), some (.int v4), some (.int (v5 + 0)), some (.int v6)]) dX12_fallOf_100 rfl rfl ?_
        refine J.iinc (v := (v6 + 1)) (ls' := [some (.ref 79), some (.int a1), some (.int a2), some (.int v3), some (.int v4), some (.int (v5 + 0)), some (.int (v6 + 1))]) dX12_fallOf_102 rfl (by rfl) rfl ?_
        refine J.goto (tgt := 29) dX12_fallOf_105 (by decide) ?_
        exact J.weaken (ls' := [some (.ref 79), some (.int a1), some (.int a2), some (.int v3), some (.int v4), some (.int (v5 + 0)), some (.int (v6 + 1))]) (And.intro rfl (And.intro rfl (And.intro rfl (And.intro rfl (And.intro rfl (And.intro rfl (And.intro rfl trivial))))))) (hK29 v3 v4 (v5 + 0) (v6 + 1) I h)
      · have h := h.2 hc5
        refine J.aload_n dX12_fallOf_60 rfl rfl ?_
        refine J.getR (r := 107) dX12_fallOf_61 fX12_96 (hT.k 79 rfl) rfl (hT.r 79 36 rfl rfl) ?_
        refine J.iload dX12_fallOf_64 rfl ?_
        obtain ⟨hs6, h⟩ := h
        refine J.iald dX12_fallOf_66 (hT.k 107 rfl) (hT.l 107 rfl) hs6 ?_
        refine J.iload dX12_fallOf_67 rfl ?_
        refine J.callSP (as := [.int (I 107 v6.toNatClampNeg), .int v4]) (rest := [.int v5]) dX12_fallOf_69 kX12_has vX12_has lX12_212 rfl rfl rfl (by omega) (Nat.le_refl _) (Nat.le_refl _) (qX12_has (d + 0) hT (I 107 v6.toNatClampNeg) v4 ) ?_
        refine J.bz_eq (tgt := 98) dX12_fallOf_72 (by decide) (fun hc7 => ?_) (fun hc7 => ?_)
        · have h := h.1 hc7
          refine J.iconst (v := 0) dX12_fallOf_98 (by decide) ?_
          refine J.iadd dX12_fallOf_99 ?_
          refine J.istore (ls' := [some (.ref 79), some (.int a1), some (.int a2), some (.int v3), some (.int v4), some (.int (v5 + 0)), some (.int v6)]) dX12_fallOf_100 rfl rfl ?_
          refine J.iinc (v := (v6 + 1)) (ls' := [some (.ref 79), some (.int a1), some (.int a2), some (.int v3), some (.int v4), some (.int (v5 + 0)), some (.int (v6 + 1))]) dX12_fallOf_102 rfl (by rfl) rfl ?_
          refine J.goto (tgt := 29) dX12_fallOf_105 (by decide) ?_
          exact J.weaken (ls' := [some (.ref 79), some (.int a1), some (.int a2), some (.int v3), some (.int v4), some (.int (v5 + 0)), some (.int (v6 + 1))]) (And.intro rfl (And.intro rfl (And.intro rfl (And.intro rfl (And.intro rfl (And.intro rfl (And.intro rfl trivial))))))) (hK29 v3 v4 (v5 + 0) (v6 + 1) I h)
        · have h := h.2 hc7
          refine J.aload_n dX12_fallOf_75 rfl rfl ?_
          refine J.getR (r := 108) dX12_fallOf_76 fX12_99 (hT.k 79 rfl) rfl (hT.r 79 37 rfl rfl) ?_
          refine J.iload dX12_fallOf_79 rfl ?_
          obtain ⟨hs8, h⟩ := h
          refine J.iald dX12_fallOf_81 (hT.k 108 rfl) (hT.l 108 rfl) hs8 ?_
          refine J.iload_n dX12_fallOf_82 rfl rfl ?_
          refine J.callSP (as := [.int (I 108 v6.toNatClampNeg), .int a1]) (rest := [.int v5]) dX12_fallOf_83 kX12_has vX12_has lX12_212 rfl rfl rfl (by omega) (Nat.le_refl _) (Nat.le_refl _) (qX12_has (d + 0) hT (I 108 v6.toNatClampNeg) a1 ) ?_
          refine J.bz_eq (tgt := 98) dX12_fallOf_86 (by decide) (fun hc9 => ?_) (fun hc9 => ?_)
          · have h := h.1 hc9
            refine J.iconst (v := 0) dX12_fallOf_98 (by decide) ?_
            refine J.iadd dX12_fallOf_99 ?_
            refine J.istore (ls' := [some (.ref 79), some (.int a1), some (.int a2), some (.int v3), some (.int v4), some (.int (v5 + 0)), some (.int v6)]) dX12_fallOf_100 rfl rfl ?_
            refine J.iinc (v := (v6 + 1)) (ls' := [some (.ref 79), some (.int a1), some (.int a2), some (.int v3), some (.int v4), some (.int (v5 + 0)), some (.int (v6 + 1))]) dX12_fallOf_102 rfl (by rfl) rfl ?_
            refine J.goto (tgt := 29) dX12_fallOf_105 (by decide) ?_
            exact J.weaken (ls' := [some (.ref 79), some (.int a1), some (.int a2), some (.int v3), some (.int v4), some (.int (v5 + 0)), some (.int (v6 + 1))]) (And.intro rfl (And.intro rfl (And.intro rfl (And.intro rfl (And.intro rfl (And.intro rfl (And.intro rfl trivial))))))) (hK29 v3 v4 (v5 + 0) (v6 + 1) I h)
          · have h := h.2 hc9
            refine J.aload_n dX12_fallOf_89 rfl rfl ?_
            refine J.iload dX12_fallOf_90 rfl ?_
            obtain ⟨hp10, h⟩ := h
            refine J.callVP (k := 79) (as := [.int v6]) (rest := [.int v5]) dX12_fallOf_92 kX12_need vX12_need lX12_243 (hT.k 79 rfl) rfl rfl rfl rfl rfl (by omega) (Nat.le_refl _) (Nat.le_refl _) (qX12_need (d + 0) hT v6 hp10) ?_
            refine J.goto (tgt := 99) dX12_fallOf_95 (by decide) ?_
            refine J.iadd dX12_fallOf_99 ?_
            refine J.istore (ls' := [some (.ref 79), some (.int a1), some (.int a2), some (.int v3), some (.int v4), some (.int (v5 + (jX12_need I v6))), some (.int v6)]) dX12_fallOf_100 rfl rfl ?_
            refine J.iinc (v := (v6 + 1)) (ls' := [some (.ref 79), some (.int a1), some (.int a2), some (.int v3), some (.int v4), some (.int (v5 + (jX12_need I v6))), some (.int (v6 + 1))]) dX12_fallOf_102 rfl (by rfl) rfl ?_
            refine J.goto (tgt := 29) dX12_fallOf_105 (by decide) ?_
            exact J.weaken (ls' := [some (.ref 79), some (.int a1), some (.int a2), some (.int v3), some (.int v4), some (.int (v5 + (jX12_need I v6))), some (.int (v6 + 1))]) (And.intro rfl (And.intro rfl (And.intro rfl (And.intro rfl (And.intro rfl (And.intro rfl (And.intro rfl trivial))))))) (hK29 v3 v4 (v5 + (jX12_need I v6)) (v6 + 1) I h)
set_option maxHeartbeats 4000000 in
set_option maxRecDepth 100000 in
theorem wX12_fallOf (d : Nat) {T : Topo} (hT : Lay T) (a1 : Int32) (a2 : Int32)   {Q : Int32 → Topo → IM → Prop} (V5 : Int32 → Int32 → IM → Prop) (μ5 : Int32 → Int32 → IM → Nat) (V29 : Int32 → Int32 → Int32 → Int32 → IM → Prop) (μ29 : Int32 → Int32 → Int32 → Int32 → IM → Nat) (vc5 : ∀ (v3 v4 : Int32) (I : IM), V5 v3 v4 I → fX12_fallOf_5 T a1 a2 Q (fun w3 w4 I_ => V5 w3 w4 I_ ∧ μ5 w3 w4 I_ < μ5 v3 v4 I) (fun w3 w4 w5 w6 I_ => V29 w3 w4 w5 w6 I_ ∧ μ29 w3 w4 w5 w6 I_ < μ5 v3 v4 I) v3 v4 I) (vc29 : ∀ (v3 v4 v5 v6 : Int32) (I : IM), V29 v3 v4 v5 v6 I → fX12_fallOf_29 T a1 a2 Q (fun w3 w4 I_ => V5 w3 w4 I_ ∧ μ5 w3 w4 I_ < μ29 v3 v4 v5 v6 I) (fun w3 w4 w5 w6 I_ => V29 w3 w4 w5 w6 I_ ∧ μ29 w3 w4 w5 w6 I_ < μ29 v3 v4 v5 v6 I) v3 v4 v5 v6 I) {I : IM} (h : fX12_fallOf_0 T a1 a2 Q V5 V29 I) : Ct (d + 1) mX12_fallOf [.ref 79, .int a1, .int a2] T I 0 0 (PI Q) := by
  have all : ∀ n : Nat, (∀ (v3 v4 : Int32) (I : IM), V5 v3 v4 I → μ5 v3 v4 I < n → J (d + 1) mX12_fallOf (PI Q) 0 0 5 [some (.ref 79), some (.int a1), some (.int a2), some (.int v3), some (.int v4), none, none] [] T I 0 0) ∧ (∀ (v3 v4 v5 v6 : Int32) (I : IM), V29 v3 v4 v5 v6 I → μ29 v3 v4 v5 v6 I < n → J (d + 1) mX12_fallOf (PI Q) 0 0 29 [some (.ref 79), some (.int a1), some (.int a2), some (.int v3), some (.int v4), some (.int v5), some (.int v6)] [] T I 0 0) := by
    intro n
    induction n with
    | zero => exact ⟨fun _ _ _ _ hn => absurd hn (Nat.not_lt_zero _), fun _ _ _ _ _ _ hn => absurd hn (Nat.not_lt_zero _)⟩
    | succ n ih =>
      exact ⟨fun v3 v4 I hv hn => sX12_fallOf_5 d hT a1 a2   (fun w3 w4 I_ hw => ih.1 w3 w4 I_ hw.1 (by have := hw.2; omega)) (fun w3 w4 w5 w6 I_ hw => ih.2 w3 w4 w5 w6 I_ hw.1 (by have := hw.2; omega)) v3 v4 I (vc5 v3 v4 I hv), fun v3 v4 v5 v6 I hv hn => sX12_fallOf_29 d hT a1 a2   (fun w3 w4 I_ hw => ih.1 w3 w4 I_ hw.1 (by have := hw.2; omega)) (fun w3 w4 w5 w6 I_ hw => ih.2 w3 w4 w5 w6 I_ hw.1 (by have := hw.2; omega)) v3 v4 v5 v6 I (vc29 v3 v4 v5 v6 I hv)⟩
  exact Ct.ofJ (by decide +kernel) rfl (by intro v hv; revert v hv; simp [Value.category]) rfl (sX12_fallOf_0 d hT a1 a2   (fun w3 w4 I_ hw => (all (μ5 w3 w4 I_ + 1)).1 w3 w4 I_ hw (Nat.lt_succ_self _)) (fun w3 w4 w5 w6 I_ hw => (all (μ29 w3 w4 w5 w6 I_ + 1)).2 w3 w4 w5 w6 I_ hw (Nat.lt_succ_self _)) I h)

def jX12_fallOfB5 (a1 : Int32) (a2 : Int32) (F : (Nat → Int32 → Int32 → Int32 → Int32 → IM → Int32)) (v3 v4 v5 v6 : Int32) (I : IM) : Int32 := (if (I 79 1) ≤ v4 then v3 else (if v4 = a1 then (F 0 v3 (v4 + 1) 0 0 I) else (F 1 v3 v4 0 0 I)))
def jX12_fallOfC5 (a1 : Int32) (a2 : Int32) (F : (Nat → Int32 → Int32 → Int32 → Int32 → IM → Prop)) (v3 v4 v5 v6 : Int32) (I : IM) : Prop := ((((I 79 1) ≤ v4) → True) ∧ ((¬ (I 79 1) ≤ v4) → (((¬ v4 = a1) → (F 1 v3 v4 0 0 I)) ∧ ((v4 = a1) → (F 0 v3 (v4 + 1) 0 0 I)))))
def jX12_fallOfB29 (a1 : Int32) (a2 : Int32) (F : (Nat → Int32 → Int32 → Int32 → Int32 → IM → Int32)) (v3 v4 v5 v6 : Int32) (I : IM) : Int32 := (if (I 79 2) ≤ v6 then (if v5 ≤ v3 then (F 0 v3 (v4 + 1) 0 0 I) else (F 0 v5 (v4 + 1) 0 0 I)) else (if hs a2 v6 then (if (I 90 v6.toNatClampNeg) = 1 then (if hs (I 107 v6.toNatClampNeg) v4 then (if hs (I 108 v6.toNatClampNeg) a1 then (F 1 v3 v4 (v5 + (jX12_need I v6)) (v6 + 1) I) else (F 1 v3 v4 (v5 + 0) (v6 + 1) I)) else (F 1 v3 v4 (v5 + 0) (v6 + 1) I)) else (F 1 v3 v4 (v5 + 0) (v6 + 1) I)) else (F 1 v3 v4 (v5 + 0) (v6 + 1) I)))
def jX12_fallOfC29 (a1 : Int32) (a2 : Int32) (F : (Nat → Int32 → Int32 → Int32 → Int32 → IM → Prop)) (v3 v4 v5 v6 : Int32) (I : IM) : Prop := ((((I 79 2) ≤ v6) → (((v5 ≤ v3) → (F 0 v3 (v4 + 1) 0 0 I)) ∧ ((¬ v5 ≤ v3) → (F 0 v5 (v4 + 1) 0 0 I)))) ∧ ((¬ (I 79 2) ≤ v6) → (((¬ (hs a2 v6)) → (F 1 v3 v4 (v5 + 0) (v6 + 1) I)) ∧ ((hs a2 v6) → (vp_in v6 8 ∧ (((¬ (I 90 v6.toNatClampNeg) = 1) → (F 1 v3 v4 (v5 + 0) (v6 + 1) I)) ∧ (((I 90 v6.toNatClampNeg) = 1) → (vp_in v6 8 ∧ (((¬ (hs (I 107 v6.toNatClampNeg) v4)) → (F 1 v3 v4 (v5 + 0) (v6 + 1) I)) ∧ ((hs (I 107 v6.toNatClampNeg) v4) → (vp_in v6 8 ∧ (((¬ (hs (I 108 v6.toNatClampNeg) a1)) → (F 1 v3 v4 (v5 + 0) (v6 + 1) I)) ∧ ((hs (I 108 v6.toNatClampNeg) a1) → (((jX12_needK I v6)) ∧ (F 1 v3 v4 (v5 + (jX12_need I v6)) (v6 + 1) I)))))))))))))))
def jX12_fallOfI (a1 : Int32) (a2 : Int32) : Nat → Nat → Int32 → Int32 → Int32 → Int32 → IM → Int32
  | 0 => fun _ _ _ _ _ I => 0
  | n + 1 => fun tg v3 v4 v5 v6 I => (if tg = 0 then jX12_fallOfB5 a1 a2 (jX12_fallOfI a1 a2 n) v3 v4 v5 v6 I else (if tg = 1 then jX12_fallOfB29 a1 a2 (jX12_fallOfI a1 a2 n) v3 v4 v5 v6 I else 0))
def jX12_fallOfO (a1 : Int32) (a2 : Int32) : Nat → Nat → Int32 → Int32 → Int32 → Int32 → IM → Prop
  | 0 => fun _ _ _ _ _ _ => False
  | n + 1 => fun tg v3 v4 v5 v6 I => (if tg = 0 then jX12_fallOfC5 a1 a2 (jX12_fallOfO a1 a2 n) v3 v4 v5 v6 I else (if tg = 1 then jX12_fallOfC29 a1 a2 (jX12_fallOfO a1 a2 n) v3 v4 v5 v6 I else True))
theorem jX12_fallOfI_5 (a1 : Int32) (a2 : Int32) (n : Nat) (v3 v4 v5 v6 : Int32) (I : IM) : jX12_fallOfI a1 a2 (n + 1) 0 v3 v4 v5 v6 I = (if (I 79 1) ≤ v4 then v3 else (if v4 = a1 then (jX12_fallOfI a1 a2 n 0 v3 (v4 + 1) 0 0 I) else (jX12_fallOfI a1 a2 n 1 v3 v4 0 0 I))) := by
  show (if (0 : Nat) = 0 then jX12_fallOfB5 a1 a2 (jX12_fallOfI a1 a2 n) v3 v4 v5 v6 I else (if (0 : Nat) = 1 then jX12_fallOfB29 a1 a2 (jX12_fallOfI a1 a2 n) v3 v4 v5 v6 I else 0)) = _
  rw [if_pos rfl]; rfl
theorem jX12_fallOfO_5 (a1 : Int32) (a2 : Int32) (n : Nat) (v3 v4 v5 v6 : Int32) (I : IM) : jX12_fallOfO a1 a2 (n + 1) 0 v3 v4 v5 v6 I = ((((I 79 1) ≤ v4) → True) ∧ ((¬ (I 79 1) ≤ v4) → (((¬ v4 = a1) → (jX12_fallOfO a1 a2 n 1 v3 v4 0 0 I)) ∧ ((v4 = a1) → (jX12_fallOfO a1 a2 n 0 v3 (v4 + 1) 0 0 I))))) := by
  show (if (0 : Nat) = 0 then jX12_fallOfC5 a1 a2 (jX12_fallOfO a1 a2 n) v3 v4 v5 v6 I else (if (0 : Nat) = 1 then jX12_fallOfC29 a1 a2 (jX12_fallOfO a1 a2 n) v3 v4 v5 v6 I else True)) = _
  rw [if_pos rfl]; rfl
theorem jX12_fallOfI_29 (a1 : Int32) (a2 : Int32) (n : Nat) (v3 v4 v5 v6 : Int32) (I : IM) : jX12_fallOfI a1 a2 (n + 1) 1 v3 v4 v5 v6 I = (if (I 79 2) ≤ v6 then (if v5 ≤ v3 then (jX12_fallOfI a1 a2 n 0 v3 (v4 + 1) 0 0 I) else (jX12_fallOfI a1 a2 n 0 v5 (v4 + 1) 0 0 I)) else (if hs a2 v6 then (if (I 90 v6.toNatClampNeg) = 1 then (if hs (I 107 v6.toNatClampNeg) v4 then (if hs (I 108 v6.toNatClampNeg) a1 then (jX12_fallOfI a1 a2 n 1 v3 v4 (v5 + (jX12_need I v6)) (v6 + 1) I) else (jX12_fallOfI a1 a2 n 1 v3 v4 (v5 + 0) (v6 + 1) I)) else (jX12_fallOfI a1 a2 n 1 v3 v4 (v5 + 0) (v6 + 1) I)) else (jX12_fallOfI a1 a2 n 1 v3 v4 (v5 + 0) (v6 + 1) I)) else (jX12_fallOfI a1 a2 n 1 v3 v4 (v5 + 0) (v6 + 1) I))) := by
  show (if (1 : Nat) = 0 then jX12_fallOfB5 a1 a2 (jX12_fallOfI a1 a2 n) v3 v4 v5 v6 I else (if (1 : Nat) = 1 then jX12_fallOfB29 a1 a2 (jX12_fallOfI a1 a2 n) v3 v4 v5 v6 I else 0)) = _
  rw [if_neg (by decide), if_pos rfl]; rfl
theorem jX12_fallOfO_29 (a1 : Int32) (a2 : Int32) (n : Nat) (v3 v4 v5 v6 : Int32) (I : IM) : jX12_fallOfO a1 a2 (n + 1) 1 v3 v4 v5 v6 I = ((((I 79 2) ≤ v6) → (((v5 ≤ v3) → (jX12_fallOfO a1 a2 n 0 v3 (v4 + 1) 0 0 I)) ∧ ((¬ v5 ≤ v3) → (jX12_fallOfO a1 a2 n 0 v5 (v4 + 1) 0 0 I)))) ∧ ((¬ (I 79 2) ≤ v6) → (((¬ (hs a2 v6)) → (jX12_fallOfO a1 a2 n 1 v3 v4 (v5 + 0) (v6 + 1) I)) ∧ ((hs a2 v6) → (vp_in v6 8 ∧ (((¬ (I 90 v6.toNatClampNeg) = 1) → (jX12_fallOfO a1 a2 n 1 v3 v4 (v5 + 0) (v6 + 1) I)) ∧ (((I 90 v6.toNatClampNeg) = 1) → (vp_in v6 8 ∧ (((¬ (hs (I 107 v6.toNatClampNeg) v4)) → (jX12_fallOfO a1 a2 n 1 v3 v4 (v5 + 0) (v6 + 1) I)) ∧ ((hs (I 107 v6.toNatClampNeg) v4) → (vp_in v6 8 ∧ (((¬ (hs (I 108 v6.toNatClampNeg) a1)) → (jX12_fallOfO a1 a2 n 1 v3 v4 (v5 + 0) (v6 + 1) I)) ∧ ((hs (I 108 v6.toNatClampNeg) a1) → (((jX12_needK I v6)) ∧ (jX12_fallOfO a1 a2 n 1 v3 v4 (v5 + (jX12_need I v6)) (v6 + 1) I))))))))))))))) := by
  show (if (1 : Nat) = 0 then jX12_fallOfC5 a1 a2 (jX12_fallOfO a1 a2 n) v3 v4 v5 v6 I else (if (1 : Nat) = 1 then jX12_fallOfC29 a1 a2 (jX12_fallOfO a1 a2 n) v3 v4 v5 v6 I else True)) = _
  rw [if_neg (by decide), if_pos rfl]; rfl
def jX12_fallOf (I : IM) (a1 : Int32) (a2 : Int32) : Int32 := (jX12_fallOfI a1 a2 FU 0 0 0 0 0 I)
def jX12_fallOfK (I : IM) (a1 : Int32) (a2 : Int32) : Prop := (jX12_fallOfO a1 a2 FU 0 0 0 0 0 I)
set_option maxRecDepth 10000 in
set_option maxHeartbeats 1000000 in
theorem uX12_fallOf (d : Nat) {T : Topo} (hT : Lay T) (a1 : Int32) (a2 : Int32)   {R : Int32} {I00 : IM} : ∀ n : Nat, (∀ (v3 v4 : Int32) (I : IM), I = I00 → jX12_fallOfO a1 a2 n 0 v3 v4 0 0 I → jX12_fallOfI a1 a2 n 0 v3 v4 0 0 I = R → J (d + 1) mX12_fallOf (PI (fun x T' I' => x = R ∧ T' = T ∧ I' = I00)) 0 0 5 [some (.ref 79), some (.int a1), some (.int a2), some (.int v3), some (.int v4), none, none] [] T I 0 0) ∧ (∀ (v3 v4 v5 v6 : Int32) (I : IM), I = I00 → jX12_fallOfO a1 a2 n 1 v3 v4 v5 v6 I → jX12_fallOfI a1 a2 n 1 v3 v4 v5 v6 I = R → J (d + 1) mX12_fallOf (PI (fun x T' I' => x = R ∧ T' = T ∧ I' = I00)) 0 0 29 [some (.ref 79), some (.int a1), some (.int a2), some (.int v3), some (.int v4), some (.int v5), some (.int v6)] [] T I 0 0) := by
  intro n
  induction n with
  | zero => exact ⟨fun _ _ _ _ hz => hz.elim, fun _ _ _ _ _ _ hz => hz.elim⟩
  | succ n ih =>
    refine ⟨?_, ?_⟩
    · exact fun v3 v4 I hI hok hit => by
        rw [jX12_fallOfO_5] at hok
        exact sX12_fallOf_5 d hT a1 a2   (K5 := fun w3 w4 I_ => (jX12_fallOfO a1 a2 n 0 w3 w4 0 0 I_ ∧ jX12_fallOfI a1 a2 n 0 w3 w4 0 0 I_ = R) ∧ I_ = I00) (K29 := fun w3 w4 w5 w6 I_ => (jX12_fallOfO a1 a2 n 1 w3 w4 w5 w6 I_ ∧ jX12_fallOfI a1 a2 n 1 w3 w4 w5 w6 I_ = R) ∧ I_ = I00) (fun w3 w4 I_ hw => ih.1 w3 w4 I_ hw.2 hw.1.1 hw.1.2) (fun w3 w4 w5 w6 I_ hw => ih.2 w3 w4 w5 w6 I_ hw.2 hw.1.1 hw.1.2) v3 v4 I (by
          unfold fX12_fallOf_5
          exact ⟨fun hc1 => ⟨by rw [jX12_fallOfI_5, if_pos hc1] at hit; exact hit, rfl, hI⟩, fun hc1 => ⟨fun hc2 => ⟨⟨((hok).2 hc1).1 hc2, by rw [jX12_fallOfI_5, if_neg hc1, if_neg hc2] at hit; exact hit⟩, hI⟩, fun hc2 => ⟨⟨((hok).2 hc1).2 hc2, by rw [jX12_fallOfI_5, if_neg hc1, if_pos hc2] at hit; exact hit⟩, hI⟩⟩⟩)
    · exact fun v3 v4 v5 v6 I hI hok hit => by
        rw [jX12_fallOfO_29] at hok
        exact sX12_fallOf_29 d hT a1 a2   (K5 := fun w3 w4 I_ => (jX12_fallOfO a1 a2 n 0 w3 w4 0 0 I_ ∧ jX12_fallOfI a1 a2 n 0 w3 w4 0 0 I_ = R) ∧ I_ = I00) (K29 := fun w3 w4 w5 w6 I_ => (jX12_fallOfO a1 a2 n 1 w3 w4 w5 w6 I_ ∧ jX12_fallOfI a1 a2 n 1 w3 w4 w5 w6 I_ = R) ∧ I_ = I00) (fun w3 w4 I_ hw => ih.1 w3 w4 I_ hw.2 hw.1.1 hw.1.2) (fun w3 w4 w5 w6 I_ hw => ih.2 w3 w4 w5 w6 I_ hw.2 hw.1.1 hw.1.2) v3 v4 v5 v6 I (by
          unfold fX12_fallOf_29
          exact ⟨fun hc1 => ⟨fun hc2 => ⟨⟨((hok).1 hc1).1 hc2, by rw [jX12_fallOfI_29, if_pos hc1, if_pos hc2] at hit; exact hit⟩, hI⟩, fun hc2 => ⟨⟨((hok).1 hc1).2 hc2, by rw [jX12_fallOfI_29, if_pos hc1, if_neg hc2] at hit; exact hit⟩, hI⟩⟩, fun hc1 => ⟨fun hc3 => ⟨⟨((hok).2 hc1).1 hc3, by rw [jX12_fallOfI_29, if_neg hc1, if_neg hc3] at hit; exact hit⟩, hI⟩, fun hc3 => ⟨(((hok).2 hc1).2 hc3).1, ⟨fun hc4 => ⟨⟨((((hok).2 hc1).2 hc3).2).1 hc4, by rw [jX12_fallOfI_29, if_neg hc1, if_pos hc3, if_neg hc4] at hit; exact hit⟩, hI⟩, fun hc4 => ⟨(((((hok).2 hc1).2 hc3).2).2 hc4).1, ⟨fun hc5 => ⟨⟨((((((hok).2 hc1).2 hc3).2).2 hc4).2).1 hc5, by rw [jX12_fallOfI_29, if_neg hc1, if_pos hc3, if_pos hc4, if_neg hc5] at hit; exact hit⟩, hI⟩, fun hc5 => ⟨(((((((hok).2 hc1).2 hc3).2).2 hc4).2).2 hc5).1, ⟨fun hc6 => ⟨⟨((((((((hok).2 hc1).2 hc3).2).2 hc4).2).2 hc5).2).1 hc6, by rw [jX12_fallOfI_29, if_neg hc1, if_pos hc3, if_pos hc4, if_pos hc5, if_neg hc6] at hit; exact hit⟩, hI⟩, fun hc6 => ⟨(((((((((hok).2 hc1).2 hc3).2).2 hc4).2).2 hc5).2).2 hc6).1, ⟨⟨(((((((((hok).2 hc1).2 hc3).2).2 hc4).2).2 hc5).2).2 hc6).2, by rw [jX12_fallOfI_29, if_neg hc1, if_pos hc3, if_pos hc4, if_pos hc5, if_pos hc6] at hit; exact hit⟩, hI⟩⟩⟩⟩⟩⟩⟩⟩⟩⟩)
set_option maxRecDepth 10000 in
set_option maxHeartbeats 1000000 in
theorem qX12_fallOf (d : Nat) {T : Topo} {I : IM} (hT : Lay T) (a1 : Int32) (a2 : Int32)  (hp : (jX12_fallOfK I a1 a2)) : CtP (d + 1) mX12_fallOf [.ref 79, .int a1, .int a2] T I (jX12_fallOf I a1 a2) := by
  unfold jX12_fallOfK at hp
  exact Ct.ofJ (by decide +kernel) rfl (by intro v hv; revert v hv; simp [Value.category]) rfl (sX12_fallOf_0 d hT a1 a2   (K5 := fun w3 w4 I_ => (jX12_fallOfO a1 a2 FU 0 w3 w4 0 0 I_ ∧ jX12_fallOfI a1 a2 FU 0 w3 w4 0 0 I_ = (jX12_fallOf I a1 a2)) ∧ I_ = I) (K29 := fun w3 w4 w5 w6 I_ => (jX12_fallOfO a1 a2 FU 1 w3 w4 w5 w6 I_ ∧ jX12_fallOfI a1 a2 FU 1 w3 w4 w5 w6 I_ = (jX12_fallOf I a1 a2)) ∧ I_ = I) (fun w3 w4 I_ hw => (uX12_fallOf d hT a1 a2   FU).1 w3 w4 I_ hw.2 hw.1.1 hw.1.2) (fun w3 w4 w5 w6 I_ hw => (uX12_fallOf d hT a1 a2   FU).2 w3 w4 w5 w6 I_ hw.2 hw.1.1 hw.1.2) I (by
    unfold fX12_fallOf_0
    exact ⟨⟨hp, rfl⟩, rfl⟩))

def fX12_workOf_0 (T : Topo) (a1 : Int32) (a2 : Int32) (Q : Int32 → Topo → IM → Prop) (K5 : Int32 → Int32 → IM → Prop) (I : IM) : Prop :=
  K5 0 0 I
def fX12_workOf_5 (T : Topo) (a1 : Int32) (a2 : Int32) (Q : Int32 → Topo → IM → Prop) (K5 : Int32 → Int32 → IM → Prop) (v3 v4 : Int32) (I : IM) : Prop :=
  ((((I 79 2) ≤ v4) → Q v3 T I) ∧ ((¬ (I 79 2) ≤ v4) → ((((¬ (hs a2 v4)) → K5 (v3 + 0) (v4 + 1) I) ∧ ((hs a2 v4) → (vp_in v4 8 ∧ (((¬ (I 111 v4.toNatClampNeg) = a1) → K5 (v3 + 0) (v4 + 1) I) ∧ (((I 111 v4.toNatClampNeg) = a1) → (vp_in v4 8 ∧ K5 (v3 + (I 96 v4.toNatClampNeg)) (v4 + 1) I)))))))))
set_option maxHeartbeats 4000000 in
set_option maxRecDepth 100000 in
theorem sX12_workOf_0 (d : Nat) {T : Topo} (hT : Lay T) (a1 : Int32) (a2 : Int32)    {Q : Int32 → Topo → IM → Prop} {K5 : Int32 → Int32 → IM → Prop} (hK5 : ∀ (v3 v4 : Int32) (I : IM), K5 v3 v4 I → J (d + 1) mX12_workOf (PI Q) 0 0 5 [some (.ref 79), some (.int a1), some (.int a2), some (.int v3), some (.int v4)] [] T I 0 0) (I : IM) (h : fX12_workOf_0 T a1 a2 Q K5 I) : J (d + 1) mX12_workOf (PI Q) 0 0 0 [some (.ref 79), some (.int a1), some (.int a2), none, none] [] T I 0 0 := by
  unfold fX12_workOf_0 at h
  refine J.iconst (v := 0) dX12_workOf_0 (by decide) ?_
  refine J.istore_n (ls' := [some (.ref 79), some (.int a1), some (.int a2), some (.int 0), none]) dX12_workOf_1 rfl rfl rfl ?_
  refine J.iconst (v := 0) dX12_workOf_2 (by decide) ?_
  refine J.istore (ls' := [some (.ref 79), some (.int a1), some (.int a2), some (.int 0), some (.int 0)]) dX12_workOf_3 rfl rfl ?_
  exact J.weaken (ls' := [some (.ref 79), some (.int a1), some (.int a2), some (.int 0), some (.int 0)]) (And.intro rfl (And.intro rfl (And.intro rfl (And.intro rfl (And.intro rfl trivial))))) (hK5 0 0 I h)
set_option maxHeartbeats 4000000 in
set_option maxRecDepth 100000 in
theorem sX12_workOf_5 (d : Nat) {T : Topo} (hT : Lay T) (a1 : Int32) (a2 : Int32)    {Q : Int32 → Topo → IM → Prop} {K5 : Int32 → Int32 → IM → Prop} (hK5 : ∀ (v3 v4 : Int32) (I : IM), K5 v3 v4 I → J (d + 1) mX12_workOf (PI Q) 0 0 5 [some (.ref 79), some (.int a1), some (.int a2), some (.int v3), some (.int v4)] [] T I 0 0) (v3 v4 : Int32) (I : IM) (h : fX12_workOf_5 T a1 a2 Q K5 v3 v4 I) : J (d + 1) mX12_workOf (PI Q) 0 0 5 [some (.ref 79), some (.int a1), some (.int a2), some (.int v3), some (.int v4)] [] T I 0 0 := by
  unfold fX12_workOf_5 at h
  refine J.iload dX12_workOf_5 rfl ?_
  refine J.aload_n dX12_workOf_7 rfl rfl ?_
  refine J.getI dX12_workOf_8 fX12_196 (hT.k 79 rfl) rfl ?_
  refine J.icmp_ge (tgt := 54) dX12_workOf_11 (by decide) (fun hc1 => ?_) (fun hc1 => ?_)
  · have h := h.1 hc1
    refine J.iload_n dX12_workOf_54 rfl rfl ?_
    exact J.iretQ dX12_workOf_55 rfl (Nat.le_refl _) (Nat.le_refl _) h
  · have h := h.2 hc1
    refine J.iload_n dX12_workOf_14 rfl rfl ?_
    refine J.iload_n dX12_workOf_15 rfl rfl ?_
    refine J.iload dX12_workOf_16 rfl ?_
    refine J.callSP (as := [.int a2, .int v4]) (rest := [.int v3]) dX12_workOf_18 kX12_has vX12_has lX12_212 rfl rfl rfl (by omega) (Nat.le_refl _) (Nat.le_refl _) (qX12_has (d + 0) hT a2 v4 ) ?_
    refine J.bz_eq (tgt := 45) dX12_workOf_21 (by decide) (fun hc2 => ?_) (fun hc2 => ?_)
    · have h := h.1 hc2
      refine J.iconst (v := 0) dX12_workOf_45 (by decide) ?_
      refine J.iadd dX12_workOf_46 ?_
      refine J.istore_n (ls' := [some (.ref 79), some (.int a1), some (.int a2), some (.int (v3 + 0)), some (.int v4)]) dX12_workOf_47 rfl rfl rfl ?_
      refine J.iinc (v := (v4 + 1)) (ls' := [some (.ref 79), some (.int a1), some (.int a2), some (.int (v3 + 0)), some (.int (v4 + 1))]) dX12_workOf_48 rfl (by rfl) rfl ?_
      refine J.goto (tgt := 5) dX12_workOf_51 (by decide) ?_
      exact J.weaken (ls' := [some (.ref 79), some (.int a1), some (.int a2), some (.int (v3 + 0)), some (.int (v4 + 1))]) (And.intro rfl (And.intro rfl (And.intro rfl (And.intro rfl (And.intro rfl trivial))))) (hK5 (v3 + 0) (v4 + 1) I h)
    · have h := h.2 hc2
      refine J.aload_n dX12_workOf_24 rfl rfl ?_
      refine J.getR (r := 111) dX12_workOf_25 fX12_108 (hT.k 79 rfl) rfl (hT.r 79 40 rfl rfl) ?_
      refine J.iload dX12_workOf_28 rfl ?_
      obtain ⟨hs3, h⟩ := h
      refine J.iald dX12_workOf_30 (hT.k 111 rfl) (hT.l 111 rfl) hs3 ?_
      refine J.iload_n dX12_workOf_31 rfl rfl ?_
      refine J.icmp_ne (tgt := 45) dX12_workOf_32 (by decide) (fun hc4 => ?_) (fun hc4 => ?_)
      · have h := h.1 hc4
        refine J.iconst (v := 0) dX12_workOf_45 (by decide) ?_
        refine J.iadd dX12_workOf_46 ?_
        refine J.istore_n (ls' := [some (.ref 79), some (.int a1), some (.int a2), some (.int (v3 + 0)), some (.int v4)]) dX12_workOf_47 rfl rfl rfl ?_
        refine J.iinc (v := (v4 + 1)) (ls' := [some (.ref 79), some (.int a1), some (.int a2), some (.int (v3 + 0)), some (.int (v4 + 1))]) dX12_workOf_48 rfl (by rfl) rfl ?_
        refine J.goto (tgt := 5) dX12_workOf_51 (by decide) ?_
        exact J.weaken (ls' := [some (.ref 79), some (.int a1), some (.int a2), some (.int (v3 + 0)), some (.int (v4 + 1))]) (And.intro rfl (And.intro rfl (And.intro rfl (And.intro rfl (And.intro rfl trivial))))) (hK5 (v3 + 0) (v4 + 1) I h)
      · have h := h.2 hc4
        refine J.aload_n dX12_workOf_35 rfl rfl ?_
        refine J.getR (r := 96) dX12_workOf_36 fX12_63 (hT.k 79 rfl) rfl (hT.r 79 25 rfl rfl) ?_
        refine J.iload dX12_workOf_39 rfl ?_
        obtain ⟨hs5, h⟩ := h
        refine J.iald dX12_workOf_41 (hT.k 96 rfl) (hT.l 96 rfl) hs5 ?_
        refine J.goto (tgt := 46) dX12_workOf_42 (by decide) ?_
        refine J.iadd dX12_workOf_46 ?_
        refine J.istore_n (ls' := [some (.ref 79), some (.int a1), some (.int a2), some (.int (v3 + (I 96 v4.toNatClampNeg))), some (.int v4)]) dX12_workOf_47 rfl rfl rfl ?_
        refine J.iinc (v := (v4 + 1)) (ls' := [some (.ref 79), some (.int a1), some (.int a2), some (.int (v3 + (I 96 v4.toNatClampNeg))), some (.int (v4 + 1))]) dX12_workOf_48 rfl (by rfl) rfl ?_
        refine J.goto (tgt := 5) dX12_workOf_51 (by decide) ?_
        exact J.weaken (ls' := [some (.ref 79), some (.int a1), some (.int a2), some (.int (v3 + (I 96 v4.toNatClampNeg))), some (.int (v4 + 1))]) (And.intro rfl (And.intro rfl (And.intro rfl (And.intro rfl (And.intro rfl trivial))))) (hK5 (v3 + (I 96 v4.toNatClampNeg)) (v4 + 1) I h)
set_option maxHeartbeats 4000000 in
set_option maxRecDepth 100000 in
theorem wX12_workOf (d : Nat) {T : Topo} (hT : Lay T) (a1 : Int32) (a2 : Int32)   {Q : Int32 → Topo → IM → Prop} (V5 : Int32 → Int32 → IM → Prop) (μ5 : Int32 → Int32 → IM → Nat) (vc5 : ∀ (v3 v4 : Int32) (I : IM), V5 v3 v4 I → fX12_workOf_5 T a1 a2 Q (fun w3 w4 I_ => V5 w3 w4 I_ ∧ μ5 w3 w4 I_ < μ5 v3 v4 I) v3 v4 I) {I : IM} (h : fX12_workOf_0 T a1 a2 Q V5 I) : Ct (d + 1) mX12_workOf [.ref 79, .int a1, .int a2] T I 0 0 (PI Q) := by
  have all : ∀ n : Nat, (∀ (v3 v4 : Int32) (I : IM), V5 v3 v4 I → μ5 v3 v4 I < n → J (d + 1) mX12_workOf (PI Q) 0 0 5 [some (.ref 79), some (.int a1), some (.int a2), some (.int v3), some (.int v4)] [] T I 0 0) := by
    intro n
    induction n with
    | zero => exact fun _ _ _ _ hn => absurd hn (Nat.not_lt_zero _)
    | succ n ih =>
      exact fun v3 v4 I hv hn => sX12_workOf_5 d hT a1 a2   (fun w3 w4 I_ hw => ih w3 w4 I_ hw.1 (by have := hw.2; omega)) v3 v4 I (vc5 v3 v4 I hv)
  exact Ct.ofJ (by decide +kernel) rfl (by intro v hv; revert v hv; simp [Value.category]) rfl (sX12_workOf_0 d hT a1 a2   (fun w3 w4 I_ hw => (all (μ5 w3 w4 I_ + 1)) w3 w4 I_ hw (Nat.lt_succ_self _)) I h)

def jX12_workOfI (a1 : Int32) (a2 : Int32) : Nat → Int32 → Int32 → IM → Int32
  | 0 => fun _ _ I => 0
  | n + 1 => fun v3 v4 I => (if (I 79 2) ≤ v4 then v3 else (if hs a2 v4 then (if (I 111 v4.toNatClampNeg) = a1 then (jX12_workOfI a1 a2 n (v3 + (I 96 v4.toNatClampNeg)) (v4 + 1) I) else (jX12_workOfI a1 a2 n (v3 + 0) (v4 + 1) I)) else (jX12_workOfI a1 a2 n (v3 + 0) (v4 + 1) I)))
def jX12_workOfO (a1 : Int32) (a2 : Int32) : Nat → Int32 → Int32 → IM → Prop
  | 0 => fun _ _ _ => False
  | n + 1 => fun v3 v4 I => ((((I 79 2) ≤ v4) → True) ∧ ((¬ (I 79 2) ≤ v4) → (((¬ (hs a2 v4)) → (jX12_workOfO a1 a2 n (v3 + 0) (v4 + 1) I)) ∧ ((hs a2 v4) → (vp_in v4 8 ∧ (((¬ (I 111 v4.toNatClampNeg) = a1) → (jX12_workOfO a1 a2 n (v3 + 0) (v4 + 1) I)) ∧ (((I 111 v4.toNatClampNeg) = a1) → (vp_in v4 8 ∧ (jX12_workOfO a1 a2 n (v3 + (I 96 v4.toNatClampNeg)) (v4 + 1) I)))))))))
theorem jX12_workOfI_5 (a1 : Int32) (a2 : Int32) (n : Nat) (v3 v4 : Int32) (I : IM) : jX12_workOfI a1 a2 (n + 1) v3 v4 I = (if (I 79 2) ≤ v4 then v3 else (if hs a2 v4 then (if (I 111 v4.toNatClampNeg) = a1 then (jX12_workOfI a1 a2 n (v3 + (I 96 v4.toNatClampNeg)) (v4 + 1) I) else (jX12_workOfI a1 a2 n (v3 + 0) (v4 + 1) I)) else (jX12_workOfI a1 a2 n (v3 + 0) (v4 + 1) I))) := rfl
theorem jX12_workOfO_5 (a1 : Int32) (a2 : Int32) (n : Nat) (v3 v4 : Int32) (I : IM) : jX12_workOfO a1 a2 (n + 1) v3 v4 I = ((((I 79 2) ≤ v4) → True) ∧ ((¬ (I 79 2) ≤ v4) → (((¬ (hs a2 v4)) → (jX12_workOfO a1 a2 n (v3 + 0) (v4 + 1) I)) ∧ ((hs a2 v4) → (vp_in v4 8 ∧ (((¬ (I 111 v4.toNatClampNeg) = a1) → (jX12_workOfO a1 a2 n (v3 + 0) (v4 + 1) I)) ∧ (((I 111 v4.toNatClampNeg) = a1) → (vp_in v4 8 ∧ (jX12_workOfO a1 a2 n (v3 + (I 96 v4.toNatClampNeg)) (v4 + 1) I))))))))) := rfl
def jX12_workOf (I : IM) (a1 : Int32) (a2 : Int32) : Int32 := (jX12_workOfI a1 a2 FU 0 0 I)
def jX12_workOfK (I : IM) (a1 : Int32) (a2 : Int32) : Prop := (jX12_workOfO a1 a2 FU 0 0 I)
set_option maxRecDepth 10000 in
set_option maxHeartbeats 1000000 in
theorem uX12_workOf (d : Nat) {T : Topo} (hT : Lay T) (a1 : Int32) (a2 : Int32)   {R : Int32} {I00 : IM} : ∀ n : Nat, (∀ (v3 v4 : Int32) (I : IM), I = I00 → jX12_workOfO a1 a2 n v3 v4 I → jX12_workOfI a1 a2 n v3 v4 I = R → J (d + 1) mX12_workOf (PI (fun x T' I' => x = R ∧ T' = T ∧ I' = I00)) 0 0 5 [some (.ref 79), some (.int a1), some (.int a2), some (.int v3), some (.int v4)] [] T I 0 0) := by
  intro n
  induction n with
  | zero => exact fun _ _ _ _ hz => hz.elim
  | succ n ih =>
    exact fun v3 v4 I hI hok hit => by
        rw [jX12_workOfO_5] at hok
        exact sX12_workOf_5 d hT a1 a2   (K5 := fun w3 w4 I_ => (jX12_workOfO a1 a2 n w3 w4 I_ ∧ jX12_workOfI a1 a2 n w3 w4 I_ = R) ∧ I_ = I00) (fun w3 w4 I_ hw => ih w3 w4 I_ hw.2 hw.1.1 hw.1.2) v3 v4 I (by
          unfold fX12_workOf_5
          exact ⟨fun hc1 => ⟨by rw [jX12_workOfI_5, if_pos hc1] at hit; exact hit, rfl, hI⟩, fun hc1 => ⟨fun hc2 => ⟨⟨((hok).2 hc1).1 hc2, by rw [jX12_workOfI_5, if_neg hc1, if_neg hc2] at hit; exact hit⟩, hI⟩, fun hc2 => ⟨(((hok).2 hc1).2 hc2).1, ⟨fun hc3 => ⟨⟨((((hok).2 hc1).2 hc2).2).1 hc3, by rw [jX12_workOfI_5, if_neg hc1, if_pos hc2, if_neg hc3] at hit; exact hit⟩, hI⟩, fun hc3 => ⟨(((((hok).2 hc1).2 hc2).2).2 hc3).1, ⟨⟨(((((hok).2 hc1).2 hc2).2).2 hc3).2, by rw [jX12_workOfI_5, if_neg hc1, if_pos hc2, if_pos hc3] at hit; exact hit⟩, hI⟩⟩⟩⟩⟩⟩)
set_option maxRecDepth 10000 in
set_option maxHeartbeats 1000000 in
theorem qX12_workOf (d : Nat) {T : Topo} {I : IM} (hT : Lay T) (a1 : Int32) (a2 : Int32)  (hp : (jX12_workOfK I a1 a2)) : CtP (d + 1) mX12_workOf [.ref 79, .int a1, .int a2] T I (jX12_workOf I a1 a2) := by
  unfold jX12_workOfK at hp
  exact Ct.ofJ (by decide +kernel) rfl (by intro v hv; revert v hv; simp [Value.category]) rfl (sX12_workOf_0 d hT a1 a2   (K5 := fun w3 w4 I_ => (jX12_workOfO a1 a2 FU w3 w4 I_ ∧ jX12_workOfI a1 a2 FU w3 w4 I_ = (jX12_workOf I a1 a2)) ∧ I_ = I) (fun w3 w4 I_ hw => uX12_workOf d hT a1 a2   FU w3 w4 I_ hw.2 hw.1.1 hw.1.2) I (by
    unfold fX12_workOf_0
    exact ⟨⟨hp, rfl⟩, rfl⟩))

def fX12_linesHold_0 (T : Topo) (a1 : Int32) (Q : Int32 → Topo → IM → Prop) (K2 : Int32 → IM → Prop) (I : IM) : Prop :=
  K2 0 I
def fX12_linesHold_2 (T : Topo) (a1 : Int32) (Q : Int32 → Topo → IM → Prop) (K2 : Int32 → IM → Prop) (v2 : Int32) (I : IM) : Prop :=
  ((((I 79 1) ≤ v2) → Q 1 T I) ∧ ((¬ (I 79 1) ≤ v2) → (((jX12_loadOfK I v2 a1)) ∧ (((jX12_fallOfK I v2 a1)) ∧ (vp_in v2 9 ∧ (((((jX12_loadOf I v2 a1) + (jX12_fallOf I v2 a1)) ≤ (I 83 v2.toNatClampNeg)) → K2 (v2 + 1) I) ∧ ((¬ ((jX12_loadOf I v2 a1) + (jX12_fallOf I v2 a1)) ≤ (I 83 v2.toNatClampNeg)) → Q 0 T I)))))))
set_option maxHeartbeats 4000000 in
set_option maxRecDepth 100000 in
theorem sX12_linesHold_0 (d : Nat) {T : Topo} (hT : Lay T) (a1 : Int32)    {Q : Int32 → Topo → IM → Prop} {K2 : Int32 → IM → Prop} (hK2 : ∀ (v2 : Int32) (I : IM), K2 v2 I → J (d + 2) mX12_linesHold (PI Q) 0 0 2 [some (.ref 79), some (.int a1), some (.int v2)] [] T I 0 0) (I : IM) (h : fX12_linesHold_0 T a1 Q K2 I) : J (d + 2) mX12_linesHold (PI Q) 0 0 0 [some (.ref 79), some (.int a1), none] [] T I 0 0 := by
  unfold fX12_linesHold_0 at h
  refine J.iconst (v := 0) dX12_linesHold_0 (by decide) ?_
  refine J.istore_n (ls' := [some (.ref 79), some (.int a1), some (.int 0)]) dX12_linesHold_1 rfl rfl rfl ?_
  exact J.weaken (ls' := [some (.ref 79), some (.int a1), some (.int 0)]) (And.intro rfl (And.intro rfl (And.intro rfl trivial))) (hK2 0 I h)
set_option maxHeartbeats 4000000 in
set_option maxRecDepth 100000 in
theorem sX12_linesHold_2 (d : Nat) {T : Topo} (hT : Lay T) (a1 : Int32)    {Q : Int32 → Topo → IM → Prop} {K2 : Int32 → IM → Prop} (hK2 : ∀ (v2 : Int32) (I : IM), K2 v2 I → J (d + 2) mX12_linesHold (PI Q) 0 0 2 [some (.ref 79), some (.int a1), some (.int v2)] [] T I 0 0) (v2 : Int32) (I : IM) (h : fX12_linesHold_2 T a1 Q K2 v2 I) : J (d + 2) mX12_linesHold (PI Q) 0 0 2 [some (.ref 79), some (.int a1), some (.int v2)] [] T I 0 0 := by
  unfold fX12_linesHold_2 at h
  refine J.iload_n dX12_linesHold_2 rfl rfl ?_
  refine J.aload_n dX12_linesHold_3 rfl rfl ?_
  refine J.getI dX12_linesHold_4 fX12_193 (hT.k 79 rfl) rfl ?_
  refine J.icmp_ge (tgt := 40) dX12_linesHold_7 (by decide) (fun hc1 => ?_) (fun hc1 => ?_)
  · have h := h.1 hc1
    refine J.iconst (v := 1) dX12_linesHold_40 (by decide) ?_
    exact J.zretQ dX12_linesHold_41 rfl (Or.inr rfl) (Nat.le_refl _) (Nat.le_refl _) h
  · have h := h.2 hc1
    refine J.aload_n dX12_linesHold_10 rfl rfl ?_
    refine J.iload_n dX12_linesHold_11 rfl rfl ?_
    refine J.iload_n dX12_linesHold_12 rfl rfl ?_
    obtain ⟨hp2, h⟩ := h
    refine J.callVP (k := 79) (as := [.int v2, .int a1]) (rest := []) dX12_linesHold_13 kX12_loadOf vX12_loadOf lX12_249 (hT.k 79 rfl) rfl rfl rfl rfl rfl (by omega) (Nat.le_refl _) (Nat.le_refl _) (qX12_loadOf (d + 0) hT v2 a1 hp2) ?_
    refine J.aload_n dX12_linesHold_16 rfl rfl ?_
    refine J.iload_n dX12_linesHold_17 rfl rfl ?_
    refine J.iload_n dX12_linesHold_18 rfl rfl ?_
    obtain ⟨hp3, h⟩ := h
    refine J.callVP (k := 79) (as := [.int v2, .int a1]) (rest := [.int (jX12_loadOf I v2 a1)]) dX12_linesHold_19 kX12_fallOf vX12_fallOf lX12_253 (hT.k 79 rfl) rfl rfl rfl rfl rfl (by omega) (Nat.le_refl _) (Nat.le_refl _) (qX12_fallOf (d + 0) hT v2 a1 hp3) ?_
    refine J.iadd dX12_linesHold_22 ?_
    refine J.aload_n dX12_linesHold_23 rfl rfl ?_
    refine J.getR (r := 83) dX12_linesHold_24 fX12_23 (hT.k 79 rfl) rfl (hT.r 79 12 rfl rfl) ?_
    refine J.iload_n dX12_linesHold_27 rfl rfl ?_
    obtain ⟨hs4, h⟩ := h
    refine J.iald dX12_linesHold_28 (hT.k 83 rfl) (hT.l 83 rfl) hs4 ?_
    refine J.icmp_le (tgt := 34) dX12_linesHold_29 (by decide) (fun hc5 => ?_) (fun hc5 => ?_)
    · have h := h.1 hc5
      refine J.iinc (v := (v2 + 1)) (ls' := [some (.ref 79), some (.int a1), some (.int (v2 + 1))]) dX12_linesHold_34 rfl (by rfl) rfl ?_
      refine J.goto (tgt := 2) dX12_linesHold_37 (by decide) ?_
      exact J.weaken (ls' := [some (.ref 79), some (.int a1), some (.int (v2 + 1))]) (And.intro rfl (And.intro rfl (And.intro rfl trivial))) (hK2 (v2 + 1) I h)
    · have h := h.2 hc5
      refine J.iconst (v := 0) dX12_linesHold_32 (by decide) ?_
      exact J.zretQ dX12_linesHold_33 rfl (Or.inl rfl) (Nat.le_refl _) (Nat.le_refl _) h
set_option maxHeartbeats 4000000 in
set_option maxRecDepth 100000 in
theorem wX12_linesHold (d : Nat) {T : Topo} (hT : Lay T) (a1 : Int32)   {Q : Int32 → Topo → IM → Prop} (V2 : Int32 → IM → Prop) (μ2 : Int32 → IM → Nat) (vc2 : ∀ (v2 : Int32) (I : IM), V2 v2 I → fX12_linesHold_2 T a1 Q (fun w2 I_ => V2 w2 I_ ∧ μ2 w2 I_ < μ2 v2 I) v2 I) {I : IM} (h : fX12_linesHold_0 T a1 Q V2 I) : Ct (d + 2) mX12_linesHold [.ref 79, .int a1] T I 0 0 (PI Q) := by
  have all : ∀ n : Nat, (∀ (v2 : Int32) (I : IM), V2 v2 I → μ2 v2 I < n → J (d + 2) mX12_linesHold (PI Q) 0 0 2 [some (.ref 79), some (.int a1), some (.int v2)] [] T I 0 0) := by
    intro n
    induction n with
    | zero => exact fun _ _ _ hn => absurd hn (Nat.not_lt_zero _)
    | succ n ih =>
      exact fun v2 I hv hn => sX12_linesHold_2 d hT a1   (fun w2 I_ hw => ih w2 I_ hw.1 (by have := hw.2; omega)) v2 I (vc2 v2 I hv)
  exact Ct.ofJ (by decide +kernel) rfl (by intro v hv; revert v hv; simp [Value.category]) rfl (sX12_linesHold_0 d hT a1   (fun w2 I_ hw => (all (μ2 w2 I_ + 1)) w2 I_ hw (Nat.lt_succ_self _)) I h)

def jX12_linesHoldI (a1 : Int32) : Nat → Int32 → IM → Int32
  | 0 => fun _ I => 0
  | n + 1 => fun v2 I => (if (I 79 1) ≤ v2 then 1 else (if ((jX12_loadOf I v2 a1) + (jX12_fallOf I v2 a1)) ≤ (I 83 v2.toNatClampNeg) then (jX12_linesHoldI a1 n (v2 + 1) I) else 0))
def jX12_linesHoldO (a1 : Int32) : Nat → Int32 → IM → Prop
  | 0 => fun _ _ => False
  | n + 1 => fun v2 I => ((((I 79 1) ≤ v2) → True) ∧ ((¬ (I 79 1) ≤ v2) → (((jX12_loadOfK I v2 a1)) ∧ (((jX12_fallOfK I v2 a1)) ∧ (vp_in v2 9 ∧ (((((jX12_loadOf I v2 a1) + (jX12_fallOf I v2 a1)) ≤ (I 83 v2.toNatClampNeg)) → (jX12_linesHoldO a1 n (v2 + 1) I)) ∧ ((¬ ((jX12_loadOf I v2 a1) + (jX12_fallOf I v2 a1)) ≤ (I 83 v2.toNatClampNeg)) → True)))))))
theorem jX12_linesHoldI_2 (a1 : Int32) (n : Nat) (v2 : Int32) (I : IM) : jX12_linesHoldI a1 (n + 1) v2 I = (if (I 79 1) ≤ v2 then 1 else (if ((jX12_loadOf I v2 a1) + (jX12_fallOf I v2 a1)) ≤ (I 83 v2.toNatClampNeg) then (jX12_linesHoldI a1 n (v2 + 1) I) else 0)) := rfl
theorem jX12_linesHoldO_2 (a1 : Int32) (n : Nat) (v2 : Int32) (I : IM) : jX12_linesHoldO a1 (n + 1) v2 I = ((((I 79 1) ≤ v2) → True) ∧ ((¬ (I 79 1) ≤ v2) → (((jX12_loadOfK I v2 a1)) ∧ (((jX12_fallOfK I v2 a1)) ∧ (vp_in v2 9 ∧ (((((jX12_loadOf I v2 a1) + (jX12_fallOf I v2 a1)) ≤ (I 83 v2.toNatClampNeg)) → (jX12_linesHoldO a1 n (v2 + 1) I)) ∧ ((¬ ((jX12_loadOf I v2 a1) + (jX12_fallOf I v2 a1)) ≤ (I 83 v2.toNatClampNeg)) → True))))))) := rfl
def jX12_linesHold (I : IM) (a1 : Int32) : Int32 := (jX12_linesHoldI a1 FU 0 I)
def jX12_linesHoldK (I : IM) (a1 : Int32) : Prop := (jX12_linesHoldO a1 FU 0 I)
set_option maxRecDepth 10000 in
set_option maxHeartbeats 1000000 in
theorem uX12_linesHold (d : Nat) {T : Topo} (hT : Lay T) (a1 : Int32)   {R : Int32} {I00 : IM} : ∀ n : Nat, (∀ (v2 : Int32) (I : IM), I = I00 → jX12_linesHoldO a1 n v2 I → jX12_linesHoldI a1 n v2 I = R → J (d + 2) mX12_linesHold (PI (fun x T' I' => x = R ∧ T' = T ∧ I' = I00)) 0 0 2 [some (.ref 79), some (.int a1), some (.int v2)] [] T I 0 0) := by
  intro n
  induction n with
  | zero => exact fun _ _ _ hz => hz.elim
  | succ n ih =>
    exact fun v2 I hI hok hit => by
        rw [jX12_linesHoldO_2] at hok
        exact sX12_linesHold_2 d hT a1   (K2 := fun w2 I_ => (jX12_linesHoldO a1 n w2 I_ ∧ jX12_linesHoldI a1 n w2 I_ = R) ∧ I_ = I00) (fun w2 I_ hw => ih w2 I_ hw.2 hw.1.1 hw.1.2) v2 I (by
          unfold fX12_linesHold_2
          exact ⟨fun hc1 => ⟨by rw [jX12_linesHoldI_2, if_pos hc1] at hit; exact hit, rfl, hI⟩, fun hc1 => ⟨((hok).2 hc1).1, ⟨(((hok).2 hc1).2).1, ⟨((((hok).2 hc1).2).2).1, ⟨fun hc2 => ⟨⟨(((((hok).2 hc1).2).2).2).1 hc2, by rw [jX12_linesHoldI_2, if_neg hc1, if_pos hc2] at hit; exact hit⟩, hI⟩, fun hc2 => ⟨by rw [jX12_linesHoldI_2, if_neg hc1, if_neg hc2] at hit; exact hit, rfl, hI⟩⟩⟩⟩⟩⟩)
set_option maxRecDepth 10000 in
set_option maxHeartbeats 1000000 in
theorem qX12_linesHold (d : Nat) {T : Topo} {I : IM} (hT : Lay T) (a1 : Int32)  (hp : (jX12_linesHoldK I a1)) : CtP (d + 2) mX12_linesHold [.ref 79, .int a1] T I (jX12_linesHold I a1) := by
  unfold jX12_linesHoldK at hp
  exact Ct.ofJ (by decide +kernel) rfl (by intro v hv; revert v hv; simp [Value.category]) rfl (sX12_linesHold_0 d hT a1   (K2 := fun w2 I_ => (jX12_linesHoldO a1 FU w2 I_ ∧ jX12_linesHoldI a1 FU w2 I_ = (jX12_linesHold I a1)) ∧ I_ = I) (fun w2 I_ hw => uX12_linesHold d hT a1   FU w2 I_ hw.2 hw.1.1 hw.1.2) I (by
    unfold fX12_linesHold_0
    exact ⟨⟨hp, rfl⟩, rfl⟩))

def fX12_holds_0 (T : Topo) (a1 : Int32) (Q : Int32 → Topo → IM → Prop) (K2 : Int32 → IM → Prop) (K20 : Int32 → Int32 → Int32 → Int32 → IM → Prop) (K75 : Int32 → Int32 → Int32 → IM → Prop) (I : IM) : Prop :=
  K2 0 I
def fX12_holds_2 (T : Topo) (a1 : Int32) (Q : Int32 → Topo → IM → Prop) (K2 : Int32 → IM → Prop) (K20 : Int32 → Int32 → Int32 → Int32 → IM → Prop) (K75 : Int32 → Int32 → Int32 → IM → Prop) (v2 : Int32) (I : IM) : Prop :=
  (((24 ≤ v2) → Q 1 T I) ∧ ((¬ 24 ≤ v2) → (((jX12_countingAtK I v2)) ∧ K20 v2 (jX12_countingAt I v2) 0 0 I)))
def fX12_holds_20 (T : Topo) (a1 : Int32) (Q : Int32 → Topo → IM → Prop) (K2 : Int32 → IM → Prop) (K20 : Int32 → Int32 → Int32 → Int32 → IM → Prop) (K75 : Int32 → Int32 → Int32 → IM → Prop) (v2 v3 v4 v5 : Int32) (I : IM) : Prop :=
  (((v2 ≤ v5) → (((v4 = 0) → (((jX12_linesHoldK I v3)) ∧ (((¬ (jX12_linesHold I v3) = 0) → K75 v2 v3 0 I) ∧ (((jX12_linesHold I v3) = 0) → Q 0 T I)))) ∧ ((¬ v4 = 0) → K2 (v2 + 1) I))) ∧ ((¬ v2 ≤ v5) → (((¬ v4 = 0) → K2 (v2 + 1) I) ∧ ((v4 = 0) → (((jX12_countingAtK I v5)) ∧ (((¬ (jX12_countingAt I v5) = v3) → K20 v2 v3 0 (v5 + 1) I) ∧ (((jX12_countingAt I v5) = v3) → K20 v2 v3 1 (v5 + 1) I)))))))
def fX12_holds_75 (T : Topo) (a1 : Int32) (Q : Int32 → Topo → IM → Prop) (K2 : Int32 → IM → Prop) (K20 : Int32 → Int32 → Int32 → Int32 → IM → Prop) (K75 : Int32 → Int32 → Int32 → IM → Prop) (v2 v3 v5 : Int32) (I : IM) : Prop :=
  ((((I 79 0) ≤ v5) → K2 (v2 + 1) I) ∧ ((¬ (I 79 0) ≤ v5) → (((¬ a1 = 0) → K2 (v2 + 1) I) ∧ ((a1 = 0) → (((jX12_workOfK I v5 v3)) ∧ (vp_in v5 6 ∧ ((((jX12_workOf I v5 v3) ≤ (I 80 v5.toNatClampNeg)) → K75 v2 v3 (v5 + 1) I) ∧ ((¬ (jX12_workOf I v5 v3) ≤ (I 80 v5.toNatClampNeg)) → Q 0 T I))))))))
set_option maxHeartbeats 4000000 in
set_option maxRecDepth 100000 in
theorem sX12_holds_0 (d : Nat) {T : Topo} (hT : Lay T) (a1 : Int32)    {Q : Int32 → Topo → IM → Prop} {K2 : Int32 → IM → Prop} {K20 : Int32 → Int32 → Int32 → Int32 → IM → Prop} {K75 : Int32 → Int32 → Int32 → IM → Prop} (hK2 : ∀ (v2 : Int32) (I : IM), K2 v2 I → J (d + 3) mX12_holds (PI Q) 0 0 2 [some (.ref 79), some (.int a1), some (.int v2), none, none, none] [] T I 0 0) (hK20 : ∀ (v2 v3 v4 v5 : Int32) (I : IM), K20 v2 v3 v4 v5 I → J (d + 3) mX12_holds (PI Q) 0 0 20 [some (.ref 79), some (.int a1), some (.int v2), some (.int v3), some (.int v4), some (.int v5)] [] T I 0 0) (hK75 : ∀ (v2 v3 v5 : Int32) (I : IM), K75 v2 v3 v5 I → J (d + 3) mX12_holds (PI Q) 0 0 75 [some (.ref 79), some (.int a1), some (.int v2), some (.int v3), none, some (.int v5)] [] T I 0 0) (I : IM) (h : fX12_holds_0 T a1 Q K2 K20 K75 I) : J (d + 3) mX12_holds (PI Q) 0 0 0 [some (.ref 79), some (.int a1), none, none, none, none] [] T I 0 0 := by
  unfold fX12_holds_0 at h
  refine J.iconst (v := 0) dX12_holds_0 (by decide) ?_
  refine J.istore_n (ls' := [some (.ref 79), some (.int a1), some (.int 0), none, none, none]) dX12_holds_1 rfl rfl rfl ?_
  exact J.weaken (ls' := [some (.ref 79), some (.int a1), some (.int 0), none, none, none]) (And.intro rfl (And.intro rfl (And.intro rfl trivial))) (hK2 0 I h)
set_option maxHeartbeats 4000000 in
set_option maxRecDepth 100000 in
theorem sX12_holds_2 (d : Nat) {T : Topo} (hT : Lay T) (a1 : Int32)    {Q : Int32 → Topo → IM → Prop} {K2 : Int32 → IM → Prop} {K20 : Int32 → Int32 → Int32 → Int32 → IM → Prop} {K75 : Int32 → Int32 → Int32 → IM → Prop} (hK2 : ∀ (v2 : Int32) (I : IM), K2 v2 I → J (d + 3) mX12_holds (PI Q) 0 0 2 [some (.ref 79), some (.int a1), some (.int v2), none, none, none] [] T I 0 0) (hK20 : ∀ (v2 v3 v4 v5 : Int32) (I : IM), K20 v2 v3 v4 v5 I → J (d + 3) mX12_holds (PI Q) 0 0 20 [some (.ref 79), some (.int a1), some (.int v2), some (.int v3), some (.int v4), some (.int v5)] [] T I 0 0) (hK75 : ∀ (v2 v3 v5 : Int32) (I : IM), K75 v2 v3 v5 I → J (d + 3) mX12_holds (PI Q) 0 0 75 [some (.ref 79), some (.int a1), some (.int v2), some (.int v3), none, some (.int v5)] [] T I 0 0) (v2 : Int32) (I : IM) (h : fX12_holds_2 T a1 Q K2 K20 K75 v2 I) : J (d + 3) mX12_holds (PI Q) 0 0 2 [some (.ref 79), some (.int a1), some (.int v2), none, none, none] [] T I 0 0 := by
  unfold fX12_holds_2 at h
  refine J.iload_n dX12_holds_2 rfl rfl ?_
  refine J.bipush (v := 24) dX12_holds_3 (by decide) ?_
  refine J.icmp_ge (tgt := 119) dX12_holds_5 (by decide) (fun hc1 => ?_) (fun hc1 => ?_)
  · have h := h.1 hc1
    refine J.iconst (v := 1) dX12_holds_119 (by decide) ?_
    exact J.zretQ dX12_holds_120 rfl (Or.inr rfl) (Nat.le_refl _) (Nat.le_refl _) h
  · have h := h.2 hc1
    refine J.aload_n dX12_holds_8 rfl rfl ?_
    refine J.iload_n dX12_holds_9 rfl rfl ?_
    obtain ⟨hp2, h⟩ := h
    refine J.callVP (k := 79) (as := [.int v2]) (rest := []) dX12_holds_10 kX12_countingAt vX12_countingAt lX12_256 (hT.k 79 rfl) rfl rfl rfl rfl rfl (by omega) (Nat.le_refl _) (Nat.le_refl _) (qX12_countingAt (d + 0) hT v2 hp2) ?_
    refine J.istore_n (ls' := [some (.ref 79), some (.int a1), some (.int v2), some (.int (jX12_countingAt I v2)), none, none]) dX12_holds_13 rfl rfl rfl ?_
    refine J.iconst (v := 0) dX12_holds_14 (by decide) ?_
    refine J.istore (ls' := [some (.ref 79), some (.int a1), some (.int v2), some (.int (jX12_countingAt I v2)), some (.int 0), none]) dX12_holds_15 rfl rfl ?_
    refine J.iconst (v := 0) dX12_holds_17 (by decide) ?_
    refine J.istore (ls' := [some (.ref 79), some (.int a1), some (.int v2), some (.int (jX12_countingAt I v2)), some (.int 0), some (.int 0)]) dX12_holds_18 rfl rfl ?_
    exact J.weaken (ls' := [some (.ref 79), some (.int a1), some (.int v2), some (.int (jX12_countingAt I v2)), some (.int 0), some (.int 0)]) (And.intro rfl (And.intro rfl (And.intro rfl (And.intro rfl (And.intro rfl (And.intro rfl trivial)))))) (hK20 v2 (jX12_countingAt I v2) 0 0 I h)
set_option maxHeartbeats 4000000 in
set_option maxRecDepth 100000 in
theorem sX12_holds_20 (d : Nat) {T : Topo} (hT : Lay T) (a1 : Int32)    {Q : Int32 → Topo → IM → Prop} {K2 : Int32 → IM → Prop} {K20 : Int32 → Int32 → Int32 → Int32 → IM → Prop} {K75 : Int32 → Int32 → Int32 → IM → Prop} (hK2 : ∀ (v2 : Int32) (I : IM), K2 v2 I → J (d + 3) mX12_holds (PI Q) 0 0 2 [some (.ref 79), some (.int a1), some (.int v2), none, none, none] [] T I 0 0) (hK20 : ∀ (v2 v3 v4 v5 : Int32) (I : IM), K20 v2 v3 v4 v5 I → J (d + 3) mX12_holds (PI Q) 0 0 20 [some (.ref 79), some (.int a1), some (.int v2), some (.int v3), some (.int v4), some (.int v5)] [] T I 0 0) (hK75 : ∀ (v2 v3 v5 : Int32) (I : IM), K75 v2 v3 v5 I → J (d + 3) mX12_holds (PI Q) 0 0 75 [some (.ref 79), some (.int a1), some (.int v2), some (.int v3), none, some (.int v5)] [] T I 0 0) (v2 v3 v4 v5 : Int32) (I : IM) (h : fX12_holds_20 T a1 Q K2 K20 K75 v2 v3 v4 v5 I) : J (d + 3) mX12_holds (PI Q) 0 0 20 [some (.ref 79), some (.int a1), some (.int v2), some (.int v3), some (.int v4), some (.int v5)] [] T I 0 0 := by
  unfold fX12_holds_20 at h
  refine J.iload dX12_holds_20 rfl ?_
  refine J.iload_n dX12_holds_22 rfl rfl ?_
  refine J.icmp_ge (tgt := 54) dX12_holds_23 (by decide) (fun hc1 => ?_) (fun hc1 => ?_)
  · have h := h.1 hc1
    refine J.iload dX12_holds_54 rfl ?_
    refine J.if_eq (tgt := 62) dX12_holds_56 (by decide) (fun hc2 => ?_) (fun hc2 => ?_)
    · have h := h.1 hc2
      refine J.aload_n dX12_holds_62 rfl rfl ?_
      refine J.iload_n dX12_holds_63 rfl rfl ?_
      obtain ⟨hp3, h⟩ := h
      refine J.callVP (k := 79) (as := [.int v3]) (rest := []) dX12_holds_64 kX12_linesHold vX12_linesHold lX12_259 (hT.k 79 rfl) rfl rfl rfl rfl rfl (by omega) (Nat.le_refl _) (Nat.le_refl _) (qX12_linesHold (d + 0) hT v3 hp3) ?_
      refine J.if_ne (tgt := 72) dX12_holds_67 (by decide) (fun hc4 => ?_) (fun hc4 => ?_)
      · have h := h.1 hc4
        refine J.iconst (v := 0) dX12_holds_72 (by decide) ?_
        refine J.istore (ls' := [some (.ref 79), some (.int a1), some (.int v2), some (.int v3), some (.int v4), some (.int 0)]) dX12_holds_73 rfl rfl ?_
        exact J.weaken (ls' := [some (.ref 79), some (.int a1), some (.int v2), some (.int v3), none, some (.int 0)]) (And.intro rfl (And.intro rfl (And.intro rfl (And.intro rfl (And.intro rfl trivial))))) (hK75 v2 v3 0 I h)
      · have h := h.2 hc4
        refine J.iconst (v := 0) dX12_holds_70 (by decide) ?_
        exact J.zretQ dX12_holds_71 rfl (Or.inl rfl) (Nat.le_refl _) (Nat.le_refl _) h
    · have h := h.2 hc2
      refine J.goto (tgt := 113) dX12_holds_59 (by decide) ?_
      refine J.iinc (v := (v2 + 1)) (ls' := [some (.ref 79), some (.int a1), some (.int (v2 + 1)), some (.int v3), some (.int v4), some (.int v5)]) dX12_holds_113 rfl (by rfl) rfl ?_
      refine J.goto (tgt := 2) dX12_holds_116 (by decide) ?_
      exact J.weaken (ls' := [some (.ref 79), some (.int a1), some (.int (v2 + 1)), none, none, none]) (And.intro rfl (And.intro rfl (And.intro rfl trivial))) (hK2 (v2 + 1) I h)
  · have h := h.2 hc1
    refine J.iload dX12_holds_26 rfl ?_
    refine J.if_ne (tgt := 54) dX12_holds_28 (by decide) (fun hc5 => ?_) (fun hc5 => ?_)
    · have h := h.1 hc5
      refine J.iload dX12_holds_54 rfl ?_
      refine J.if_eq (tgt := 62) dX12_holds_56 (by decide) (fun hc => absurd hc hc5) (fun hc => ?_)
      refine J.goto (tgt := 113) dX12_holds_59 (by decide) ?_
      refine J.iinc (v := (v2 + 1)) (ls' := [some (.ref 79), some (.int a1), some (.int (v2 + 1)), some (.int v3), some (.int v4), some (.int v5)]) dX12_holds_113 rfl (by rfl) rfl ?_
      refine J.goto (tgt := 2) dX12_holds_116 (by decide) ?_
      exact J.weaken (ls' := [some (.ref 79), some (.int a1), some (.int (v2 + 1)), none, none, none]) (And.intro rfl (And.intro rfl (And.intro rfl trivial))) (hK2 (v2 + 1) I h)
    · have h := h.2 hc5
      refine J.aload_n dX12_holds_31 rfl rfl ?_
      refine J.iload dX12_holds_32 rfl ?_
      obtain ⟨hp6, h⟩ := h
      refine J.callVP (k := 79) (as := [.int v5]) (rest := []) dX12_holds_34 kX12_countingAt vX12_countingAt lX12_256 (hT.k 79 rfl) rfl rfl rfl rfl rfl (by omega) (Nat.le_refl _) (Nat.le_refl _) (qX12_countingAt (d + 0) hT v5 hp6) ?_
      refine J.iload_n dX12_holds_37 rfl rfl ?_
      refine J.icmp_ne (tgt := 45) dX12_holds_38 (by decide) (fun hc7 => ?_) (fun hc7 => ?_)
      · have h := h.1 hc7
        refine J.iconst (v := 0) dX12_holds_45 (by decide) ?_
        refine J.istore (ls' := [some (.ref 79), some (.int a1), some (.int v2), some (.int v3), some (.int 0), some (.int v5)]) dX12_holds_46 rfl rfl ?_
        refine J.iinc (v := (v5 + 1)) (ls' := [some (.ref 79), some (.int a1), some (.int v2), some (.int v3), some (.int 0), some (.int (v5 + 1))]) dX12_holds_48 rfl (by rfl) rfl ?_
        refine J.goto (tgt := 20) dX12_holds_51 (by decide) ?_
        exact J.weaken (ls' := [some (.ref 79), some (.int a1), some (.int v2), some (.int v3), some (.int 0), some (.int (v5 + 1))]) (And.intro rfl (And.intro rfl (And.intro rfl (And.intro rfl (And.intro rfl (And.intro rfl trivial)))))) (hK20 v2 v3 0 (v5 + 1) I h)
      · have h := h.2 hc7
        refine J.iconst (v := 1) dX12_holds_41 (by decide) ?_
        refine J.goto (tgt := 46) dX12_holds_42 (by decide) ?_
        refine J.istore (ls' := [some (.ref 79), some (.int a1), some (.int v2), some (.int v3), some (.int 1), some (.int v5)]) dX12_holds_46 rfl rfl ?_
        refine J.iinc (v := (v5 + 1)) (ls' := [some (.ref 79), some (.int a1), some (.int v2), some (.int v3), some (.int 1), some (.int (v5 + 1))]) dX12_holds_48 rfl (by rfl) rfl ?_
        refine J.goto (tgt := 20) dX12_holds_51 (by decide) ?_
        exact J.weaken (ls' := [some (.ref 79), some (.int a1), some (.int v2), some (.int v3), some (.int 1), some (.int (v5 + 1))]) (And.intro rfl (And.intro rfl (And.intro rfl (And.intro rfl (And.intro rfl (And.intro rfl trivial)))))) (hK20 v2 v3 1 (v5 + 1) I h)
set_option maxHeartbeats 4000000 in
set_option maxRecDepth 100000 in
theorem sX12_holds_75 (d : Nat) {T : Topo} (hT : Lay T) (a1 : Int32)    {Q : Int32 → Topo → IM → Prop} {K2 : Int32 → IM → Prop} {K20 : Int32 → Int32 → Int32 → Int32 → IM → Prop} {K75 : Int32 → Int32 → Int32 → IM → Prop} (hK2 : ∀ (v2 : Int32) (I : IM), K2 v2 I → J (d + 3) mX12_holds (PI Q) 0 0 2 [some (.ref 79), some (.int a1), some (.int v2), none, none, none] [] T I 0 0) (hK20 : ∀ (v2 v3 v4 v5 : Int32) (I : IM), K20 v2 v3 v4 v5 I → J (d + 3) mX12_holds (PI Q) 0 0 20 [some (.ref 79), some (.int a1), some (.int v2), some (.int v3), some (.int v4), some (.int v5)] [] T I 0 0) (hK75 : ∀ (v2 v3 v5 : Int32) (I : IM), K75 v2 v3 v5 I → J (d + 3) mX12_holds (PI Q) 0 0 75 [some (.ref 79), some (.int a1), some (.int v2), some (.int v3), none, some (.int v5)] [] T I 0 0) (v2 v3 v5 : Int32) (I : IM) (h : fX12_holds_75 T a1 Q K2 K20 K75 v2 v3 v5 I) : J (d + 3) mX12_holds (PI Q) 0 0 75 [some (.ref 79), some (.int a1), some (.int v2), some (.int v3), none, some (.int v5)] [] T I 0 0 := by
  unfold fX12_holds_75 at h
  refine J.iload dX12_holds_75 rfl ?_
  refine J.aload_n dX12_holds_77 rfl rfl ?_
  refine J.getI dX12_holds_78 fX12_186 (hT.k 79 rfl) rfl ?_
  refine J.icmp_ge (tgt := 113) dX12_holds_81 (by decide) (fun hc1 => ?_) (fun hc1 => ?_)
  · have h := h.1 hc1
    refine J.iinc (v := (v2 + 1)) (ls' := [some (.ref 79), some (.int a1), some (.int (v2 + 1)), some (.int v3), none, some (.int v5)]) dX12_holds_113 rfl (by rfl) rfl ?_
    refine J.goto (tgt := 2) dX12_holds_116 (by decide) ?_
    exact J.weaken (ls' := [some (.ref 79), some (.int a1), some (.int (v2 + 1)), none, none, none]) (And.intro rfl (And.intro rfl (And.intro rfl trivial))) (hK2 (v2 + 1) I h)
  · have h := h.2 hc1
    refine J.iload_n dX12_holds_84 rfl rfl ?_
    refine J.if_ne (tgt := 113) dX12_holds_85 (by decide) (fun hc2 => ?_) (fun hc2 => ?_)
    · have h := h.1 hc2
      refine J.iinc (v := (v2 + 1)) (ls' := [some (.ref 79), some (.int a1), some (.int (v2 + 1)), some (.int v3), none, some (.int v5)]) dX12_holds_113 rfl (by rfl) rfl ?_
      refine J.goto (tgt := 2) dX12_holds_116 (by decide) ?_
      exact J.weaken (ls' := [some (.ref 79), some (.int a1), some (.int (v2 + 1)), none, none, none]) (And.intro rfl (And.intro rfl (And.intro rfl trivial))) (hK2 (v2 + 1) I h)
    · have h := h.2 hc2
      refine J.aload_n dX12_holds_88 rfl rfl ?_
      refine J.iload dX12_holds_89 rfl ?_
      refine J.iload_n dX12_holds_91 rfl rfl ?_
      obtain ⟨hp3, h⟩ := h
      refine J.callVP (k := 79) (as := [.int v5, .int v3]) (rest := []) dX12_holds_92 kX12_workOf vX12_workOf lX12_262 (hT.k 79 rfl) rfl rfl rfl rfl rfl (by omega) (Nat.le_refl _) (Nat.le_refl _) (qX12_workOf (d + 1) hT v5 v3 hp3) ?_
      refine J.aload_n dX12_holds_95 rfl rfl ?_
      refine J.getR (r := 80) dX12_holds_96 fX12_13 (hT.k 79 rfl) rfl (hT.r 79 9 rfl rfl) ?_
      refine J.iload dX12_holds_99 rfl ?_
      obtain ⟨hs4, h⟩ := h
      refine J.iald dX12_holds_101 (hT.k 80 rfl) (hT.l 80 rfl) hs4 ?_
      refine J.icmp_le (tgt := 107) dX12_holds_102 (by decide) (fun hc5 => ?_) (fun hc5 => ?_)
      · have h := h.1 hc5
        refine J.iinc (v := (v5 + 1)) (ls' := [some (.ref 79), some (.int a1), some (.int v2), some (.int v3), none, some (.int (v5 + 1))]) dX12_holds_107 rfl (by rfl) rfl ?_
        refine J.goto (tgt := 75) dX12_holds_110 (by decide) ?_
        exact J.weaken (ls' := [some (.ref 79), some (.int a1), some (.int v2), some (.int v3), none, some (.int (v5 + 1))]) (And.intro rfl (And.intro rfl (And.intro rfl (And.intro rfl (And.intro rfl trivial))))) (hK75 v2 v3 (v5 + 1) I h)
      · have h := h.2 hc5
        refine J.iconst (v := 0) dX12_holds_105 (by decide) ?_
        exact J.zretQ dX12_holds_106 rfl (Or.inl rfl) (Nat.le_refl _) (Nat.le_refl _) h
set_option maxHeartbeats 4000000 in
set_option maxRecDepth 100000 in
theorem wX12_holds (d : Nat) {T : Topo} (hT : Lay T) (a1 : Int32)   {Q : Int32 → Topo → IM → Prop} (V2 : Int32 → IM → Prop) (μ2 : Int32 → IM → Nat) (V20 : Int32 → Int32 → Int32 → Int32 → IM → Prop) (μ20 : Int32 → Int32 → Int32 → Int32 → IM → Nat) (V75 : Int32 → Int32 → Int32 → IM → Prop) (μ75 : Int32 → Int32 → Int32 → IM → Nat) (vc2 : ∀ (v2 : Int32) (I : IM), V2 v2 I → fX12_holds_2 T a1 Q (fun w2 I_ => V2 w2 I_ ∧ μ2 w2 I_ < μ2 v2 I) (fun w2 w3 w4 w5 I_ => V20 w2 w3 w4 w5 I_ ∧ μ20 w2 w3 w4 w5 I_ < μ2 v2 I) (fun w2 w3 w5 I_ => V75 w2 w3 w5 I_ ∧ μ75 w2 w3 w5 I_ < μ2 v2 I) v2 I) (vc20 : ∀ (v2 v3 v4 v5 : Int32) (I : IM), V20 v2 v3 v4 v5 I → fX12_holds_20 T a1 Q (fun w2 I_ => V2 w2 I_ ∧ μ2 w2 I_ < μ20 v2 v3 v4 v5 I) (fun w2 w3 w4 w5 I_ => V20 w2 w3 w4 w5 I_ ∧ μ20 w2 w3 w4 w5 I_ < μ20 v2 v3 v4 v5 I) (fun w2 w3 w5 I_ => V75 w2 w3 w5 I_ ∧ μ75 w2 w3 w5 I_ < μ20 v2 v3 v4 v5 I) v2 v3 v4 v5 I) (vc75 : ∀ (v2 v3 v5 : Int32) (I : IM), V75 v2 v3 v5 I → fX12_holds_75 T a1 Q (fun w2 I_ => V2 w2 I_ ∧ μ2 w2 I_ < μ75 v2 v3 v5 I) (fun w2 w3 w4 w5 I_ => V20 w2 w3 w4 w5 I_ ∧ μ20 w2 w3 w4 w5 I_ < μ75 v2 v3 v5 I) (fun w2 w3 w5 I_ => V75 w2 w3 w5 I_ ∧ μ75 w2 w3 w5 I_ < μ75 v2 v3 v5 I) v2 v3 v5 I) {I : IM} (h : fX12_holds_0 T a1 Q V2 V20 V75 I) : Ct (d + 3) mX12_holds [.ref 79, .int a1] T I 0 0 (PI Q) := by
  have all : ∀ n : Nat, (∀ (v2 : Int32) (I : IM), V2 v2 I → μ2 v2 I < n → J (d + 3) mX12_holds (PI Q) 0 0 2 [some (.ref 79), some (.int a1), some (.int v2), none, none, none] [] T I 0 0) ∧ (∀ (v2 v3 v4 v5 : Int32) (I : IM), V20 v2 v3 v4 v5 I → μ20 v2 v3 v4 v5 I < n → J (d + 3) mX12_holds (PI Q) 0 0 20 [some (.ref 79), some (.int a1), some (.int v2), some (.int v3), some (.int v4), some (.int v5)] [] T I 0 0) ∧ (∀ (v2 v3 v5 : Int32) (I : IM), V75 v2 v3 v5 I → μ75 v2 v3 v5 I < n → J (d + 3) mX12_holds (PI Q) 0 0 75 [some (.ref 79), some (.int a1), some (.int v2), some (.int v3), none, some (.int v5)] [] T I 0 0) := by
    intro n
    induction n with
    | zero => exact ⟨fun _ _ _ hn => absurd hn (Nat.not_lt_zero _), fun _ _ _ _ _ _ hn => absurd hn (Nat.not_lt_zero _), fun _ _ _ _ _ hn => absurd hn (Nat.not_lt_zero _)⟩
    | succ n ih =>
      exact ⟨fun v2 I hv hn => sX12_holds_2 d hT a1   (fun w2 I_ hw => ih.1 w2 I_ hw.1 (by have := hw.2; omega)) (fun w2 w3 w4 w5 I_ hw => ih.2.1 w2 w3 w4 w5 I_ hw.1 (by have := hw.2; omega)) (fun w2 w3 w5 I_ hw => ih.2.2 w2 w3 w5 I_ hw.1 (by have := hw.2; omega)) v2 I (vc2 v2 I hv), fun v2 v3 v4 v5 I hv hn => sX12_holds_20 d hT a1   (fun w2 I_ hw => ih.1 w2 I_ hw.1 (by have := hw.2; omega)) (fun w2 w3 w4 w5 I_ hw => ih.2.1 w2 w3 w4 w5 I_ hw.1 (by have := hw.2; omega)) (fun w2 w3 w5 I_ hw => ih.2.2 w2 w3 w5 I_ hw.1 (by have := hw.2; omega)) v2 v3 v4 v5 I (vc20 v2 v3 v4 v5 I hv), fun v2 v3 v5 I hv hn => sX12_holds_75 d hT a1   (fun w2 I_ hw => ih.1 w2 I_ hw.1 (by have := hw.2; omega)) (fun w2 w3 w4 w5 I_ hw => ih.2.1 w2 w3 w4 w5 I_ hw.1 (by have := hw.2; omega)) (fun w2 w3 w5 I_ hw => ih.2.2 w2 w3 w5 I_ hw.1 (by have := hw.2; omega)) v2 v3 v5 I (vc75 v2 v3 v5 I hv)⟩
  exact Ct.ofJ (by decide +kernel) rfl (by intro v hv; revert v hv; simp [Value.category]) rfl (sX12_holds_0 d hT a1   (fun w2 I_ hw => (all (μ2 w2 I_ + 1)).1 w2 I_ hw (Nat.lt_succ_self _)) (fun w2 w3 w4 w5 I_ hw => (all (μ20 w2 w3 w4 w5 I_ + 1)).2.1 w2 w3 w4 w5 I_ hw (Nat.lt_succ_self _)) (fun w2 w3 w5 I_ hw => (all (μ75 w2 w3 w5 I_ + 1)).2.2 w2 w3 w5 I_ hw (Nat.lt_succ_self _)) I h)

def jX12_holdsB2 (a1 : Int32) (F : (Nat → Int32 → Int32 → Int32 → Int32 → IM → Int32)) (v2 v3 v4 v5 : Int32) (I : IM) : Int32 := (if 24 ≤ v2 then 1 else (F 1 v2 (jX12_countingAt I v2) 0 0 I))
def jX12_holdsC2 (a1 : Int32) (F : (Nat → Int32 → Int32 → Int32 → Int32 → IM → Prop)) (v2 v3 v4 v5 : Int32) (I : IM) : Prop := (((24 ≤ v2) → True) ∧ ((¬ 24 ≤ v2) → (((jX12_countingAtK I v2)) ∧ (F 1 v2 (jX12_countingAt I v2) 0 0 I))))
def jX12_holdsB20 (a1 : Int32) (F : (Nat → Int32 → Int32 → Int32 → Int32 → IM → Int32)) (v2 v3 v4 v5 : Int32) (I : IM) : Int32 := (if v2 ≤ v5 then (if v4 = 0 then (if (jX12_linesHold I v3) = 0 then 0 else (F 2 v2 v3 0 0 I)) else (F 0 (v2 + 1) 0 0 0 I)) else (if v4 = 0 then (if (jX12_countingAt I v5) = v3 then (F 1 v2 v3 1 (v5 + 1) I) else (F 1 v2 v3 0 (v5 + 1) I)) else (F 0 (v2 + 1) 0 0 0 I)))
def jX12_holdsC20 (a1 : Int32) (F : (Nat → Int32 → Int32 → Int32 → Int32 → IM → Prop)) (v2 v3 v4 v5 : Int32) (I : IM) : Prop := (((v2 ≤ v5) → (((v4 = 0) → (((jX12_linesHoldK I v3)) ∧ (((¬ (jX12_linesHold I v3) = 0) → (F 2 v2 v3 0 0 I)) ∧ (((jX12_linesHold I v3) = 0) → True)))) ∧ ((¬ v4 = 0) → (F 0 (v2 + 1) 0 0 0 I)))) ∧ ((¬ v2 ≤ v5) → (((¬ v4 = 0) → (F 0 (v2 + 1) 0 0 0 I)) ∧ ((v4 = 0) → (((jX12_countingAtK I v5)) ∧ (((¬ (jX12_countingAt I v5) = v3) → (F 1 v2 v3 0 (v5 + 1) I)) ∧ (((jX12_countingAt I v5) = v3) → (F 1 v2 v3 1 (v5 + 1) I))))))))
def jX12_holdsB75 (a1 : Int32) (F : (Nat → Int32 → Int32 → Int32 → Int32 → IM → Int32)) (v2 v3 v4 v5 : Int32) (I : IM) : Int32 := (if (I 79 0) ≤ v5 then (F 0 (v2 + 1) 0 0 0 I) else (if a1 = 0 then (if (jX12_workOf I v5 v3) ≤ (I 80 v5.toNatClampNeg) then (F 2 v2 v3 0 (v5 + 1) I) else 0) else (F 0 (v2 + 1) 0 0 0 I)))
def jX12_holdsC75 (a1 : Int32) (F : (Nat → Int32 → Int32 → Int32 → Int32 → IM → Prop)) (v2 v3 v4 v5 : Int32) (I : IM) : Prop := ((((I 79 0) ≤ v5) → (F 0 (v2 + 1) 0 0 0 I)) ∧ ((¬ (I 79 0) ≤ v5) → (((¬ a1 = 0) → (F 0 (v2 + 1) 0 0 0 I)) ∧ ((a1 = 0) → (((jX12_workOfK I v5 v3)) ∧ (vp_in v5 6 ∧ ((((jX12_workOf I v5 v3) ≤ (I 80 v5.toNatClampNeg)) → (F 2 v2 v3 0 (v5 + 1) I)) ∧ ((¬ (jX12_workOf I v5 v3) ≤ (I 80 v5.toNatClampNeg)) → True))))))))
def jX12_holdsI (a1 : Int32) : Nat → Nat → Int32 → Int32 → Int32 → Int32 → IM → Int32
  | 0 => fun _ _ _ _ _ I => 0
  | n + 1 => fun tg v2 v3 v4 v5 I => (if tg = 0 then jX12_holdsB2 a1 (jX12_holdsI a1 n) v2 v3 v4 v5 I else (if tg = 1 then jX12_holdsB20 a1 (jX12_holdsI a1 n) v2 v3 v4 v5 I else (if tg = 2 then jX12_holdsB75 a1 (jX12_holdsI a1 n) v2 v3 v4 v5 I else 0)))
def jX12_holdsO (a1 : Int32) : Nat → Nat → Int32 → Int32 → Int32 → Int32 → IM → Prop
  | 0 => fun _ _ _ _ _ _ => False
  | n + 1 => fun tg v2 v3 v4 v5 I => (if tg = 0 then jX12_holdsC2 a1 (jX12_holdsO a1 n) v2 v3 v4 v5 I else (if tg = 1 then jX12_holdsC20 a1 (jX12_holdsO a1 n) v2 v3 v4 v5 I else (if tg = 2 then jX12_holdsC75 a1 (jX12_holdsO a1 n) v2 v3 v4 v5 I else True)))
theorem jX12_holdsI_2 (a1 : Int32) (n : Nat) (v2 v3 v4 v5 : Int32) (I : IM) : jX12_holdsI a1 (n + 1) 0 v2 v3 v4 v5 I = (if 24 ≤ v2 then 1 else (jX12_holdsI a1 n 1 v2 (jX12_countingAt I v2) 0 0 I)) := by
  show (if (0 : Nat) = 0 then jX12_holdsB2 a1 (jX12_holdsI a1 n) v2 v3 v4 v5 I else (if (0 : Nat) = 1 then jX12_holdsB20 a1 (jX12_holdsI a1 n) v2 v3 v4 v5 I else (if (0 : Nat) = 2 then jX12_holdsB75 a1 (jX12_holdsI a1 n) v2 v3 v4 v5 I else 0))) = _
  rw [if_pos rfl]; rfl
theorem jX12_holdsO_2 (a1 : Int32) (n : Nat) (v2 v3 v4 v5 : Int32) (I : IM) : jX12_holdsO a1 (n + 1) 0 v2 v3 v4 v5 I = (((24 ≤ v2) → True) ∧ ((¬ 24 ≤ v2) → (((jX12_countingAtK I v2)) ∧ (jX12_holdsO a1 n 1 v2 (jX12_countingAt I v2) 0 0 I)))) := by
  show (if (0 : Nat) = 0 then jX12_holdsC2 a1 (jX12_holdsO a1 n) v2 v3 v4 v5 I else (if (0 : Nat) = 1 then jX12_holdsC20 a1 (jX12_holdsO a1 n) v2 v3 v4 v5 I else (if (0 : Nat) = 2 then jX12_holdsC75 a1 (jX12_holdsO a1 n) v2 v3 v4 v5 I else True))) = _
  rw [if_pos rfl]; rfl
theorem jX12_holdsI_20 (a1 : Int32) (n : Nat) (v2 v3 v4 v5 : Int32) (I : IM) : jX12_holdsI a1 (n + 1) 1 v2 v3 v4 v5 I = (if v2 ≤ v5 then (if v4 = 0 then (if (jX12_linesHold I v3) = 0 then 0 else (jX12_holdsI a1 n 2 v2 v3 0 0 I)) else (jX12_holdsI a1 n 0 (v2 + 1) 0 0 0 I)) else (if v4 = 0 then (if (jX12_countingAt I v5) = v3 then (jX12_holdsI a1 n 1 v2 v3 1 (v5 + 1) I) else (jX12_holdsI a1 n 1 v2 v3 0 (v5 + 1) I)) else (jX12_holdsI a1 n 0 (v2 + 1) 0 0 0 I))) := by
  show (if (1 : Nat) = 0 then jX12_holdsB2 a1 (jX12_holdsI a1 n) v2 v3 v4 v5 I else (if (1 : Nat) = 1 then jX12_holdsB20 a1 (jX12_holdsI a1 n) v2 v3 v4 v5 I else (if (1 : Nat) = 2 then jX12_holdsB75 a1 (jX12_holdsI a1 n) v2 v3 v4 v5 I else 0))) = _
  rw [if_neg (by decide), if_pos rfl]; rfl
theorem jX12_holdsO_20 (a1 : Int32) (n : Nat) (v2 v3 v4 v5 : Int32) (I : IM) : jX12_holdsO a1 (n + 1) 1 v2 v3 v4 v5 I = (((v2 ≤ v5) → (((v4 = 0) → (((jX12_linesHoldK I v3)) ∧ (((¬ (jX12_linesHold I v3) = 0) → (jX12_holdsO a1 n 2 v2 v3 0 0 I)) ∧ (((jX12_linesHold I v3) = 0) → True)))) ∧ ((¬ v4 = 0) → (jX12_holdsO a1 n 0 (v2 + 1) 0 0 0 I)))) ∧ ((¬ v2 ≤ v5) → (((¬ v4 = 0) → (jX12_holdsO a1 n 0 (v2 + 1) 0 0 0 I)) ∧ ((v4 = 0) → (((jX12_countingAtK I v5)) ∧ (((¬ (jX12_countingAt I v5) = v3) → (jX12_holdsO a1 n 1 v2 v3 0 (v5 + 1) I)) ∧ (((jX12_countingAt I v5) = v3) → (jX12_holdsO a1 n 1 v2 v3 1 (v5 + 1) I)))))))) := by
  show (if (1 : Nat) = 0 then jX12_holdsC2 a1 (jX12_holdsO a1 n) v2 v3 v4 v5 I else (if (1 : Nat) = 1 then jX12_holdsC20 a1 (jX12_holdsO a1 n) v2 v3 v4 v5 I else (if (1 : Nat) = 2 then jX12_holdsC75 a1 (jX12_holdsO a1 n) v2 v3 v4 v5 I else True))) = _
  rw [if_neg (by decide), if_pos rfl]; rfl
theorem jX12_holdsI_75 (a1 : Int32) (n : Nat) (v2 v3 v4 v5 : Int32) (I : IM) : jX12_holdsI a1 (n + 1) 2 v2 v3 v4 v5 I = (if (I 79 0) ≤ v5 then (jX12_holdsI a1 n 0 (v2 + 1) 0 0 0 I) else (if a1 = 0 then (if (jX12_workOf I v5 v3) ≤ (I 80 v5.toNatClampNeg) then (jX12_holdsI a1 n 2 v2 v3 0 (v5 + 1) I) else 0) else (jX12_holdsI a1 n 0 (v2 + 1) 0 0 0 I))) := by
  show (if (2 : Nat) = 0 then jX12_holdsB2 a1 (jX12_holdsI a1 n) v2 v3 v4 v5 I else (if (2 : Nat) = 1 then jX12_holdsB20 a1 (jX12_holdsI a1 n) v2 v3 v4 v5 I else (if (2 : Nat) = 2 then jX12_holdsB75 a1 (jX12_holdsI a1 n) v2 v3 v4 v5 I else 0))) = _
  rw [if_neg (by decide), if_neg (by decide), if_pos rfl]; rfl
theorem jX12_holdsO_75 (a1 : Int32) (n : Nat) (v2 v3 v4 v5 : Int32) (I : IM) : jX12_holdsO a1 (n + 1) 2 v2 v3 v4 v5 I = ((((I 79 0) ≤ v5) → (jX12_holdsO a1 n 0 (v2 + 1) 0 0 0 I)) ∧ ((¬ (I 79 0) ≤ v5) → (((¬ a1 = 0) → (jX12_holdsO a1 n 0 (v2 + 1) 0 0 0 I)) ∧ ((a1 = 0) → (((jX12_workOfK I v5 v3)) ∧ (vp_in v5 6 ∧ ((((jX12_workOf I v5 v3) ≤ (I 80 v5.toNatClampNeg)) → (jX12_holdsO a1 n 2 v2 v3 0 (v5 + 1) I)) ∧ ((¬ (jX12_workOf I v5 v3) ≤ (I 80 v5.toNatClampNeg)) → True)))))))) := by
  show (if (2 : Nat) = 0 then jX12_holdsC2 a1 (jX12_holdsO a1 n) v2 v3 v4 v5 I else (if (2 : Nat) = 1 then jX12_holdsC20 a1 (jX12_holdsO a1 n) v2 v3 v4 v5 I else (if (2 : Nat) = 2 then jX12_holdsC75 a1 (jX12_holdsO a1 n) v2 v3 v4 v5 I else True))) = _
  rw [if_neg (by decide), if_neg (by decide), if_pos rfl]; rfl
def jX12_holds (I : IM) (a1 : Int32) : Int32 := (jX12_holdsI a1 FU 0 0 0 0 0 I)
def jX12_holdsK (I : IM) (a1 : Int32) : Prop := (jX12_holdsO a1 FU 0 0 0 0 0 I)
set_option maxRecDepth 10000 in
set_option maxHeartbeats 1000000 in
theorem uX12_holds (d : Nat) {T : Topo} (hT : Lay T) (a1 : Int32)   {R : Int32} {I00 : IM} : ∀ n : Nat, (∀ (v2 : Int32) (I : IM), I = I00 → jX12_holdsO a1 n 0 v2 0 0 0 I → jX12_holdsI a1 n 0 v2 0 0 0 I = R → J (d + 3) mX12_holds (PI (fun x T' I' => x = R ∧ T' = T ∧ I' = I00)) 0 0 2 [some (.ref 79), some (.int a1), some (.int v2), none, none, none] [] T I 0 0) ∧ (∀ (v2 v3 v4 v5 : Int32) (I : IM), I = I00 → jX12_holdsO a1 n 1 v2 v3 v4 v5 I → jX12_holdsI a1 n 1 v2 v3 v4 v5 I = R → J (d + 3) mX12_holds (PI (fun x T' I' => x = R ∧ T' = T ∧ I' = I00)) 0 0 20 [some (.ref 79), some (.int a1), some (.int v2), some (.int v3), some (.int v4), some (.int v5)] [] T I 0 0) ∧ (∀ (v2 v3 v5 : Int32) (I : IM), I = I00 → jX12_holdsO a1 n 2 v2 v3 0 v5 I → jX12_holdsI a1 n 2 v2 v3 0 v5 I = R → J (d + 3) mX12_holds (PI (fun x T' I' => x = R ∧ T' = T ∧ I' = I00)) 0 0 75 [some (.ref 79), some (.int a1), some (.int v2), some (.int v3), none, some (.int v5)] [] T I 0 0) := by
  intro n
  induction n with
  | zero => exact ⟨fun _ _ _ hz => hz.elim, fun _ _ _ _ _ _ hz => hz.elim, fun _ _ _ _ _ hz => hz.elim⟩
  | succ n ih =>
    refine ⟨?_, ?_, ?_⟩
    · exact fun v2 I hI hok hit => by
        rw [jX12_holdsO_2] at hok
        exact sX12_holds_2 d hT a1   (K2 := fun w2 I_ => (jX12_holdsO a1 n 0 w2 0 0 0 I_ ∧ jX12_holdsI a1 n 0 w2 0 0 0 I_ = R) ∧ I_ = I00) (K20 := fun w2 w3 w4 w5 I_ => (jX12_holdsO a1 n 1 w2 w3 w4 w5 I_ ∧ jX12_holdsI a1 n 1 w2 w3 w4 w5 I_ = R) ∧ I_ = I00) (K75 := fun w2 w3 w5 I_ => (jX12_holdsO a1 n 2 w2 w3 0 w5 I_ ∧ jX12_holdsI a1 n 2 w2 w3 0 w5 I_ = R) ∧ I_ = I00) (fun w2 I_ hw => ih.1 w2 I_ hw.2 hw.1.1 hw.1.2) (fun w2 w3 w4 w5 I_ hw => ih.2.1 w2 w3 w4 w5 I_ hw.2 hw.1.1 hw.1.2) (fun w2 w3 w5 I_ hw => ih.2.2 w2 w3 w5 I_ hw.2 hw.1.1 hw.1.2) v2 I (by
          unfold fX12_holds_2
          exact ⟨fun hc1 => ⟨by rw [jX12_holdsI_2, if_pos hc1] at hit; exact hit, rfl, hI⟩, fun hc1 => ⟨((hok).2 hc1).1, ⟨⟨((hok).2 hc1).2, by rw [jX12_holdsI_2, if_neg hc1] at hit; exact hit⟩, hI⟩⟩⟩)
    · exact fun v2 v3 v4 v5 I hI hok hit => by
        rw [jX12_holdsO_20] at hok
        exact sX12_holds_20 d hT a1   (K2 := fun w2 I_ => (jX12_holdsO a1 n 0 w2 0 0 0 I_ ∧ jX12_holdsI a1 n 0 w2 0 0 0 I_ = R) ∧ I_ = I00) (K20 := fun w2 w3 w4 w5 I_ => (jX12_holdsO a1 n 1 w2 w3 w4 w5 I_ ∧ jX12_holdsI a1 n 1 w2 w3 w4 w5 I_ = R) ∧ I_ = I00) (K75 := fun w2 w3 w5 I_ => (jX12_holdsO a1 n 2 w2 w3 0 w5 I_ ∧ jX12_holdsI a1 n 2 w2 w3 0 w5 I_ = R) ∧ I_ = I00) (fun w2 I_ hw => ih.1 w2 I_ hw.2 hw.1.1 hw.1.2) (fun w2 w3 w4 w5 I_ hw => ih.2.1 w2 w3 w4 w5 I_ hw.2 hw.1.1 hw.1.2) (fun w2 w3 w5 I_ hw => ih.2.2 w2 w3 w5 I_ hw.2 hw.1.1 hw.1.2) v2 v3 v4 v5 I (by
          unfold fX12_holds_20
          exact ⟨fun hc1 => ⟨fun hc2 => ⟨(((hok).1 hc1).1 hc2).1, ⟨fun hc3 => ⟨⟨((((hok).1 hc1).1 hc2).2).1 hc3, by rw [jX12_holdsI_20, if_pos hc1, if_pos hc2, if_neg hc3] at hit; exact hit⟩, hI⟩, fun hc3 => ⟨by rw [jX12_holdsI_20, if_pos hc1, if_pos hc2, if_pos hc3] at hit; exact hit, rfl, hI⟩⟩⟩, fun hc2 => ⟨⟨((hok).1 hc1).2 hc2, by rw [jX12_holdsI_20, if_pos hc1, if_neg hc2] at hit; exact hit⟩, hI⟩⟩, fun hc1 => ⟨fun hc4 => ⟨⟨((hok).2 hc1).1 hc4, by rw [jX12_holdsI_20, if_neg hc1, if_neg hc4] at hit; exact hit⟩, hI⟩, fun hc4 => ⟨(((hok).2 hc1).2 hc4).1, ⟨fun hc5 => ⟨⟨((((hok).2 hc1).2 hc4).2).1 hc5, by rw [jX12_holdsI_20, if_neg hc1, if_pos hc4, if_neg hc5] at hit; exact hit⟩, hI⟩, fun hc5 => ⟨⟨((((hok).2 hc1).2 hc4).2).2 hc5, by rw [jX12_holdsI_20, if_neg hc1, if_pos hc4, if_pos hc5] at hit; exact hit⟩, hI⟩⟩⟩⟩⟩)
    · exact fun v2 v3 v5 I hI hok hit => by
        rw [jX12_holdsO_75] at hok
        exact sX12_holds_75 d hT a1   (K2 := fun w2 I_ => (jX12_holdsO a1 n 0 w2 0 0 0 I_ ∧ jX12_holdsI a1 n 0 w2 0 0 0 I_ = R) ∧ I_ = I00) (K20 := fun w2 w3 w4 w5 I_ => (jX12_holdsO a1 n 1 w2 w3 w4 w5 I_ ∧ jX12_holdsI a1 n 1 w2 w3 w4 w5 I_ = R) ∧ I_ = I00) (K75 := fun w2 w3 w5 I_ => (jX12_holdsO a1 n 2 w2 w3 0 w5 I_ ∧ jX12_holdsI a1 n 2 w2 w3 0 w5 I_ = R) ∧ I_ = I00) (fun w2 I_ hw => ih.1 w2 I_ hw.2 hw.1.1 hw.1.2) (fun w2 w3 w4 w5 I_ hw => ih.2.1 w2 w3 w4 w5 I_ hw.2 hw.1.1 hw.1.2) (fun w2 w3 w5 I_ hw => ih.2.2 w2 w3 w5 I_ hw.2 hw.1.1 hw.1.2) v2 v3 v5 I (by
          unfold fX12_holds_75
          exact ⟨fun hc1 => ⟨⟨(hok).1 hc1, by rw [jX12_holdsI_75, if_pos hc1] at hit; exact hit⟩, hI⟩, fun hc1 => ⟨fun hc2 => ⟨⟨((hok).2 hc1).1 hc2, by rw [jX12_holdsI_75, if_neg hc1, if_neg hc2] at hit; exact hit⟩, hI⟩, fun hc2 => ⟨(((hok).2 hc1).2 hc2).1, ⟨((((hok).2 hc1).2 hc2).2).1, ⟨fun hc3 => ⟨⟨(((((hok).2 hc1).2 hc2).2).2).1 hc3, by rw [jX12_holdsI_75, if_neg hc1, if_pos hc2, if_pos hc3] at hit; exact hit⟩, hI⟩, fun hc3 => ⟨by rw [jX12_holdsI_75, if_neg hc1, if_pos hc2, if_neg hc3] at hit; exact hit, rfl, hI⟩⟩⟩⟩⟩⟩)
set_option maxRecDepth 10000 in
set_option maxHeartbeats 1000000 in
theorem qX12_holds (d : Nat) {T : Topo} {I : IM} (hT : Lay T) (a1 : Int32)  (hp : (jX12_holdsK I a1)) : CtP (d + 3) mX12_holds [.ref 79, .int a1] T I (jX12_holds I a1) := by
  unfold jX12_holdsK at hp
  exact Ct.ofJ (by decide +kernel) rfl (by intro v hv; revert v hv; simp [Value.category]) rfl (sX12_holds_0 d hT a1   (K2 := fun w2 I_ => (jX12_holdsO a1 FU 0 w2 0 0 0 I_ ∧ jX12_holdsI a1 FU 0 w2 0 0 0 I_ = (jX12_holds I a1)) ∧ I_ = I) (K20 := fun w2 w3 w4 w5 I_ => (jX12_holdsO a1 FU 1 w2 w3 w4 w5 I_ ∧ jX12_holdsI a1 FU 1 w2 w3 w4 w5 I_ = (jX12_holds I a1)) ∧ I_ = I) (K75 := fun w2 w3 w5 I_ => (jX12_holdsO a1 FU 2 w2 w3 0 w5 I_ ∧ jX12_holdsI a1 FU 2 w2 w3 0 w5 I_ = (jX12_holds I a1)) ∧ I_ = I) (fun w2 I_ hw => (uX12_holds d hT a1   FU).1 w2 I_ hw.2 hw.1.1 hw.1.2) (fun w2 w3 w4 w5 I_ hw => (uX12_holds d hT a1   FU).2.1 w2 w3 w4 w5 I_ hw.2 hw.1.1 hw.1.2) (fun w2 w3 w5 I_ hw => (uX12_holds d hT a1   FU).2.2 w2 w3 w5 I_ hw.2 hw.1.1 hw.1.2) I (by
    unfold fX12_holds_0
    exact ⟨⟨hp, rfl⟩, rfl⟩))

def fX12_load_0 (T : Topo) (a1 : Int32) (a2 : Int32) (Q : Int32 → Topo → IM → Prop)  (I : IM) : Prop :=
  ((((¬ (wi a1 0 (I 79 1 - 1))) → (Q (jX12_finds (-1000001)) T (jX12_findsM I))) ∧ ((wi a1 0 (I 79 1 - 1)) → ((((¬ (wi a2 0 23)) → (Q (jX12_finds (-1000001)) T (jX12_findsM I))) ∧ ((wi a2 0 23) → (((jX12_countingAtK I a2)) ∧ (((jX12_loadOfK I a1 (jX12_countingAt I a2))) ∧ Q (jX12_loadOf I a1 (jX12_countingAt I a2)) T I))))))))
set_option maxHeartbeats 4000000 in
set_option maxRecDepth 100000 in
theorem sX12_load_0 (d : Nat) {T : Topo} (hT : Lay T) (a1 : Int32) (a2 : Int32)    {Q : Int32 → Topo → IM → Prop}   (I : IM) (h : fX12_load_0 T a1 a2 Q  I) : J (d + 3) mX12_load (PI Q) 0 0 0 [some (.ref 79), some (.int a1), some (.int a2)] [] T I 0 0 := by
  unfold fX12_load_0 at h
  refine J.aload_n dX12_load_0 rfl rfl ?_
  refine J.iload_n dX12_load_1 rfl rfl ?_
  refine J.callVP (k := 79) (as := [.int a1]) (rest := []) dX12_load_2 kX12_isLine vX12_isLine lX12_209 (hT.k 79 rfl) rfl rfl rfl rfl rfl (by omega) (Nat.le_refl _) (Nat.le_refl _) (qX12_isLine (d + 1) hT a1 ) ?_
  refine J.bz_eq (tgt := 28) dX12_load_5 (by decide) (fun hc1 => ?_) (fun hc1 => ?_)
  · have h := h.1 hc1
    refine J.aload_n dX12_load_28 rfl rfl ?_
    refine J.ldc (v := (-1000001)) dX12_load_29 kcX12_199 ?_
    refine J.callVE (k := 79) (as := [.int (-1000001)]) (rest := []) dX12_load_31 kX12_finds vX12_finds lX12_200 (hT.k 79 rfl) rfl rfl rfl rfl rfl (by omega) (Nat.le_refl _) (Nat.le_refl _) (qX12_finds (d + 2) hT (-1000001) ) ?_
    exact J.iretQ dX12_load_34 rfl (Nat.le_refl _) (Nat.le_refl _) h
  · have h := h.2 hc1
    refine J.iload_n dX12_load_8 rfl rfl ?_
    refine J.callSP (as := [.int a2]) (rest := []) dX12_load_9 kX12_isTick vX12_isTick lX12_239 rfl rfl rfl (by omega) (Nat.le_refl _) (Nat.le_refl _) (qX12_isTick (d + 1) hT a2 ) ?_
    refine J.bz_eq (tgt := 28) dX12_load_12 (by decide) (fun hc2 => ?_) (fun hc2 => ?_)
    · have h := h.1 hc2
      refine J.aload_n dX12_load_28 rfl rfl ?_
      refine J.ldc (v := (-1000001)) dX12_load_29 kcX12_199 ?_
      refine J.callVE (k := 79) (as := [.int (-1000001)]) (rest := []) dX12_load_31 kX12_finds vX12_finds lX12_200 (hT.k 79 rfl) rfl rfl rfl rfl rfl (by omega) (Nat.le_refl _) (Nat.le_refl _) (qX12_finds (d + 2) hT (-1000001) ) ?_
      exact J.iretQ dX12_load_34 rfl (Nat.le_refl _) (Nat.le_refl _) h
    · have h := h.2 hc2
      refine J.aload_n dX12_load_15 rfl rfl ?_
      refine J.iload_n dX12_load_16 rfl rfl ?_
      refine J.aload_n dX12_load_17 rfl rfl ?_
      refine J.iload_n dX12_load_18 rfl rfl ?_
      obtain ⟨hp3, h⟩ := h
      refine J.callVP (k := 79) (as := [.int a2]) (rest := [.int a1, .ref 79]) dX12_load_19 kX12_countingAt vX12_countingAt lX12_256 (hT.k 79 rfl) rfl rfl rfl rfl rfl (by omega) (Nat.le_refl _) (Nat.le_refl _) (qX12_countingAt (d + 0) hT a2 hp3) ?_
      obtain ⟨hp4, h⟩ := h
      refine J.callVP (k := 79) (as := [.int a1, .int (jX12_countingAt I a2)]) (rest := []) dX12_load_22 kX12_loadOf vX12_loadOf lX12_249 (hT.k 79 rfl) rfl rfl rfl rfl rfl (by omega) (Nat.le_refl _) (Nat.le_refl _) (qX12_loadOf (d + 1) hT a1 (jX12_countingAt I a2) hp4) ?_
      refine J.goto (tgt := 34) dX12_load_25 (by decide) ?_
      exact J.iretQ dX12_load_34 rfl (Nat.le_refl _) (Nat.le_refl _) h
set_option maxHeartbeats 4000000 in
set_option maxRecDepth 100000 in
theorem wX12_load (d : Nat) {T : Topo} (hT : Lay T) (a1 : Int32) (a2 : Int32)   {Q : Int32 → Topo → IM → Prop} {I : IM} (h : fX12_load_0 T a1 a2 Q I) : Ct (d + 3) mX12_load [.ref 79, .int a1, .int a2] T I 0 0 (PI Q) :=
  Ct.ofJ (by decide +kernel) rfl (by intro v hv; revert v hv; simp [Value.category]) rfl (sX12_load_0 d hT a1 a2   I h)

def jX12_load (I : IM) (a1 : Int32) (a2 : Int32) : Int32 := (if wi a1 0 (I 79 1 - 1) then (if wi a2 0 23 then (jX12_loadOf I a1 (jX12_countingAt I a2)) else (jX12_finds (-1000001))) else (jX12_finds (-1000001)))
def jX12_loadM (I : IM) (a1 : Int32) (a2 : Int32) : IM := (if wi a1 0 (I 79 1 - 1) then (if wi a2 0 23 then I else (jX12_findsM I)) else (jX12_findsM I))
def jX12_loadK (I : IM) (a1 : Int32) (a2 : Int32) : Prop := (((¬ (wi a1 0 (I 79 1 - 1))) → True) ∧ ((wi a1 0 (I 79 1 - 1)) → (((¬ (wi a2 0 23)) → True) ∧ ((wi a2 0 23) → (((jX12_countingAtK I a2)) ∧ ((jX12_loadOfK I a1 (jX12_countingAt I a2))))))))
set_option maxRecDepth 10000 in
theorem qX12_load (d : Nat) {T : Topo} {I : IM} (hT : Lay T) (a1 : Int32) (a2 : Int32)  (hp : (jX12_loadK I a1 a2)) : CtI (d + 3) mX12_load [.ref 79, .int a1, .int a2] T I (fun x_ J_ => x_ = (jX12_load I a1 a2) ∧ J_ = (jX12_loadM I a1 a2)) :=
  wX12_load d hT a1 a2   (by
  unfold fX12_load_0
  exact ⟨fun hc1 => ⟨rfl, by unfold jX12_load; rw [if_neg hc1], by unfold jX12_loadM; rw [if_neg hc1]⟩, fun hc1 => ⟨fun hc2 => ⟨rfl, by unfold jX12_load; rw [if_pos hc1, if_neg hc2], by unfold jX12_loadM; rw [if_pos hc1, if_neg hc2]⟩, fun hc2 => ⟨(((hp).2 hc1).2 hc2).1, ⟨(((hp).2 hc1).2 hc2).2, ⟨rfl, by unfold jX12_load; rw [if_pos hc1, if_pos hc2], by unfold jX12_loadM; rw [if_pos hc1, if_pos hc2]⟩⟩⟩⟩⟩)

def fX12_fallRoom_0 (T : Topo) (a1 : Int32) (a2 : Int32) (Q : Int32 → Topo → IM → Prop)  (I : IM) : Prop :=
  ((((¬ (wi a1 0 (I 79 1 - 1))) → (Q (jX12_finds (-1000001)) T (jX12_findsM I))) ∧ ((wi a1 0 (I 79 1 - 1)) → ((((¬ (wi a2 0 23)) → (Q (jX12_finds (-1000001)) T (jX12_findsM I))) ∧ ((wi a2 0 23) → (((jX12_countingAtK I a2)) ∧ (((jX12_fallOfK I a1 (jX12_countingAt I a2))) ∧ Q (jX12_fallOf I a1 (jX12_countingAt I a2)) T I))))))))
set_option maxHeartbeats 4000000 in
set_option maxRecDepth 100000 in
theorem sX12_fallRoom_0 (d : Nat) {T : Topo} (hT : Lay T) (a1 : Int32) (a2 : Int32)    {Q : Int32 → Topo → IM → Prop}   (I : IM) (h : fX12_fallRoom_0 T a1 a2 Q  I) : J (d + 3) mX12_fallRoom (PI Q) 0 0 0 [some (.ref 79), some (.int a1), some (.int a2)] [] T I 0 0 := by
  unfold fX12_fallRoom_0 at h
  refine J.aload_n dX12_fallRoom_0 rfl rfl ?_
  refine J.iload_n dX12_fallRoom_1 rfl rfl ?_
  refine J.callVP (k := 79) (as := [.int a1]) (rest := []) dX12_fallRoom_2 kX12_isLine vX12_isLine lX12_209 (hT.k 79 rfl) rfl rfl rfl rfl rfl (by omega) (Nat.le_refl _) (Nat.le_refl _) (qX12_isLine (d + 1) hT a1 ) ?_
  refine J.bz_eq (tgt := 28) dX12_fallRoom_5 (by decide) (fun hc1 => ?_) (fun hc1 => ?_)
  · have h := h.1 hc1
    refine J.aload_n dX12_fallRoom_28 rfl rfl ?_
    refine J.ldc (v := (-1000001)) dX12_fallRoom_29 kcX12_199 ?_
    refine J.callVE (k := 79) (as := [.int (-1000001)]) (rest := []) dX12_fallRoom_31 kX12_finds vX12_finds lX12_200 (hT.k 79 rfl) rfl rfl rfl rfl rfl (by omega) (Nat.le_refl _) (Nat.le_refl _) (qX12_finds (d + 2) hT (-1000001) ) ?_
    exact J.iretQ dX12_fallRoom_34 rfl (Nat.le_refl _) (Nat.le_refl _) h
  · have h := h.2 hc1
    refine J.iload_n dX12_fallRoom_8 rfl rfl ?_
    refine J.callSP (as := [.int a2]) (rest := []) dX12_fallRoom_9 kX12_isTick vX12_isTick lX12_239 rfl rfl rfl (by omega) (Nat.le_refl _) (Nat.le_refl _) (qX12_isTick (d + 1) hT a2 ) ?_
    refine J.bz_eq (tgt := 28) dX12_fallRoom_12 (by decide) (fun hc2 => ?_) (fun hc2 => ?_)
    · have h := h.1 hc2
      refine J.aload_n dX12_fallRoom_28 rfl rfl ?_
      refine J.ldc (v := (-1000001)) dX12_fallRoom_29 kcX12_199 ?_
      refine J.callVE (k := 79) (as := [.int (-1000001)]) (rest := []) dX12_fallRoom_31 kX12_finds vX12_finds lX12_200 (hT.k 79 rfl) rfl rfl rfl rfl rfl (by omega) (Nat.le_refl _) (Nat.le_refl _) (qX12_finds (d + 2) hT (-1000001) ) ?_
      exact J.iretQ dX12_fallRoom_34 rfl (Nat.le_refl _) (Nat.le_refl _) h
    · have h := h.2 hc2
      refine J.aload_n dX12_fallRoom_15 rfl rfl ?_
      refine J.iload_n dX12_fallRoom_16 rfl rfl ?_
      refine J.aload_n dX12_fallRoom_17 rfl rfl ?_
      refine J.iload_n dX12_fallRoom_18 rfl rfl ?_
      obtain ⟨hp3, h⟩ := h
      refine J.callVP (k := 79) (as := [.int a2]) (rest := [.int a1, .ref 79]) dX12_fallRoom_19 kX12_countingAt vX12_countingAt lX12_256 (hT.k 79 rfl) rfl rfl rfl rfl rfl (by omega) (Nat.le_refl _) (Nat.le_refl _) (qX12_countingAt (d + 0) hT a2 hp3) ?_
      obtain ⟨hp4, h⟩ := h
      refine J.callVP (k := 79) (as := [.int a1, .int (jX12_countingAt I a2)]) (rest := []) dX12_fallRoom_22 kX12_fallOf vX12_fallOf lX12_253 (hT.k 79 rfl) rfl rfl rfl rfl rfl (by omega) (Nat.le_refl _) (Nat.le_refl _) (qX12_fallOf (d + 1) hT a1 (jX12_countingAt I a2) hp4) ?_
      refine J.goto (tgt := 34) dX12_fallRoom_25 (by decide) ?_
      exact J.iretQ dX12_fallRoom_34 rfl (Nat.le_refl _) (Nat.le_refl _) h
set_option maxHeartbeats 4000000 in
set_option maxRecDepth 100000 in
theorem wX12_fallRoom (d : Nat) {T : Topo} (hT : Lay T) (a1 : Int32) (a2 : Int32)   {Q : Int32 → Topo → IM → Prop} {I : IM} (h : fX12_fallRoom_0 T a1 a2 Q I) : Ct (d + 3) mX12_fallRoom [.ref 79, .int a1, .int a2] T I 0 0 (PI Q) :=
  Ct.ofJ (by decide +kernel) rfl (by intro v hv; revert v hv; simp [Value.category]) rfl (sX12_fallRoom_0 d hT a1 a2   I h)

def jX12_fallRoom (I : IM) (a1 : Int32) (a2 : Int32) : Int32 := (if wi a1 0 (I 79 1 - 1) then (if wi a2 0 23 then (jX12_fallOf I a1 (jX12_countingAt I a2)) else (jX12_finds (-1000001))) else (jX12_finds (-1000001)))
def jX12_fallRoomM (I : IM) (a1 : Int32) (a2 : Int32) : IM := (if wi a1 0 (I 79 1 - 1) then (if wi a2 0 23 then I else (jX12_findsM I)) else (jX12_findsM I))
def jX12_fallRoomK (I : IM) (a1 : Int32) (a2 : Int32) : Prop := (((¬ (wi a1 0 (I 79 1 - 1))) → True) ∧ ((wi a1 0 (I 79 1 - 1)) → (((¬ (wi a2 0 23)) → True) ∧ ((wi a2 0 23) → (((jX12_countingAtK I a2)) ∧ ((jX12_fallOfK I a1 (jX12_countingAt I a2))))))))
set_option maxRecDepth 10000 in
theorem qX12_fallRoom (d : Nat) {T : Topo} {I : IM} (hT : Lay T) (a1 : Int32) (a2 : Int32)  (hp : (jX12_fallRoomK I a1 a2)) : CtI (d + 3) mX12_fallRoom [.ref 79, .int a1, .int a2] T I (fun x_ J_ => x_ = (jX12_fallRoom I a1 a2) ∧ J_ = (jX12_fallRoomM I a1 a2)) :=
  wX12_fallRoom d hT a1 a2   (by
  unfold fX12_fallRoom_0
  exact ⟨fun hc1 => ⟨rfl, by unfold jX12_fallRoom; rw [if_neg hc1], by unfold jX12_fallRoomM; rw [if_neg hc1]⟩, fun hc1 => ⟨fun hc2 => ⟨rfl, by unfold jX12_fallRoom; rw [if_pos hc1, if_neg hc2], by unfold jX12_fallRoomM; rw [if_pos hc1, if_neg hc2]⟩, fun hc2 => ⟨(((hp).2 hc1).2 hc2).1, ⟨(((hp).2 hc1).2 hc2).2, ⟨rfl, by unfold jX12_fallRoom; rw [if_pos hc1, if_pos hc2], by unfold jX12_fallRoomM; rw [if_pos hc1, if_pos hc2]⟩⟩⟩⟩⟩)

def fX12_work_0 (T : Topo) (a1 : Int32) (a2 : Int32) (Q : Int32 → Topo → IM → Prop)  (I : IM) : Prop :=
  ((((¬ (wi a1 0 (I 79 0 - 1))) → (Q (jX12_finds (-1000001)) T (jX12_findsM I))) ∧ ((wi a1 0 (I 79 0 - 1)) → ((((¬ (wi a2 0 23)) → (Q (jX12_finds (-1000001)) T (jX12_findsM I))) ∧ ((wi a2 0 23) → (((jX12_countingAtK I a2)) ∧ (((jX12_workOfK I a1 (jX12_countingAt I a2))) ∧ Q (jX12_workOf I a1 (jX12_countingAt I a2)) T I))))))))
set_option maxHeartbeats 4000000 in
set_option maxRecDepth 100000 in
theorem sX12_work_0 (d : Nat) {T : Topo} (hT : Lay T) (a1 : Int32) (a2 : Int32)    {Q : Int32 → Topo → IM → Prop}   (I : IM) (h : fX12_work_0 T a1 a2 Q  I) : J (d + 3) mX12_work (PI Q) 0 0 0 [some (.ref 79), some (.int a1), some (.int a2)] [] T I 0 0 := by
  unfold fX12_work_0 at h
  refine J.aload_n dX12_work_0 rfl rfl ?_
  refine J.iload_n dX12_work_1 rfl rfl ?_
  refine J.callVP (k := 79) (as := [.int a1]) (rest := []) dX12_work_2 kX12_isNode vX12_isNode lX12_205 (hT.k 79 rfl) rfl rfl rfl rfl rfl (by omega) (Nat.le_refl _) (Nat.le_refl _) (qX12_isNode (d + 1) hT a1 ) ?_
  refine J.bz_eq (tgt := 28) dX12_work_5 (by decide) (fun hc1 => ?_) (fun hc1 => ?_)
  · have h := h.1 hc1
    refine J.aload_n dX12_work_28 rfl rfl ?_
    refine J.ldc (v := (-1000001)) dX12_work_29 kcX12_199 ?_
    refine J.callVE (k := 79) (as := [.int (-1000001)]) (rest := []) dX12_work_31 kX12_finds vX12_finds lX12_200 (hT.k 79 rfl) rfl rfl rfl rfl rfl (by omega) (Nat.le_refl _) (Nat.le_refl _) (qX12_finds (d + 2) hT (-1000001) ) ?_
    exact J.iretQ dX12_work_34 rfl (Nat.le_refl _) (Nat.le_refl _) h
  · have h := h.2 hc1
    refine J.iload_n dX12_work_8 rfl rfl ?_
    refine J.callSP (as := [.int a2]) (rest := []) dX12_work_9 kX12_isTick vX12_isTick lX12_239 rfl rfl rfl (by omega) (Nat.le_refl _) (Nat.le_refl _) (qX12_isTick (d + 1) hT a2 ) ?_
    refine J.bz_eq (tgt := 28) dX12_work_12 (by decide) (fun hc2 => ?_) (fun hc2 => ?_)
    · have h := h.1 hc2
      refine J.aload_n dX12_work_28 rfl rfl ?_
      refine J.ldc (v := (-1000001)) dX12_work_29 kcX12_199 ?_
      refine J.callVE (k := 79) (as := [.int (-1000001)]) (rest := []) dX12_work_31 kX12_finds vX12_finds lX12_200 (hT.k 79 rfl) rfl rfl rfl rfl rfl (by omega) (Nat.le_refl _) (Nat.le_refl _) (qX12_finds (d + 2) hT (-1000001) ) ?_
      exact J.iretQ dX12_work_34 rfl (Nat.le_refl _) (Nat.le_refl _) h
    · have h := h.2 hc2
      refine J.aload_n dX12_work_15 rfl rfl ?_
      refine J.iload_n dX12_work_16 rfl rfl ?_
      refine J.aload_n dX12_work_17 rfl rfl ?_
      refine J.iload_n dX12_work_18 rfl rfl ?_
      obtain ⟨hp3, h⟩ := h
      refine J.callVP (k := 79) (as := [.int a2]) (rest := [.int a1, .ref 79]) dX12_work_19 kX12_countingAt vX12_countingAt lX12_256 (hT.k 79 rfl) rfl rfl rfl rfl rfl (by omega) (Nat.le_refl _) (Nat.le_refl _) (qX12_countingAt (d + 0) hT a2 hp3) ?_
      obtain ⟨hp4, h⟩ := h
      refine J.callVP (k := 79) (as := [.int a1, .int (jX12_countingAt I a2)]) (rest := []) dX12_work_22 kX12_workOf vX12_workOf lX12_262 (hT.k 79 rfl) rfl rfl rfl rfl rfl (by omega) (Nat.le_refl _) (Nat.le_refl _) (qX12_workOf (d + 1) hT a1 (jX12_countingAt I a2) hp4) ?_
      refine J.goto (tgt := 34) dX12_work_25 (by decide) ?_
      exact J.iretQ dX12_work_34 rfl (Nat.le_refl _) (Nat.le_refl _) h
set_option maxHeartbeats 4000000 in
set_option maxRecDepth 100000 in
theorem wX12_work (d : Nat) {T : Topo} (hT : Lay T) (a1 : Int32) (a2 : Int32)   {Q : Int32 → Topo → IM → Prop} {I : IM} (h : fX12_work_0 T a1 a2 Q I) : Ct (d + 3) mX12_work [.ref 79, .int a1, .int a2] T I 0 0 (PI Q) :=
  Ct.ofJ (by decide +kernel) rfl (by intro v hv; revert v hv; simp [Value.category]) rfl (sX12_work_0 d hT a1 a2   I h)

def jX12_work (I : IM) (a1 : Int32) (a2 : Int32) : Int32 := (if wi a1 0 (I 79 0 - 1) then (if wi a2 0 23 then (jX12_workOf I a1 (jX12_countingAt I a2)) else (jX12_finds (-1000001))) else (jX12_finds (-1000001)))
def jX12_workM (I : IM) (a1 : Int32) (a2 : Int32) : IM := (if wi a1 0 (I 79 0 - 1) then (if wi a2 0 23 then I else (jX12_findsM I)) else (jX12_findsM I))
def jX12_workK (I : IM) (a1 : Int32) (a2 : Int32) : Prop := (((¬ (wi a1 0 (I 79 0 - 1))) → True) ∧ ((wi a1 0 (I 79 0 - 1)) → (((¬ (wi a2 0 23)) → True) ∧ ((wi a2 0 23) → (((jX12_countingAtK I a2)) ∧ ((jX12_workOfK I a1 (jX12_countingAt I a2))))))))
set_option maxRecDepth 10000 in
theorem qX12_work (d : Nat) {T : Topo} {I : IM} (hT : Lay T) (a1 : Int32) (a2 : Int32)  (hp : (jX12_workK I a1 a2)) : CtI (d + 3) mX12_work [.ref 79, .int a1, .int a2] T I (fun x_ J_ => x_ = (jX12_work I a1 a2) ∧ J_ = (jX12_workM I a1 a2)) :=
  wX12_work d hT a1 a2   (by
  unfold fX12_work_0
  exact ⟨fun hc1 => ⟨rfl, by unfold jX12_work; rw [if_neg hc1], by unfold jX12_workM; rw [if_neg hc1]⟩, fun hc1 => ⟨fun hc2 => ⟨rfl, by unfold jX12_work; rw [if_pos hc1, if_neg hc2], by unfold jX12_workM; rw [if_pos hc1, if_neg hc2]⟩, fun hc2 => ⟨(((hp).2 hc1).2 hc2).1, ⟨(((hp).2 hc1).2 hc2).2, ⟨rfl, by unfold jX12_work; rw [if_pos hc1, if_pos hc2], by unfold jX12_workM; rw [if_pos hc1, if_pos hc2]⟩⟩⟩⟩⟩)

def fX12_leftOf_0 (T : Topo) (a1 : Int32) (a2 : Int32) (Q : Int32 → Topo → IM → Prop)  (I : IM) : Prop :=
  (((jX12_countingAtK I a2)) ∧ (vp_in a1 9 ∧ (((jX12_loadOfK I a1 (jX12_countingAt I a2))) ∧ (((jX12_fallOfK I a1 (jX12_countingAt I a2))) ∧ Q (((I 83 a1.toNatClampNeg) - (jX12_loadOf I a1 (jX12_countingAt I a2))) - (jX12_fallOf I a1 (jX12_countingAt I a2))) T I))))
set_option maxHeartbeats 4000000 in
set_option maxRecDepth 100000 in
theorem sX12_leftOf_0 (d : Nat) {T : Topo} (hT : Lay T) (a1 : Int32) (a2 : Int32)    {Q : Int32 → Topo → IM → Prop}   (I : IM) (h : fX12_leftOf_0 T a1 a2 Q  I) : J (d + 3) mX12_leftOf (PI Q) 0 0 0 [some (.ref 79), some (.int a1), some (.int a2), none] [] T I 0 0 := by
  unfold fX12_leftOf_0 at h
  refine J.aload_n dX12_leftOf_0 rfl rfl ?_
  refine J.iload_n dX12_leftOf_1 rfl rfl ?_
  obtain ⟨hp1, h⟩ := h
  refine J.callVP (k := 79) (as := [.int a2]) (rest := []) dX12_leftOf_2 kX12_countingAt vX12_countingAt lX12_256 (hT.k 79 rfl) rfl rfl rfl rfl rfl (by omega) (Nat.le_refl _) (Nat.le_refl _) (qX12_countingAt (d + 0) hT a2 hp1) ?_
  refine J.istore_n (ls' := [some (.ref 79), some (.int a1), some (.int a2), some (.int (jX12_countingAt I a2))]) dX12_leftOf_5 rfl rfl rfl ?_
  refine J.aload_n dX12_leftOf_6 rfl rfl ?_
  refine J.getR (r := 83) dX12_leftOf_7 fX12_23 (hT.k 79 rfl) rfl (hT.r 79 12 rfl rfl) ?_
  refine J.iload_n dX12_leftOf_10 rfl rfl ?_
  obtain ⟨hs2, h⟩ := h
  refine J.iald dX12_leftOf_11 (hT.k 83 rfl) (hT.l 83 rfl) hs2 ?_
  refine J.aload_n dX12_leftOf_12 rfl rfl ?_
  refine J.iload_n dX12_leftOf_13 rfl rfl ?_
  refine J.iload_n dX12_leftOf_14 rfl rfl ?_
  obtain ⟨hp3, h⟩ := h
  refine J.callVP (k := 79) (as := [.int a1, .int (jX12_countingAt I a2)]) (rest := [.int (I 83 a1.toNatClampNeg)]) dX12_leftOf_15 kX12_loadOf vX12_loadOf lX12_249 (hT.k 79 rfl) rfl rfl rfl rfl rfl (by omega) (Nat.le_refl _) (Nat.le_refl _) (qX12_loadOf (d + 1) hT a1 (jX12_countingAt I a2) hp3) ?_
  refine J.isub dX12_leftOf_18 ?_
  refine J.aload_n dX12_leftOf_19 rfl rfl ?_
  refine J.iload_n dX12_leftOf_20 rfl rfl ?_
  refine J.iload_n dX12_leftOf_21 rfl rfl ?_
  obtain ⟨hp4, h⟩ := h
  refine J.callVP (k := 79) (as := [.int a1, .int (jX12_countingAt I a2)]) (rest := [.int ((I 83 a1.toNatClampNeg) - (jX12_loadOf I a1 (jX12_countingAt I a2)))]) dX12_leftOf_22 kX12_fallOf vX12_fallOf lX12_253 (hT.k 79 rfl) rfl rfl rfl rfl rfl (by omega) (Nat.le_refl _) (Nat.le_refl _) (qX12_fallOf (d + 1) hT a1 (jX12_countingAt I a2) hp4) ?_
  refine J.isub dX12_leftOf_25 ?_
  exact J.iretQ dX12_leftOf_26 rfl (Nat.le_refl _) (Nat.le_refl _) h
set_option maxHeartbeats 4000000 in
set_option maxRecDepth 100000 in
theorem wX12_leftOf (d : Nat) {T : Topo} (hT : Lay T) (a1 : Int32) (a2 : Int32)   {Q : Int32 → Topo → IM → Prop} {I : IM} (h : fX12_leftOf_0 T a1 a2 Q I) : Ct (d + 3) mX12_leftOf [.ref 79, .int a1, .int a2] T I 0 0 (PI Q) :=
  Ct.ofJ (by decide +kernel) rfl (by intro v hv; revert v hv; simp [Value.category]) rfl (sX12_leftOf_0 d hT a1 a2   I h)

def jX12_leftOf (I : IM) (a1 : Int32) (a2 : Int32) : Int32 := (((I 83 a1.toNatClampNeg) - (jX12_loadOf I a1 (jX12_countingAt I a2))) - (jX12_fallOf I a1 (jX12_countingAt I a2)))
def jX12_leftOfK (I : IM) (a1 : Int32) (a2 : Int32) : Prop := (((jX12_countingAtK I a2)) ∧ (vp_in a1 9 ∧ (((jX12_loadOfK I a1 (jX12_countingAt I a2))) ∧ ((jX12_fallOfK I a1 (jX12_countingAt I a2))))))
set_option maxRecDepth 10000 in
theorem qX12_leftOf (d : Nat) {T : Topo} {I : IM} (hT : Lay T) (a1 : Int32) (a2 : Int32)  (hp : (jX12_leftOfK I a1 a2)) : CtP (d + 3) mX12_leftOf [.ref 79, .int a1, .int a2] T I ((jX12_leftOf I a1 a2)) :=
  wX12_leftOf d hT a1 a2   (by
  unfold fX12_leftOf_0
  exact ⟨(hp).1, ⟨((hp).2).1, ⟨(((hp).2).2).1, ⟨(((hp).2).2).2, ⟨by unfold jX12_leftOf; rfl, rfl, rfl⟩⟩⟩⟩⟩)

def fX12_spare_0 (T : Topo) (a1 : Int32) (Q : Int32 → Topo → IM → Prop) (K20 : Int32 → Int32 → IM → Prop) (I : IM) : Prop :=
  ((((wi a1 0 (I 79 1 - 1)) → K20 50 0 I) ∧ ((¬ (wi a1 0 (I 79 1 - 1))) → (Q (jX12_finds (-1000001)) T (jX12_findsM I)))))
def fX12_spare_20 (T : Topo) (a1 : Int32) (Q : Int32 → Topo → IM → Prop) (K20 : Int32 → Int32 → IM → Prop) (v2 v3 : Int32) (I : IM) : Prop :=
  (((24 ≤ v3) → Q v2 T I) ∧ ((¬ 24 ≤ v3) → (((jX12_leftOfK I a1 v3)) ∧ (((v2 ≤ (jX12_leftOf I a1 v3)) → K20 v2 (v3 + 1) I) ∧ ((¬ v2 ≤ (jX12_leftOf I a1 v3)) → (((jX12_leftOfK I a1 v3)) ∧ K20 (jX12_leftOf I a1 v3) (v3 + 1) I))))))
set_option maxHeartbeats 4000000 in
set_option maxRecDepth 100000 in
theorem sX12_spare_0 (d : Nat) {T : Topo} (hT : Lay T) (a1 : Int32)    {Q : Int32 → Topo → IM → Prop} {K20 : Int32 → Int32 → IM → Prop} (hK20 : ∀ (v2 v3 : Int32) (I : IM), K20 v2 v3 I → J (d + 4) mX12_spare (PI Q) 0 0 20 [some (.ref 79), some (.int a1), some (.int v2), some (.int v3)] [] T I 0 0) (I : IM) (h : fX12_spare_0 T a1 Q K20 I) : J (d + 4) mX12_spare (PI Q) 0 0 0 [some (.ref 79), some (.int a1), none, none] [] T I 0 0 := by
  unfold fX12_spare_0 at h
  refine J.aload_n dX12_spare_0 rfl rfl ?_
  refine J.iload_n dX12_spare_1 rfl rfl ?_
  refine J.callVP (k := 79) (as := [.int a1]) (rest := []) dX12_spare_2 kX12_isLine vX12_isLine lX12_209 (hT.k 79 rfl) rfl rfl rfl rfl rfl (by omega) (Nat.le_refl _) (Nat.le_refl _) (qX12_isLine (d + 2) hT a1 ) ?_
  refine J.bz_ne (tgt := 15) dX12_spare_5 (by decide) (fun hc1 => ?_) (fun hc1 => ?_)
  · have h := h.1 hc1
    refine J.bipush (v := 50) dX12_spare_15 (by decide) ?_
    refine J.istore_n (ls' := [some (.ref 79), some (.int a1), some (.int 50), none]) dX12_spare_17 rfl rfl rfl ?_
    refine J.iconst (v := 0) dX12_spare_18 (by decide) ?_
    refine J.istore_n (ls' := [some (.ref 79), some (.int a1), some (.int 50), some (.int 0)]) dX12_spare_19 rfl rfl rfl ?_
    exact J.weaken (ls' := [some (.ref 79), some (.int a1), some (.int 50), some (.int 0)]) (And.intro rfl (And.intro rfl (And.intro rfl (And.intro rfl trivial)))) (hK20 50 0 I h)
  · have h := h.2 hc1
    refine J.aload_n dX12_spare_8 rfl rfl ?_
    refine J.ldc (v := (-1000001)) dX12_spare_9 kcX12_199 ?_
    refine J.callVE (k := 79) (as := [.int (-1000001)]) (rest := []) dX12_spare_11 kX12_finds vX12_finds lX12_200 (hT.k 79 rfl) rfl rfl rfl rfl rfl (by omega) (Nat.le_refl _) (Nat.le_refl _) (qX12_finds (d + 3) hT (-1000001) ) ?_
    exact J.iretQ dX12_spare_14 rfl (Nat.le_refl _) (Nat.le_refl _) h
set_option maxHeartbeats 4000000 in
set_option maxRecDepth 100000 in
theorem sX12_spare_20 (d : Nat) {T : Topo} (hT : Lay T) (a1 : Int32)    {Q : Int32 → Topo → IM → Prop} {K20 : Int32 → Int32 → IM → Prop} (hK20 : ∀ (v2 v3 : Int32) (I : IM), K20 v2 v3 I → J (d + 4) mX12_spare (PI Q) 0 0 20 [some (.ref 79), some (.int a1), some (.int v2), some (.int v3)] [] T I 0 0) (v2 v3 : Int32) (I : IM) (h : fX12_spare_20 T a1 Q K20 v2 v3 I) : J (d + 4) mX12_spare (PI Q) 0 0 20 [some (.ref 79), some (.int a1), some (.int v2), some (.int v3)] [] T I 0 0 := by
  unfold fX12_spare_20 at h
  refine J.iload_n dX12_spare_20 rfl rfl ?_
  refine J.bipush (v := 24) dX12_spare_21 (by decide) ?_
  refine J.icmp_ge (tgt := 53) dX12_spare_23 (by decide) (fun hc1 => ?_) (fun hc1 => ?_)
  · have h := h.1 hc1
    refine J.iload_n dX12_spare_53 rfl rfl ?_
    exact J.iretQ dX12_spare_54 rfl (Nat.le_refl _) (Nat.le_refl _) h
  · have h := h.2 hc1
    refine J.aload_n dX12_spare_26 rfl rfl ?_
    refine J.iload_n dX12_spare_27 rfl rfl ?_
    refine J.iload_n dX12_spare_28 rfl rfl ?_
    obtain ⟨hp2, h⟩ := h
    refine J.callVP (k := 79) (as := [.int a1, .int v3]) (rest := []) dX12_spare_29 kX12_leftOf vX12_leftOf lX12_265 (hT.k 79 rfl) rfl rfl rfl rfl rfl (by omega) (Nat.le_refl _) (Nat.le_refl _) (qX12_leftOf (d + 0) hT a1 v3 hp2) ?_
    refine J.iload_n dX12_spare_32 rfl rfl ?_
    refine J.icmp_ge (tgt := 45) dX12_spare_33 (by decide) (fun hc3 => ?_) (fun hc3 => ?_)
    · have h := h.1 hc3
      refine J.iload_n dX12_spare_45 rfl rfl ?_
      refine J.istore_n (ls' := [some (.ref 79), some (.int a1), some (.int v2), some (.int v3)]) dX12_spare_46 rfl rfl rfl ?_
      refine J.iinc (v := (v3 + 1)) (ls' := [some (.ref 79), some (.int a1), some (.int v2), some (.int (v3 + 1))]) dX12_spare_47 rfl (by rfl) rfl ?_
      refine J.goto (tgt := 20) dX12_spare_50 (by decide) ?_
      exact J.weaken (ls' := [some (.ref 79), some (.int a1), some (.int v2), some (.int (v3 + 1))]) (And.intro rfl (And.intro rfl (And.intro rfl (And.intro rfl trivial)))) (hK20 v2 (v3 + 1) I h)
    · have h := h.2 hc3
      refine J.aload_n dX12_spare_36 rfl rfl ?_
      refine J.iload_n dX12_spare_37 rfl rfl ?_
      refine J.iload_n dX12_spare_38 rfl rfl ?_
      obtain ⟨hp4, h⟩ := h
      refine J.callVP (k := 79) (as := [.int a1, .int v3]) (rest := []) dX12_spare_39 kX12_leftOf vX12_leftOf lX12_265 (hT.k 79 rfl) rfl rfl rfl rfl rfl (by omega) (Nat.le_refl _) (Nat.le_refl _) (qX12_leftOf (d + 0) hT a1 v3 hp4) ?_
      refine J.goto (tgt := 46) dX12_spare_42 (by decide) ?_
      refine J.istore_n (ls' := [some (.ref 79), some (.int a1), some (.int (jX12_leftOf I a1 v3)), some (.int v3)]) dX12_spare_46 rfl rfl rfl ?_
      refine J.iinc (v := (v3 + 1)) (ls' := [some (.ref 79), some (.int a1), some (.int (jX12_leftOf I a1 v3)), some (.int (v3 + 1))]) dX12_spare_47 rfl (by rfl) rfl ?_
      refine J.goto (tgt := 20) dX12_spare_50 (by decide) ?_
      exact J.weaken (ls' := [some (.ref 79), some (.int a1), some (.int (jX12_leftOf I a1 v3)), some (.int (v3 + 1))]) (And.intro rfl (And.intro rfl (And.intro rfl (And.intro rfl trivial)))) (hK20 (jX12_leftOf I a1 v3) (v3 + 1) I h)
set_option maxHeartbeats 4000000 in
set_option maxRecDepth 100000 in
theorem wX12_spare (d : Nat) {T : Topo} (hT : Lay T) (a1 : Int32)   {Q : Int32 → Topo → IM → Prop} (V20 : Int32 → Int32 → IM → Prop) (μ20 : Int32 → Int32 → IM → Nat) (vc20 : ∀ (v2 v3 : Int32) (I : IM), V20 v2 v3 I → fX12_spare_20 T a1 Q (fun w2 w3 I_ => V20 w2 w3 I_ ∧ μ20 w2 w3 I_ < μ20 v2 v3 I) v2 v3 I) {I : IM} (h : fX12_spare_0 T a1 Q V20 I) : Ct (d + 4) mX12_spare [.ref 79, .int a1] T I 0 0 (PI Q) := by
  have all : ∀ n : Nat, (∀ (v2 v3 : Int32) (I : IM), V20 v2 v3 I → μ20 v2 v3 I < n → J (d + 4) mX12_spare (PI Q) 0 0 20 [some (.ref 79), some (.int a1), some (.int v2), some (.int v3)] [] T I 0 0) := by
    intro n
    induction n with
    | zero => exact fun _ _ _ _ hn => absurd hn (Nat.not_lt_zero _)
    | succ n ih =>
      exact fun v2 v3 I hv hn => sX12_spare_20 d hT a1   (fun w2 w3 I_ hw => ih w2 w3 I_ hw.1 (by have := hw.2; omega)) v2 v3 I (vc20 v2 v3 I hv)
  exact Ct.ofJ (by decide +kernel) rfl (by intro v hv; revert v hv; simp [Value.category]) rfl (sX12_spare_0 d hT a1   (fun w2 w3 I_ hw => (all (μ20 w2 w3 I_ + 1)) w2 w3 I_ hw (Nat.lt_succ_self _)) I h)

def jX12_spareI (a1 : Int32) : Nat → Int32 → Int32 → IM → Int32 × IM
  | 0 => fun _ _ I => (0, I)
  | n + 1 => fun v2 v3 I => (if 24 ≤ v3 then (v2, I) else (if v2 ≤ (jX12_leftOf I a1 v3) then (jX12_spareI a1 n v2 (v3 + 1) I) else (jX12_spareI a1 n (jX12_leftOf I a1 v3) (v3 + 1) I)))
def jX12_spareO (a1 : Int32) : Nat → Int32 → Int32 → IM → Prop
  | 0 => fun _ _ _ => False
  | n + 1 => fun v2 v3 I => (((24 ≤ v3) → True) ∧ ((¬ 24 ≤ v3) → (((jX12_leftOfK I a1 v3)) ∧ (((v2 ≤ (jX12_leftOf I a1 v3)) → (jX12_spareO a1 n v2 (v3 + 1) I)) ∧ ((¬ v2 ≤ (jX12_leftOf I a1 v3)) → (((jX12_leftOfK I a1 v3)) ∧ (jX12_spareO a1 n (jX12_leftOf I a1 v3) (v3 + 1) I)))))))
theorem jX12_spareI_20 (a1 : Int32) (n : Nat) (v2 v3 : Int32) (I : IM) : jX12_spareI a1 (n + 1) v2 v3 I = (if 24 ≤ v3 then (v2, I) else (if v2 ≤ (jX12_leftOf I a1 v3) then (jX12_spareI a1 n v2 (v3 + 1) I) else (jX12_spareI a1 n (jX12_leftOf I a1 v3) (v3 + 1) I))) := rfl
theorem jX12_spareO_20 (a1 : Int32) (n : Nat) (v2 v3 : Int32) (I : IM) : jX12_spareO a1 (n + 1) v2 v3 I = (((24 ≤ v3) → True) ∧ ((¬ 24 ≤ v3) → (((jX12_leftOfK I a1 v3)) ∧ (((v2 ≤ (jX12_leftOf I a1 v3)) → (jX12_spareO a1 n v2 (v3 + 1) I)) ∧ ((¬ v2 ≤ (jX12_leftOf I a1 v3)) → (((jX12_leftOfK I a1 v3)) ∧ (jX12_spareO a1 n (jX12_leftOf I a1 v3) (v3 + 1) I))))))) := rfl
def jX12_spare (I : IM) (a1 : Int32) : Int32 × IM := (if wi a1 0 (I 79 1 - 1) then (jX12_spareI a1 FU 50 0 I) else ((jX12_finds (-1000001)), (jX12_findsM I)))
def jX12_spareK (I : IM) (a1 : Int32) : Prop := (((wi a1 0 (I 79 1 - 1)) → (jX12_spareO a1 FU 50 0 I)) ∧ ((¬ (wi a1 0 (I 79 1 - 1))) → True))
set_option maxRecDepth 10000 in
set_option maxHeartbeats 1000000 in
theorem uX12_spare (d : Nat) {T : Topo} (hT : Lay T) (a1 : Int32)   {R : Int32 × IM} : ∀ n : Nat, (∀ (v2 v3 : Int32) (I : IM), jX12_spareO a1 n v2 v3 I → jX12_spareI a1 n v2 v3 I = R → J (d + 4) mX12_spare (PI (fun x T' I' => T' = T ∧ x = R.1 ∧ I' = R.2)) 0 0 20 [some (.ref 79), some (.int a1), some (.int v2), some (.int v3)] [] T I 0 0) := by
  intro n
  induction n with
  | zero => exact fun _ _ _ hz => hz.elim
  | succ n ih =>
    exact fun v2 v3 I hok hit => by
        rw [jX12_spareO_20] at hok
        exact sX12_spare_20 d hT a1   (K20 := fun w2 w3 I_ => (jX12_spareO a1 n w2 w3 I_ ∧ jX12_spareI a1 n w2 w3 I_ = R)) (fun w2 w3 I_ hw => ih w2 w3 I_ hw.1 hw.2) v2 v3 I (by
          unfold fX12_spare_20
          exact ⟨fun hc1 => (by rw [jX12_spareI_20, if_pos hc1] at hit; exact ⟨rfl, by rw [← hit], by rw [← hit]⟩), fun hc1 => ⟨((hok).2 hc1).1, ⟨fun hc2 => ⟨(((hok).2 hc1).2).1 hc2, by rw [jX12_spareI_20, if_neg hc1, if_pos hc2] at hit; exact hit⟩, fun hc2 => ⟨((((hok).2 hc1).2).2 hc2).1, ⟨((((hok).2 hc1).2).2 hc2).2, by rw [jX12_spareI_20, if_neg hc1, if_neg hc2] at hit; exact hit⟩⟩⟩⟩⟩)
set_option maxRecDepth 10000 in
set_option maxHeartbeats 1000000 in
theorem qX12_spare (d : Nat) {T : Topo} {I : IM} (hT : Lay T) (a1 : Int32)  (hp : (jX12_spareK I a1)) : CtI (d + 4) mX12_spare [.ref 79, .int a1] T I (fun x_ J_ => x_ = (jX12_spare I a1).1 ∧ J_ = (jX12_spare I a1).2) := by
  unfold jX12_spareK at hp
  exact Ct.ofJ (by decide +kernel) rfl (by intro v hv; revert v hv; simp [Value.category]) rfl (sX12_spare_0 d hT a1   (K20 := fun w2 w3 I_ => (jX12_spareO a1 FU w2 w3 I_ ∧ jX12_spareI a1 FU w2 w3 I_ = (jX12_spare I a1))) (fun w2 w3 I_ hw => uX12_spare d hT a1   FU w2 w3 I_ hw.1 hw.2) I (by
    unfold fX12_spare_0
    exact ⟨fun hc1 => ⟨(hp).1 hc1, by unfold jX12_spare; rw [if_pos hc1]⟩, fun hc1 => ⟨rfl, by unfold jX12_spare; rw [if_neg hc1], by unfold jX12_spare; rw [if_neg hc1]⟩⟩))

def fX12_findCut_0 (T : Topo) (a1 : Int32) (a2 : Int32) (a3 : Int32) (Q : Topo → IM → Prop) (K10 : Int32 → IM → Prop) (K48 : Int32 → Int32 → Int32 → IM → Prop) (I : IM) : Prop :=
  K10 0 (up2 I 79 54 1000000)
def fX12_findCut_10 (T : Topo) (a1 : Int32) (a2 : Int32) (a3 : Int32) (Q : Topo → IM → Prop) (K10 : Int32 → IM → Prop) (K48 : Int32 → Int32 → Int32 → IM → Prop) (v4 : Int32) (I : IM) : Prop :=
  (((((1 : Int32) <<< ((I 79 0) &&& 31)) ≤ v4) → Q T I) ∧ ((¬ ((1 : Int32) <<< ((I 79 0) &&& 31)) ≤ v4) → ((((¬ (hs v4 a1)) → K10 (v4 + 1) I) ∧ ((hs v4 a1) → ((((¬ (hs v4 a2)) → K48 v4 0 0 I) ∧ ((hs v4 a2) → K10 (v4 + 1) I))))))))
def fX12_findCut_48 (T : Topo) (a1 : Int32) (a2 : Int32) (a3 : Int32) (Q : Topo → IM → Prop) (K10 : Int32 → IM → Prop) (K48 : Int32 → Int32 → Int32 → IM → Prop) (v4 v5 v6 : Int32) (I : IM) : Prop :=
  ((((I 79 1) ≤ v6) → ((((I 79 54) < v5) → K10 (v4 + 1) I) ∧ ((¬ (I 79 54) < v5) → (((¬ v5 = (I 79 54)) → K10 (v4 + 1) (up2 (up2 I 79 54 v5) 79 53 v4)) ∧ ((v5 = (I 79 54)) → (((jX12_onesK I v4)) ∧ (((jX12_onesK I (I 79 53))) ∧ ((((jX12_ones I v4) < (jX12_ones I (I 79 53))) → K10 (v4 + 1) (up2 (up2 I 79 54 v5) 79 53 v4)) ∧ ((¬ (jX12_ones I v4) < (jX12_ones I (I 79 53))) → K10 (v4 + 1) I))))))))) ∧ ((¬ (I 79 1) ≤ v6) → (vp_in v6 9 ∧ ((((I 89 v6.toNatClampNeg) = 0) → K48 v4 (v5 + 0) (v6 + 1) I) ∧ ((¬ (I 89 v6.toNatClampNeg) = 0) → (vp_in v6 9 ∧ ((vp_in v6 9 ∧ (((((bI (hs v4 (I 81 v6.toNatClampNeg))) = (bI (hs v4 (I 82 v6.toNatClampNeg)))) → K48 v4 (v5 + 0) (v6 + 1) I) ∧ ((¬ (bI (hs v4 (I 81 v6.toNatClampNeg))) = (bI (hs v4 (I 82 v6.toNatClampNeg)))) → (((jX12_leftOfK I v6 a3)) ∧ K48 v4 (v5 + (jX12_leftOf I v6 a3)) (v6 + 1) I))))))))))))
set_option maxHeartbeats 4000000 in
set_option maxRecDepth 100000 in
theorem sX12_findCut_0 (d : Nat) {T : Topo} (hT : Lay T) (a1 : Int32) (a2 : Int32) (a3 : Int32)    {Q : Topo → IM → Prop} {K10 : Int32 → IM → Prop} {K48 : Int32 → Int32 → Int32 → IM → Prop} (hK10 : ∀ (v4 : Int32) (I : IM), K10 v4 I → J (d + 4) mX12_findCut (PV Q) 0 0 10 [some (.ref 79), some (.int a1), some (.int a2), some (.int a3), some (.int v4), none, none] [] T I 0 0) (hK48 : ∀ (v4 v5 v6 : Int32) (I : IM), K48 v4 v5 v6 I → J (d + 4) mX12_findCut (PV Q) 0 0 48 [some (.ref 79), some (.int a1), some (.int a2), some (.int a3), some (.int v4), some (.int v5), some (.int v6)] [] T I 0 0) (I : IM) (h : fX12_findCut_0 T a1 a2 a3 Q K10 K48 I) : J (d + 4) mX12_findCut (PV Q) 0 0 0 [some (.ref 79), some (.int a1), some (.int a2), some (.int a3), none, none, none] [] T I 0 0 := by
  unfold fX12_findCut_0 at h
  refine J.aload_n dX12_findCut_0 rfl rfl ?_
  refine J.ldcw (v := 1000000) dX12_findCut_1 kcX12_268 ?_
  refine J.putI dX12_findCut_4 fX12_269 (hT.k 79 rfl) rfl ?_
  refine J.iconst (v := 0) dX12_findCut_7 (by decide) ?_
  refine J.istore (ls' := [some (.ref 79), some (.int a1), some (.int a2), some (.int a3), some (.int 0), none, none]) dX12_findCut_8 rfl rfl ?_
  exact J.weaken (ls' := [some (.ref 79), some (.int a1), some (.int a2), some (.int a3), some (.int 0), none, none]) (And.intro rfl (And.intro rfl (And.intro rfl (And.intro rfl (And.intro rfl trivial))))) (hK10 0 (up2 I 79 54 1000000) h)
set_option maxHeartbeats 4000000 in
set_option maxRecDepth 100000 in
theorem sX12_findCut_10 (d : Nat) {T : Topo} (hT : Lay T) (a1 : Int32) (a2 : Int32) (a3 : Int32)    {Q : Topo → IM → Prop} {K10 : Int32 → IM → Prop} {K48 : Int32 → Int32 → Int32 → IM → Prop} (hK10 : ∀ (v4 : Int32) (I : IM), K10 v4 I → J (d + 4) mX12_findCut (PV Q) 0 0 10 [some (.ref 79), some (.int a1), some (.int a2), some (.int a3), some (.int v4), none, none] [] T I 0 0) (hK48 : ∀ (v4 v5 v6 : Int32) (I : IM), K48 v4 v5 v6 I → J (d + 4) mX12_findCut (PV Q) 0 0 48 [some (.ref 79), some (.int a1), some (.int a2), some (.int a3), some (.int v4), some (.int v5), some (.int v6)] [] T I 0 0) (v4 : Int32) (I : IM) (h : fX12_findCut_10 T a1 a2 a3 Q K10 K48 v4 I) : J (d + 4) mX12_findCut (PV Q) 0 0 10 [some (.ref 79), some (.int a1), some (.int a2), some (.int a3), some (.int v4), none, none] [] T I 0 0 := by
  unfold fX12_findCut_10 at h
  refine J.iload dX12_findCut_10 rfl ?_
  refine J.iconst (v := 1) dX12_findCut_12 (by decide) ?_
  refine J.aload_n dX12_findCut_13 rfl rfl ?_
  refine J.getI dX12_findCut_14 fX12_186 (hT.k 79 rfl) rfl ?_
  refine J.ishl dX12_findCut_17 ?_
  refine J.icmp_ge (tgt := 170) dX12_findCut_18 (by decide) (fun hc1 => ?_) (fun hc1 => ?_)
  · have h := h.1 hc1
    exact J.vretQ dX12_findCut_170 rfl (Nat.le_refl _) (Nat.le_refl _) h
  · have h := h.2 hc1
    refine J.iload dX12_findCut_21 rfl ?_
    refine J.iload_n dX12_findCut_23 rfl rfl ?_
    refine J.callSP (as := [.int v4, .int a1]) (rest := []) dX12_findCut_24 kX12_has vX12_has lX12_212 rfl rfl rfl (by omega) (Nat.le_refl _) (Nat.le_refl _) (qX12_has (d + 3) hT v4 a1 ) ?_
    refine J.bz_eq (tgt := 164) dX12_findCut_27 (by decide) (fun hc2 => ?_) (fun hc2 => ?_)
    · have h := h.1 hc2
      refine J.iinc (v := (v4 + 1)) (ls' := [some (.ref 79), some (.int a1), some (.int a2), some (.int a3), some (.int (v4 + 1)), none, none]) dX12_findCut_164 rfl (by rfl) rfl ?_
      refine J.goto (tgt := 10) dX12_findCut_167 (by decide) ?_
      exact J.weaken (ls' := [some (.ref 79), some (.int a1), some (.int a2), some (.int a3), some (.int (v4 + 1)), none, none]) (And.intro rfl (And.intro rfl (And.intro rfl (And.intro rfl (And.intro rfl trivial))))) (hK10 (v4 + 1) I h)
    · have h := h.2 hc2
      refine J.iload dX12_findCut_30 rfl ?_
      refine J.iload_n dX12_findCut_32 rfl rfl ?_
      refine J.callSP (as := [.int v4, .int a2]) (rest := []) dX12_findCut_33 kX12_has vX12_has lX12_212 rfl rfl rfl (by omega) (Nat.le_refl _) (Nat.le_refl _) (qX12_has (d + 3) hT v4 a2 ) ?_
      refine J.bz_eq (tgt := 42) dX12_findCut_36 (by decide) (fun hc3 => ?_) (fun hc3 => ?_)
      · have h := h.1 hc3
        refine J.iconst (v := 0) dX12_findCut_42 (by decide) ?_
        refine J.istore (ls' := [some (.ref 79), some (.int a1), some (.int a2), some (.int a3), some (.int v4), some (.int 0), none]) dX12_findCut_43 rfl rfl ?_
        refine J.iconst (v := 0) dX12_findCut_45 (by decide) ?_
        refine J.istore (ls' := [some (.ref 79), some (.int a1), some (.int a2), some (.int a3), some (.int v4), some (.int 0), some (.int 0)]) dX12_findCut_46 rfl rfl ?_
        exact J.weaken (ls' := [some (.ref 79), some (.int a1), some (.int a2), some (.int a3), some (.int v4), some (.int 0), some (.int 0)]) (And.intro rfl (And.intro rfl (And.intro rfl (And.intro rfl (And.intro rfl (And.intro rfl (And.intro rfl trivial))))))) (hK48 v4 0 0 I h)
      · have h := h.2 hc3
        refine J.goto (tgt := 164) dX12_findCut_39 (by decide) ?_
        refine J.iinc (v := (v4 + 1)) (ls' := [some (.ref 79), some (.int a1), some (.int a2), some (.int a3), some (.int (v4 + 1)), none, none]) dX12_findCut_164 rfl (by rfl) rfl ?_
        refine J.goto (tgt := 10) dX12_findCut_167 (by decide) ?_
        exact J.weaken (ls' := [some (.ref 79), some (.int a1), some (.int a2), some (.int a3), some (.int (v4 + 1)), none, none]) (And.intro rfl (And.intro rfl (And.intro rfl (And.intro rfl (And.intro rfl trivial))))) (hK10 (v4 + 1) I h)
set_option maxHeartbeats 4000000 in
set_option maxRecDepth 100000 in
theorem sX12_findCut_48 (d : Nat) {T : Topo} (hT : Lay T) (a1 : Int32) (a2 : Int32) (a3 : Int32)    {Q : Topo → IM → Prop} {K10 : Int32 → IM → Prop} {K48 : Int32 → Int32 → Int32 → IM → Prop} (hK10 : ∀ (v4 : Int32) (I : IM), K10 v4 I → J (d + 4) mX12_findCut (PV Q) 0 0 10 [some (.ref 79), some (.int a1), some (.int a2), some (.int a3), some (.int v4), none, none] [] T I 0 0) (hK48 : ∀ (v4 v5 v6 : Int32) (I : IM), K48 v4 v5 v6 I → J (d + 4) mX12_findCut (PV Q) 0 0 48 [some (.ref 79), some (.int a1), some (.int a2), some (.int a3), some (.int v4), some (.int v5), some (.int v6)] [] T I 0 0) (v4 v5 v6 : Int32) (I : IM) (h : fX12_findCut_48 T a1 a2 a3 Q K10 K48 v4 v5 v6 I) : J (d + 4) mX12_findCut (PV Q) 0 0 48 [some (.ref 79), some (.int a1), some (.int a2), some (.int a3), some (.int v4), some (.int v5), some (.int v6)] [] T I 0 0 := by
  unfold fX12_findCut_48 at h
  refine J.iload dX12_findCut_48 rfl ?_
  refine J.aload_n dX12_findCut_50 rfl rfl ?_
  refine J.getI dX12_findCut_51 fX12_193 (hT.k 79 rfl) rfl ?_
  refine J.icmp_ge (tgt := 116) dX12_findCut_54 (by decide) (fun hc1 => ?_) (fun hc1 => ?_)
  · have h := h.1 hc1
    refine J.iload dX12_findCut_116 rfl ?_
    refine J.aload_n dX12_findCut_118 rfl rfl ?_
    refine J.getI dX12_findCut_119 fX12_269 (hT.k 79 rfl) rfl ?_
    refine J.icmp_gt (tgt := 164) dX12_findCut_122 (by decide) (fun hc2 => ?_) (fun hc2 => ?_)
    · have h := h.1 hc2
      refine J.iinc (v := (v4 + 1)) (ls' := [some (.ref 79), some (.int a1), some (.int a2), some (.int a3), some (.int (v4 + 1)), some (.int v5), some (.int v6)]) dX12_findCut_164 rfl (by rfl) rfl ?_
      refine J.goto (tgt := 10) dX12_findCut_167 (by decide) ?_
      exact J.weaken (ls' := [some (.ref 79), some (.int a1), some (.int a2), some (.int a3), some (.int (v4 + 1)), none, none]) (And.intro rfl (And.intro rfl (And.intro rfl (And.intro rfl (And.intro rfl trivial))))) (hK10 (v4 + 1) I h)
    · have h := h.2 hc2
      refine J.iload dX12_findCut_125 rfl ?_
      refine J.aload_n dX12_findCut_127 rfl rfl ?_
      refine J.getI dX12_findCut_128 fX12_269 (hT.k 79 rfl) rfl ?_
      refine J.icmp_ne (tgt := 152) dX12_findCut_131 (by decide) (fun hc3 => ?_) (fun hc3 => ?_)
      · have h := h.1 hc3
        refine J.aload_n dX12_findCut_152 rfl rfl ?_
        refine J.iload dX12_findCut_153 rfl ?_
        refine J.putI dX12_findCut_155 fX12_269 (hT.k 79 rfl) rfl ?_
        refine J.aload_n dX12_findCut_158 rfl rfl ?_
        refine J.iload dX12_findCut_159 rfl ?_
        refine J.putI dX12_findCut_161 fX12_275 (hT.k 79 rfl) rfl ?_
        refine J.iinc (v := (v4 + 1)) (ls' := [some (.ref 79), some (.int a1), some (.int a2), some (.int a3), some (.int (v4 + 1)), some (.int v5), some (.int v6)]) dX12_findCut_164 rfl (by rfl) rfl ?_
        refine J.atpc (pc' := 167) rfl ?_
        refine J.goto (tgt := 10) dX12_findCut_167 (by decide) ?_
        exact J.weaken (ls' := [some (.ref 79), some (.int a1), some (.int a2), some (.int a3), some (.int (v4 + 1)), none, none]) (And.intro rfl (And.intro rfl (And.intro rfl (And.intro rfl (And.intro rfl trivial))))) (hK10 (v4 + 1) (up2 (up2 I 79 54 v5) 79 53 v4) h)
      · have h := h.2 hc3
        refine J.iload dX12_findCut_134 rfl ?_
        obtain ⟨hp4, h⟩ := h
        refine J.callSP (as := [.int v4]) (rest := []) dX12_findCut_136 kX12_ones vX12_ones lX12_272 rfl rfl rfl (by omega) (Nat.le_refl _) (Nat.le_refl _) (qX12_ones (d + 3) hT v4 hp4) ?_
        refine J.aload_n dX12_findCut_139 rfl rfl ?_
        refine J.getI dX12_findCut_140 fX12_275 (hT.k 79 rfl) rfl ?_
        obtain ⟨hp5, h⟩ := h
        refine J.callSP (as := [.int (I 79 53)]) (rest := [.int (jX12_ones I v4)]) dX12_findCut_143 kX12_ones vX12_ones lX12_272 rfl rfl rfl (by omega) (Nat.le_refl _) (Nat.le_refl _) (qX12_ones (d + 3) hT (I 79 53) hp5) ?_
        refine J.icmp_lt (tgt := 152) dX12_findCut_146 (by decide) (fun hc6 => ?_) (fun hc6 => ?_)
        · have h := h.1 hc6
          refine J.aload_n dX12_findCut_152 rfl rfl ?_
          refine J.iload dX12_findCut_153 rfl ?_
          refine J.putI dX12_findCut_155 fX12_269 (hT.k 79 rfl) rfl ?_
          refine J.aload_n dX12_findCut_158 rfl rfl ?_
          refine J.iload dX12_findCut_159 rfl ?_
          refine J.putI dX12_findCut_161 fX12_275 (hT.k 79 rfl) rfl ?_
          refine J.iinc (v := (v4 + 1)) (ls' := [some (.ref 79), some (.int a1), some (.int a2), some (.int a3), some (.int (v4 + 1)), some (.int v5), some (.int v6)]) dX12_findCut_164 rfl (by rfl) rfl ?_
          refine J.atpc (pc' := 167) rfl ?_
          refine J.goto (tgt := 10) dX12_findCut_167 (by decide) ?_
          exact J.weaken (ls' := [some (.ref 79), some (.int a1), some (.int a2), some (.int a3), some (.int (v4 + 1)), none, none]) (And.intro rfl (And.intro rfl (And.intro rfl (And.intro rfl (And.intro rfl trivial))))) (hK10 (v4 + 1) (up2 (up2 I 79 54 v5) 79 53 v4) h)
        · have h := h.2 hc6
          refine J.goto (tgt := 164) dX12_findCut_149 (by decide) ?_
          refine J.iinc (v := (v4 + 1)) (ls' := [some (.ref 79), some (.int a1), some (.int a2), some (.int a3), some (.int (v4 + 1)), some (.int v5), some (.int v6)]) dX12_findCut_164 rfl (by rfl) rfl ?_
          refine J.goto (tgt := 10) dX12_findCut_167 (by decide) ?_
          exact J.weaken (ls' := [some (.ref 79), some (.int a1), some (.int a2), some (.int a3), some (.int (v4 + 1)), none, none]) (And.intro rfl (And.intro rfl (And.intro rfl (And.intro rfl (And.intro rfl trivial))))) (hK10 (v4 + 1) I h)
  · have h := h.2 hc1
    refine J.iload dX12_findCut_57 rfl ?_
    refine J.aload_n dX12_findCut_59 rfl rfl ?_
    refine J.getR (r := 89) dX12_findCut_60 fX12_41 (hT.k 79 rfl) rfl (hT.r 79 18 rfl rfl) ?_
    refine J.iload dX12_findCut_63 rfl ?_
    obtain ⟨hs7, h⟩ := h
    refine J.bald dX12_findCut_65 (hT.k 89 rfl) (hT.l 89 rfl) hs7 ?_
    refine J.if_eq (tgt := 106) dX12_findCut_66 (by decide) (fun hc8 => ?_) (fun hc8 => ?_)
    · have h := h.1 hc8
      refine J.iconst (v := 0) dX12_findCut_106 (by decide) ?_
      refine J.iadd dX12_findCut_107 ?_
      refine J.istore (ls' := [some (.ref 79), some (.int a1), some (.int a2), some (.int a3), some (.int v4), some (.int (v5 + 0)), some (.int v6)]) dX12_findCut_108 rfl rfl ?_
      refine J.iinc (v := (v6 + 1)) (ls' := [some (.ref 79), some (.int a1), some (.int a2), some (.int a3), some (.int v4), some (.int (v5 + 0)), some (.int (v6 + 1))]) dX12_findCut_110 rfl (by rfl) rfl ?_
      refine J.goto (tgt := 48) dX12_findCut_113 (by decide) ?_
      exact J.weaken (ls' := [some (.ref 79), some (.int a1), some (.int a2), some (.int a3), some (.int v4), some (.int (v5 + 0)), some (.int (v6 + 1))]) (And.intro rfl (And.intro rfl (And.intro rfl (And.intro rfl (And.intro rfl (And.intro rfl (And.intro rfl trivial))))))) (hK48 v4 (v5 + 0) (v6 + 1) I h)
    · have h := h.2 hc8
      refine J.iload dX12_findCut_69 rfl ?_
      refine J.aload_n dX12_findCut_71 rfl rfl ?_
      refine J.getR (r := 81) dX12_findCut_72 fX12_17 (hT.k 79 rfl) rfl (hT.r 79 10 rfl rfl) ?_
      refine J.iload dX12_findCut_75 rfl ?_
      obtain ⟨hs9, h⟩ := h
      refine J.iald dX12_findCut_77 (hT.k 81 rfl) (hT.l 81 rfl) hs9 ?_
      refine J.callSP (as := [.int v4, .int (I 81 v6.toNatClampNeg)]) (rest := [.int v5]) dX12_findCut_78 kX12_has vX12_has lX12_212 rfl rfl rfl (by omega) (Nat.le_refl _) (Nat.le_refl _) (qX12_has (d + 3) hT v4 (I 81 v6.toNatClampNeg) ) ?_
      refine J.iload dX12_findCut_81 rfl ?_
      refine J.aload_n dX12_findCut_83 rfl rfl ?_
      refine J.getR (r := 82) dX12_findCut_84 fX12_20 (hT.k 79 rfl) rfl (hT.r 79 11 rfl rfl) ?_
      refine J.iload dX12_findCut_87 rfl ?_
      obtain ⟨hs10, h⟩ := h
      refine J.iald dX12_findCut_89 (hT.k 82 rfl) (hT.l 82 rfl) hs10 ?_
      refine J.callSP (as := [.int v4, .int (I 82 v6.toNatClampNeg)]) (rest := [.int (bI (hs v4 (I 81 v6.toNatClampNeg))), .int v5]) dX12_findCut_90 kX12_has vX12_has lX12_212 rfl rfl rfl (by omega) (Nat.le_refl _) (Nat.le_refl _) (qX12_has (d + 3) hT v4 (I 82 v6.toNatClampNeg) ) ?_
      refine J.icmp_eq (tgt := 106) dX12_findCut_93 (by decide) (fun hc11 => ?_) (fun hc11 => ?_)
      · have h := h.1 hc11
        refine J.iconst (v := 0) dX12_findCut_106 (by decide) ?_
        refine J.iadd dX12_findCut_107 ?_
        refine J.istore (ls' := [some (.ref 79), some (.int a1), some (.int a2), some (.int a3), some (.int v4), some (.int (v5 + 0)), some (.int v6)]) dX12_findCut_108 rfl rfl ?_
        refine J.iinc (v := (v6 + 1)) (ls' := [some (.ref 79), some (.int a1), some (.int a2), some (.int a3), some (.int v4), some (.int (v5 + 0)), some (.int (v6 + 1))]) dX12_findCut_110 rfl (by rfl) rfl ?_
        refine J.goto (tgt := 48) dX12_findCut_113 (by decide) ?_
        exact J.weaken (ls' := [some (.ref 79), some (.int a1), some (.int a2), some (.int a3), some (.int v4), some (.int (v5 + 0)), some (.int (v6 + 1))]) (And.intro rfl (And.intro rfl (And.intro rfl (And.intro rfl (And.intro rfl (And.intro rfl (And.intro rfl trivial))))))) (hK48 v4 (v5 + 0) (v6 + 1) I h)
      · have h := h.2 hc11
        refine J.aload_n dX12_findCut_96 rfl rfl ?_
        refine J.iload dX12_findCut_97 rfl ?_
        refine J.iload_n dX12_findCut_99 rfl rfl ?_
        obtain ⟨hp12, h⟩ := h
        refine J.callVP (k := 79) (as := [.int v6, .int a3]) (rest := [.int v5]) dX12_findCut_100 kX12_leftOf vX12_leftOf lX12_265 (hT.k 79 rfl) rfl rfl rfl rfl rfl (by omega) (Nat.le_refl _) (Nat.le_refl _) (qX12_leftOf (d + 0) hT v6 a3 hp12) ?_
        refine J.goto (tgt := 107) dX12_findCut_103 (by decide) ?_
        refine J.iadd dX12_findCut_107 ?_
        refine J.istore (ls' := [some (.ref 79), some (.int a1), some (.int a2), some (.int a3), some (.int v4), some (.int (v5 + (jX12_leftOf I v6 a3))), some (.int v6)]) dX12_findCut_108 rfl rfl ?_
        refine J.iinc (v := (v6 + 1)) (ls' := [some (.ref 79), some (.int a1), some (.int a2), some (.int a3), some (.int v4), some (.int (v5 + (jX12_leftOf I v6 a3))), some (.int (v6 + 1))]) dX12_findCut_110 rfl (by rfl) rfl ?_
        refine J.goto (tgt := 48) dX12_findCut_113 (by decide) ?_
        exact J.weaken (ls' := [some (.ref 79), some (.int a1), some (.int a2), some (.int a3), some (.int v4), some (.int (v5 + (jX12_leftOf I v6 a3))), some (.int (v6 + 1))]) (And.intro rfl (And.intro rfl (And.intro rfl (And.intro rfl (And.intro rfl (And.intro rfl (And.intro rfl trivial))))))) (hK48 v4 (v5 + (jX12_leftOf I v6 a3)) (v6 + 1) I h)
set_option maxHeartbeats 4000000 in
set_option maxRecDepth 100000 in
theorem wX12_findCut (d : Nat) {T : Topo} (hT : Lay T) (a1 : Int32) (a2 : Int32) (a3 : Int32)   {Q : Topo → IM → Prop} (V10 : Int32 → IM → Prop) (μ10 : Int32 → IM → Nat) (V48 : Int32 → Int32 → Int32 → IM → Prop) (μ48 : Int32 → Int32 → Int32 → IM → Nat) (vc10 : ∀ (v4 : Int32) (I : IM), V10 v4 I → fX12_findCut_10 T a1 a2 a3 Q (fun w4 I_ => V10 w4 I_ ∧ μ10 w4 I_ < μ10 v4 I) (fun w4 w5 w6 I_ => V48 w4 w5 w6 I_ ∧ μ48 w4 w5 w6 I_ < μ10 v4 I) v4 I) (vc48 : ∀ (v4 v5 v6 : Int32) (I : IM), V48 v4 v5 v6 I → fX12_findCut_48 T a1 a2 a3 Q (fun w4 I_ => V10 w4 I_ ∧ μ10 w4 I_ < μ48 v4 v5 v6 I) (fun w4 w5 w6 I_ => V48 w4 w5 w6 I_ ∧ μ48 w4 w5 w6 I_ < μ48 v4 v5 v6 I) v4 v5 v6 I) {I : IM} (h : fX12_findCut_0 T a1 a2 a3 Q V10 V48 I) : Ct (d + 4) mX12_findCut [.ref 79, .int a1, .int a2, .int a3] T I 0 0 (PV Q) := by
  have all : ∀ n : Nat, (∀ (v4 : Int32) (I : IM), V10 v4 I → μ10 v4 I < n → J (d + 4) mX12_findCut (PV Q) 0 0 10 [some (.ref 79), some (.int a1), some (.int a2), some (.int a3), some (.int v4), none, none] [] T I 0 0) ∧ (∀ (v4 v5 v6 : Int32) (I : IM), V48 v4 v5 v6 I → μ48 v4 v5 v6 I < n → J (d + 4) mX12_findCut (PV Q) 0 0 48 [some (.ref 79), some (.int a1), some (.int a2), some (.int a3), some (.int v4), some (.int v5), some (.int v6)] [] T I 0 0) := by
    intro n
    induction n with
    | zero => exact ⟨fun _ _ _ hn => absurd hn (Nat.not_lt_zero _), fun _ _ _ _ _ hn => absurd hn (Nat.not_lt_zero _)⟩
    | succ n ih =>
      exact ⟨fun v4 I hv hn => sX12_findCut_10 d hT a1 a2 a3   (fun w4 I_ hw => ih.1 w4 I_ hw.1 (by have := hw.2; omega)) (fun w4 w5 w6 I_ hw => ih.2 w4 w5 w6 I_ hw.1 (by have := hw.2; omega)) v4 I (vc10 v4 I hv), fun v4 v5 v6 I hv hn => sX12_findCut_48 d hT a1 a2 a3   (fun w4 I_ hw => ih.1 w4 I_ hw.1 (by have := hw.2; omega)) (fun w4 w5 w6 I_ hw => ih.2 w4 w5 w6 I_ hw.1 (by have := hw.2; omega)) v4 v5 v6 I (vc48 v4 v5 v6 I hv)⟩
  exact Ct.ofJ (by decide +kernel) rfl (by intro v hv; revert v hv; simp [Value.category]) rfl (sX12_findCut_0 d hT a1 a2 a3   (fun w4 I_ hw => (all (μ10 w4 I_ + 1)).1 w4 I_ hw (Nat.lt_succ_self _)) (fun w4 w5 w6 I_ hw => (all (μ48 w4 w5 w6 I_ + 1)).2 w4 w5 w6 I_ hw (Nat.lt_succ_self _)) I h)

def jX12_findCutB10 (a1 : Int32) (a2 : Int32) (a3 : Int32) (F : (Nat → Int32 → Int32 → Int32 → IM → IM)) (v4 v5 v6 : Int32) (I : IM) : IM := (if ((1 : Int32) <<< ((I 79 0) &&& 31)) ≤ v4 then I else (if hs v4 a1 then (if hs v4 a2 then (F 0 (v4 + 1) 0 0 I) else (F 1 v4 0 0 I)) else (F 0 (v4 + 1) 0 0 I)))
def jX12_findCutC10 (a1 : Int32) (a2 : Int32) (a3 : Int32) (F : (Nat → Int32 → Int32 → Int32 → IM → Prop)) (v4 v5 v6 : Int32) (I : IM) : Prop := (((((1 : Int32) <<< ((I 79 0) &&& 31)) ≤ v4) → True) ∧ ((¬ ((1 : Int32) <<< ((I 79 0) &&& 31)) ≤ v4) → (((¬ (hs v4 a1)) → (F 0 (v4 + 1) 0 0 I)) ∧ ((hs v4 a1) → (((¬ (hs v4 a2)) → (F 1 v4 0 0 I)) ∧ ((hs v4 a2) → (F 0 (v4 + 1) 0 0 I)))))))
def jX12_findCutB48 (a1 : Int32) (a2 : Int32) (a3 : Int32) (F : (Nat → Int32 → Int32 → Int32 → IM → IM)) (v4 v5 v6 : Int32) (I : IM) : IM := (if (I 79 1) ≤ v6 then (if (I 79 54) < v5 then (F 0 (v4 + 1) 0 0 I) else (if v5 = (I 79 54) then (if (jX12_ones I v4) < (jX12_ones I (I 79 53)) then (F 0 (v4 + 1) 0 0 (up2 (up2 I 79 54 v5) 79 53 v4)) else (F 0 (v4 + 1) 0 0 I)) else (F 0 (v4 + 1) 0 0 (up2 (up2 I 79 54 v5) 79 53 v4)))) else (if (I 89 v6.toNatClampNeg) = 0 then (F 1 v4 (v5 + 0) (v6 + 1) I) else (if (bI (hs v4 (I 81 v6.toNatClampNeg))) = (bI (hs v4 (I 82 v6.toNatClampNeg))) then (F 1 v4 (v5 + 0) (v6 + 1) I) else (F 1 v4 (v5 + (jX12_leftOf I v6 a3)) (v6 + 1) I))))
def jX12_findCutC48 (a1 : Int32) (a2 : Int32) (a3 : Int32) (F : (Nat → Int32 → Int32 → Int32 → IM → Prop)) (v4 v5 v6 : Int32) (I : IM) : Prop := ((((I 79 1) ≤ v6) → ((((I 79 54) < v5) → (F 0 (v4 + 1) 0 0 I)) ∧ ((¬ (I 79 54) < v5) → (((¬ v5 = (I 79 54)) → (F 0 (v4 + 1) 0 0 (up2 (up2 I 79 54 v5) 79 53 v4))) ∧ ((v5 = (I 79 54)) → (((jX12_onesK I v4)) ∧ (((jX12_onesK I (I 79 53))) ∧ ((((jX12_ones I v4) < (jX12_ones I (I 79 53))) → (F 0 (v4 + 1) 0 0 (up2 (up2 I 79 54 v5) 79 53 v4))) ∧ ((¬ (jX12_ones I v4) < (jX12_ones I (I 79 53))) → (F 0 (v4 + 1) 0 0 I)))))))))) ∧ ((¬ (I 79 1) ≤ v6) → (vp_in v6 9 ∧ ((((I 89 v6.toNatClampNeg) = 0) → (F 1 v4 (v5 + 0) (v6 + 1) I)) ∧ ((¬ (I 89 v6.toNatClampNeg) = 0) → (vp_in v6 9 ∧ (vp_in v6 9 ∧ ((((bI (hs v4 (I 81 v6.toNatClampNeg))) = (bI (hs v4 (I 82 v6.toNatClampNeg)))) → (F 1 v4 (v5 + 0) (v6 + 1) I)) ∧ ((¬ (bI (hs v4 (I 81 v6.toNatClampNeg))) = (bI (hs v4 (I 82 v6.toNatClampNeg)))) → (((jX12_leftOfK I v6 a3)) ∧ (F 1 v4 (v5 + (jX12_leftOf I v6 a3)) (v6 + 1) I)))))))))))
def jX12_findCutI (a1 : Int32) (a2 : Int32) (a3 : Int32) : Nat → Nat → Int32 → Int32 → Int32 → IM → IM
  | 0 => fun _ _ _ _ I => I
  | n + 1 => fun tg v4 v5 v6 I => (if tg = 0 then jX12_findCutB10 a1 a2 a3 (jX12_findCutI a1 a2 a3 n) v4 v5 v6 I else (if tg = 1 then jX12_findCutB48 a1 a2 a3 (jX12_findCutI a1 a2 a3 n) v4 v5 v6 I else I))
def jX12_findCutO (a1 : Int32) (a2 : Int32) (a3 : Int32) : Nat → Nat → Int32 → Int32 → Int32 → IM → Prop
  | 0 => fun _ _ _ _ _ => False
  | n + 1 => fun tg v4 v5 v6 I => (if tg = 0 then jX12_findCutC10 a1 a2 a3 (jX12_findCutO a1 a2 a3 n) v4 v5 v6 I else (if tg = 1 then jX12_findCutC48 a1 a2 a3 (jX12_findCutO a1 a2 a3 n) v4 v5 v6 I else True))
theorem jX12_findCutI_10 (a1 : Int32) (a2 : Int32) (a3 : Int32) (n : Nat) (v4 v5 v6 : Int32) (I : IM) : jX12_findCutI a1 a2 a3 (n + 1) 0 v4 v5 v6 I = (if ((1 : Int32) <<< ((I 79 0) &&& 31)) ≤ v4 then I else (if hs v4 a1 then (if hs v4 a2 then (jX12_findCutI a1 a2 a3 n 0 (v4 + 1) 0 0 I) else (jX12_findCutI a1 a2 a3 n 1 v4 0 0 I)) else (jX12_findCutI a1 a2 a3 n 0 (v4 + 1) 0 0 I))) := by
  show (if (0 : Nat) = 0 then jX12_findCutB10 a1 a2 a3 (jX12_findCutI a1 a2 a3 n) v4 v5 v6 I else (if (0 : Nat) = 1 then jX12_findCutB48 a1 a2 a3 (jX12_findCutI a1 a2 a3 n) v4 v5 v6 I else I)) = _
  rw [if_pos rfl]; rfl
theorem jX12_findCutO_10 (a1 : Int32) (a2 : Int32) (a3 : Int32) (n : Nat) (v4 v5 v6 : Int32) (I : IM) : jX12_findCutO a1 a2 a3 (n + 1) 0 v4 v5 v6 I = (((((1 : Int32) <<< ((I 79 0) &&& 31)) ≤ v4) → True) ∧ ((¬ ((1 : Int32) <<< ((I 79 0) &&& 31)) ≤ v4) → (((¬ (hs v4 a1)) → (jX12_findCutO a1 a2 a3 n 0 (v4 + 1) 0 0 I)) ∧ ((hs v4 a1) → (((¬ (hs v4 a2)) → (jX12_findCutO a1 a2 a3 n 1 v4 0 0 I)) ∧ ((hs v4 a2) → (jX12_findCutO a1 a2 a3 n 0 (v4 + 1) 0 0 I))))))) := by
  show (if (0 : Nat) = 0 then jX12_findCutC10 a1 a2 a3 (jX12_findCutO a1 a2 a3 n) v4 v5 v6 I else (if (0 : Nat) = 1 then jX12_findCutC48 a1 a2 a3 (jX12_findCutO a1 a2 a3 n) v4 v5 v6 I else True)) = _
  rw [if_pos rfl]; rfl
theorem jX12_findCutI_48 (a1 : Int32) (a2 : Int32) (a3 : Int32) (n : Nat) (v4 v5 v6 : Int32) (I : IM) : jX12_findCutI a1 a2 a3 (n + 1) 1 v4 v5 v6 I = (if (I 79 1) ≤ v6 then (if (I 79 54) < v5 then (jX12_findCutI a1 a2 a3 n 0 (v4 + 1) 0 0 I) else (if v5 = (I 79 54) then (if (jX12_ones I v4) < (jX12_ones I (I 79 53)) then (jX12_findCutI a1 a2 a3 n 0 (v4 + 1) 0 0 (up2 (up2 I 79 54 v5) 79 53 v4)) else (jX12_findCutI a1 a2 a3 n 0 (v4 + 1) 0 0 I)) else (jX12_findCutI a1 a2 a3 n 0 (v4 + 1) 0 0 (up2 (up2 I 79 54 v5) 79 53 v4)))) else (if (I 89 v6.toNatClampNeg) = 0 then (jX12_findCutI a1 a2 a3 n 1 v4 (v5 + 0) (v6 + 1) I) else (if (bI (hs v4 (I 81 v6.toNatClampNeg))) = (bI (hs v4 (I 82 v6.toNatClampNeg))) then (jX12_findCutI a1 a2 a3 n 1 v4 (v5 + 0) (v6 + 1) I) else (jX12_findCutI a1 a2 a3 n 1 v4 (v5 + (jX12_leftOf I v6 a3)) (v6 + 1) I)))) := by
  show (if (1 : Nat) = 0 then jX12_findCutB10 a1 a2 a3 (jX12_findCutI a1 a2 a3 n) v4 v5 v6 I else (if (1 : Nat) = 1 then jX12_findCutB48 a1 a2 a3 (jX12_findCutI a1 a2 a3 n) v4 v5 v6 I else I)) = _
  rw [if_neg (by decide), if_pos rfl]; rfl
theorem jX12_findCutO_48 (a1 : Int32) (a2 : Int32) (a3 : Int32) (n : Nat) (v4 v5 v6 : Int32) (I : IM) : jX12_findCutO a1 a2 a3 (n + 1) 1 v4 v5 v6 I = ((((I 79 1) ≤ v6) → ((((I 79 54) < v5) → (jX12_findCutO a1 a2 a3 n 0 (v4 + 1) 0 0 I)) ∧ ((¬ (I 79 54) < v5) → (((¬ v5 = (I 79 54)) → (jX12_findCutO a1 a2 a3 n 0 (v4 + 1) 0 0 (up2 (up2 I 79 54 v5) 79 53 v4))) ∧ ((v5 = (I 79 54)) → (((jX12_onesK I v4)) ∧ (((jX12_onesK I (I 79 53))) ∧ ((((jX12_ones I v4) < (jX12_ones I (I 79 53))) → (jX12_findCutO a1 a2 a3 n 0 (v4 + 1) 0 0 (up2 (up2 I 79 54 v5) 79 53 v4))) ∧ ((¬ (jX12_ones I v4) < (jX12_ones I (I 79 53))) → (jX12_findCutO a1 a2 a3 n 0 (v4 + 1) 0 0 I)))))))))) ∧ ((¬ (I 79 1) ≤ v6) → (vp_in v6 9 ∧ ((((I 89 v6.toNatClampNeg) = 0) → (jX12_findCutO a1 a2 a3 n 1 v4 (v5 + 0) (v6 + 1) I)) ∧ ((¬ (I 89 v6.toNatClampNeg) = 0) → (vp_in v6 9 ∧ (vp_in v6 9 ∧ ((((bI (hs v4 (I 81 v6.toNatClampNeg))) = (bI (hs v4 (I 82 v6.toNatClampNeg)))) → (jX12_findCutO a1 a2 a3 n 1 v4 (v5 + 0) (v6 + 1) I)) ∧ ((¬ (bI (hs v4 (I 81 v6.toNatClampNeg))) = (bI (hs v4 (I 82 v6.toNatClampNeg)))) → (((jX12_leftOfK I v6 a3)) ∧ (jX12_findCutO a1 a2 a3 n 1 v4 (v5 + (jX12_leftOf I v6 a3)) (v6 + 1) I))))))))))) := by
  show (if (1 : Nat) = 0 then jX12_findCutC10 a1 a2 a3 (jX12_findCutO a1 a2 a3 n) v4 v5 v6 I else (if (1 : Nat) = 1 then jX12_findCutC48 a1 a2 a3 (jX12_findCutO a1 a2 a3 n) v4 v5 v6 I else True)) = _
  rw [if_neg (by decide), if_pos rfl]; rfl
def jX12_findCut (I : IM) (a1 : Int32) (a2 : Int32) (a3 : Int32) : IM := (jX12_findCutI a1 a2 a3 FU 0 0 0 0 (up2 I 79 54 1000000))
def jX12_findCutK (I : IM) (a1 : Int32) (a2 : Int32) (a3 : Int32) : Prop := (jX12_findCutO a1 a2 a3 FU 0 0 0 0 (up2 I 79 54 1000000))
set_option maxRecDepth 10000 in
set_option maxHeartbeats 1000000 in
theorem uX12_findCut (d : Nat) {T : Topo} (hT : Lay T) (a1 : Int32) (a2 : Int32) (a3 : Int32)   {R : IM} : ∀ n : Nat, (∀ (v4 : Int32) (I : IM), jX12_findCutO a1 a2 a3 n 0 v4 0 0 I → jX12_findCutI a1 a2 a3 n 0 v4 0 0 I = R → J (d + 4) mX12_findCut (PV (fun T' I' => T' = T ∧ I' = R)) 0 0 10 [some (.ref 79), some (.int a1), some (.int a2), some (.int a3), some (.int v4), none, none] [] T I 0 0) ∧ (∀ (v4 v5 v6 : Int32) (I : IM), jX12_findCutO a1 a2 a3 n 1 v4 v5 v6 I → jX12_findCutI a1 a2 a3 n 1 v4 v5 v6 I = R → J (d + 4) mX12_findCut (PV (fun T' I' => T' = T ∧ I' = R)) 0 0 48 [some (.ref 79), some (.int a1), some (.int a2), some (.int a3), some (.int v4), some (.int v5), some (.int v6)] [] T I 0 0) := by
  intro n
  induction n with
  | zero => exact ⟨fun _ _ hz => hz.elim, fun _ _ _ _ hz => hz.elim⟩
  | succ n ih =>
    refine ⟨?_, ?_⟩
    · exact fun v4 I hok hit => by
        rw [jX12_findCutO_10] at hok
        exact sX12_findCut_10 d hT a1 a2 a3   (K10 := fun w4 I_ => (jX12_findCutO a1 a2 a3 n 0 w4 0 0 I_ ∧ jX12_findCutI a1 a2 a3 n 0 w4 0 0 I_ = R)) (K48 := fun w4 w5 w6 I_ => (jX12_findCutO a1 a2 a3 n 1 w4 w5 w6 I_ ∧ jX12_findCutI a1 a2 a3 n 1 w4 w5 w6 I_ = R)) (fun w4 I_ hw => ih.1 w4 I_ hw.1 hw.2) (fun w4 w5 w6 I_ hw => ih.2 w4 w5 w6 I_ hw.1 hw.2) v4 I (by
          unfold fX12_findCut_10
          exact ⟨fun hc1 => ⟨rfl, by rw [jX12_findCutI_10, if_pos hc1] at hit; exact hit⟩, fun hc1 => ⟨fun hc2 => ⟨((hok).2 hc1).1 hc2, by rw [jX12_findCutI_10, if_neg hc1, if_neg hc2] at hit; exact hit⟩, fun hc2 => ⟨fun hc3 => ⟨(((hok).2 hc1).2 hc2).1 hc3, by rw [jX12_findCutI_10, if_neg hc1, if_pos hc2, if_neg hc3] at hit; exact hit⟩, fun hc3 => ⟨(((hok).2 hc1).2 hc2).2 hc3, by rw [jX12_findCutI_10, if_neg hc1, if_pos hc2, if_pos hc3] at hit; exact hit⟩⟩⟩⟩)
    · exact fun v4 v5 v6 I hok hit => by
        rw [jX12_findCutO_48] at hok
        exact sX12_findCut_48 d hT a1 a2 a3   (K10 := fun w4 I_ => (jX12_findCutO a1 a2 a3 n 0 w4 0 0 I_ ∧ jX12_findCutI a1 a2 a3 n 0 w4 0 0 I_ = R)) (K48 := fun w4 w5 w6 I_ => (jX12_findCutO a1 a2 a3 n 1 w4 w5 w6 I_ ∧ jX12_findCutI a1 a2 a3 n 1 w4 w5 w6 I_ = R)) (fun w4 I_ hw => ih.1 w4 I_ hw.1 hw.2) (fun w4 w5 w6 I_ hw => ih.2 w4 w5 w6 I_ hw.1 hw.2) v4 v5 v6 I (by
          unfold fX12_findCut_48
          exact ⟨fun hc1 => ⟨fun hc2 => ⟨((hok).1 hc1).1 hc2, by rw [jX12_findCutI_48, if_pos hc1, if_pos hc2] at hit; exact hit⟩, fun hc2 => ⟨fun hc3 => ⟨(((hok).1 hc1).2 hc2).1 hc3, by rw [jX12_findCutI_48, if_pos hc1, if_neg hc2, if_neg hc3] at hit; exact hit⟩, fun hc3 => ⟨((((hok).1 hc1).2 hc2).2 hc3).1, ⟨(((((hok).1 hc1).2 hc2).2 hc3).2).1, ⟨fun hc4 => ⟨((((((hok).1 hc1).2 hc2).2 hc3).2).2).1 hc4, by rw [jX12_findCutI_48, if_pos hc1, if_neg hc2, if_pos hc3, if_pos hc4] at hit; exact hit⟩, fun hc4 => ⟨((((((hok).1 hc1).2 hc2).2 hc3).2).2).2 hc4, by rw [jX12_findCutI_48, if_pos hc1, if_neg hc2, if_pos hc3, if_neg hc4] at hit; exact hit⟩⟩⟩⟩⟩⟩, fun hc1 => ⟨((hok).2 hc1).1, ⟨fun hc5 => ⟨(((hok).2 hc1).2).1 hc5, by rw [jX12_findCutI_48, if_neg hc1, if_pos hc5] at hit; exact hit⟩, fun hc5 => ⟨((((hok).2 hc1).2).2 hc5).1, ⟨(((((hok).2 hc1).2).2 hc5).2).1, ⟨fun hc6 => ⟨((((((hok).2 hc1).2).2 hc5).2).2).1 hc6, by rw [jX12_findCutI_48, if_neg hc1, if_neg hc5, if_pos hc6] at hit; exact hit⟩, fun hc6 => ⟨(((((((hok).2 hc1).2).2 hc5).2).2).2 hc6).1, ⟨(((((((hok).2 hc1).2).2 hc5).2).2).2 hc6).2, by rw [jX12_findCutI_48, if_neg hc1, if_neg hc5, if_neg hc6] at hit; exact hit⟩⟩⟩⟩⟩⟩⟩⟩)
set_option maxRecDepth 10000 in
set_option maxHeartbeats 1000000 in
theorem qX12_findCut (d : Nat) {T : Topo} {I : IM} (hT : Lay T) (a1 : Int32) (a2 : Int32) (a3 : Int32)  (hp : (jX12_findCutK I a1 a2 a3)) : CtV (d + 4) mX12_findCut [.ref 79, .int a1, .int a2, .int a3] T I (fun J_ => J_ = (jX12_findCut I a1 a2 a3)) := by
  unfold jX12_findCutK at hp
  exact Ct.ofJ (by decide +kernel) rfl (by intro v hv; revert v hv; simp [Value.category]) rfl (sX12_findCut_0 d hT a1 a2 a3   (K10 := fun w4 I_ => (jX12_findCutO a1 a2 a3 FU 0 w4 0 0 I_ ∧ jX12_findCutI a1 a2 a3 FU 0 w4 0 0 I_ = (jX12_findCut I a1 a2 a3))) (K48 := fun w4 w5 w6 I_ => (jX12_findCutO a1 a2 a3 FU 1 w4 w5 w6 I_ ∧ jX12_findCutI a1 a2 a3 FU 1 w4 w5 w6 I_ = (jX12_findCut I a1 a2 a3))) (fun w4 I_ hw => (uX12_findCut d hT a1 a2 a3   FU).1 w4 I_ hw.1 hw.2) (fun w4 w5 w6 I_ hw => (uX12_findCut d hT a1 a2 a3   FU).2 w4 w5 w6 I_ hw.1 hw.2) I (by
    unfold fX12_findCut_0
    exact ⟨hp, rfl⟩))

def fX12_flow_0 (T : Topo) (a1 : Int32) (a2 : Int32) (a3 : Int32) (Q : Int32 → Topo → IM → Prop)  (I : IM) : Prop :=
  ((((¬ (twM I a1 a2)) → (Q (jX12_finds (-1000001)) T (jX12_findsM I))) ∧ ((twM I a1 a2) → ((((wi a3 0 23) → (((jX12_findCutK I a1 a2 a3)) ∧ Q ((jX12_findCut I a1 a2 a3) 79 54) T (jX12_findCut I a1 a2 a3))) ∧ ((¬ (wi a3 0 23)) → (Q (jX12_finds (-1000001)) T (jX12_findsM I))))))))
set_option maxHeartbeats 4000000 in
set_option maxRecDepth 100000 in
theorem sX12_flow_0 (d : Nat) {T : Topo} (hT : Lay T) (a1 : Int32) (a2 : Int32) (a3 : Int32)    {Q : Int32 → Topo → IM → Prop}   (I : IM) (h : fX12_flow_0 T a1 a2 a3 Q  I) : J (d + 5) mX12_flow (PI Q) 0 0 0 [some (.ref 79), some (.int a1), some (.int a2), some (.int a3)] [] T I 0 0 := by
  unfold fX12_flow_0 at h
  refine J.aload_n dX12_flow_0 rfl rfl ?_
  refine J.iload_n dX12_flow_1 rfl rfl ?_
  refine J.iload_n dX12_flow_2 rfl rfl ?_
  refine J.callVP (k := 79) (as := [.int a1, .int a2]) (rest := []) dX12_flow_3 kX12_areNodes vX12_areNodes lX12_224 (hT.k 79 rfl) rfl rfl rfl rfl rfl (by omega) (Nat.le_refl _) (Nat.le_refl _) (qX12_areNodes (d + 2) hT a1 a2 ) ?_
  refine J.bz_eq (tgt := 16) dX12_flow_6 (by decide) (fun hc1 => ?_) (fun hc1 => ?_)
  · have h := h.1 hc1
    refine J.aload_n dX12_flow_16 rfl rfl ?_
    refine J.ldc (v := (-1000001)) dX12_flow_17 kcX12_199 ?_
    refine J.callVE (k := 79) (as := [.int (-1000001)]) (rest := []) dX12_flow_19 kX12_finds vX12_finds lX12_200 (hT.k 79 rfl) rfl rfl rfl rfl rfl (by omega) (Nat.le_refl _) (Nat.le_refl _) (qX12_finds (d + 4) hT (-1000001) ) ?_
    exact J.iretQ dX12_flow_22 rfl (Nat.le_refl _) (Nat.le_refl _) h
  · have h := h.2 hc1
    refine J.iload_n dX12_flow_9 rfl rfl ?_
    refine J.callSP (as := [.int a3]) (rest := []) dX12_flow_10 kX12_isTick vX12_isTick lX12_239 rfl rfl rfl (by omega) (Nat.le_refl _) (Nat.le_refl _) (qX12_isTick (d + 3) hT a3 ) ?_
    refine J.bz_ne (tgt := 23) dX12_flow_13 (by decide) (fun hc2 => ?_) (fun hc2 => ?_)
    · have h := h.1 hc2
      refine J.aload_n dX12_flow_23 rfl rfl ?_
      refine J.iload_n dX12_flow_24 rfl rfl ?_
      refine J.iload_n dX12_flow_25 rfl rfl ?_
      refine J.iload_n dX12_flow_26 rfl rfl ?_
      obtain ⟨hp3, h⟩ := h
      refine J.callVD (k := 79) (as := [.int a1, .int a2, .int a3]) (rest := []) dX12_flow_27 kX12_findCut vX12_findCut lX12_278 (hT.k 79 rfl) rfl rfl rfl rfl rfl (by omega) (Nat.le_refl _) (Nat.le_refl _) (qX12_findCut (d + 0) hT a1 a2 a3 hp3) ?_
      refine J.aload_n dX12_flow_30 rfl rfl ?_
      refine J.getI dX12_flow_31 fX12_269 (hT.k 79 rfl) rfl ?_
      exact J.iretQ dX12_flow_34 rfl (Nat.le_refl _) (Nat.le_refl _) h
    · have h := h.2 hc2
      refine J.aload_n dX12_flow_16 rfl rfl ?_
      refine J.ldc (v := (-1000001)) dX12_flow_17 kcX12_199 ?_
      refine J.callVE (k := 79) (as := [.int (-1000001)]) (rest := []) dX12_flow_19 kX12_finds vX12_finds lX12_200 (hT.k 79 rfl) rfl rfl rfl rfl rfl (by omega) (Nat.le_refl _) (Nat.le_refl _) (qX12_finds (d + 4) hT (-1000001) ) ?_
      exact J.iretQ dX12_flow_22 rfl (Nat.le_refl _) (Nat.le_refl _) h
set_option maxHeartbeats 4000000 in
set_option maxRecDepth 100000 in
theorem wX12_flow (d : Nat) {T : Topo} (hT : Lay T) (a1 : Int32) (a2 : Int32) (a3 : Int32)   {Q : Int32 → Topo → IM → Prop} {I : IM} (h : fX12_flow_0 T a1 a2 a3 Q I) : Ct (d + 5) mX12_flow [.ref 79, .int a1, .int a2, .int a3] T I 0 0 (PI Q) :=
  Ct.ofJ (by decide +kernel) rfl (by intro v hv; revert v hv; simp [Value.category]) rfl (sX12_flow_0 d hT a1 a2 a3   I h)

def jX12_flow (I : IM) (a1 : Int32) (a2 : Int32) (a3 : Int32) : Int32 := (if twM I a1 a2 then (if wi a3 0 23 then ((jX12_findCut I a1 a2 a3) 79 54) else (jX12_finds (-1000001))) else (jX12_finds (-1000001)))
def jX12_flowM (I : IM) (a1 : Int32) (a2 : Int32) (a3 : Int32) : IM := (if twM I a1 a2 then (if wi a3 0 23 then (jX12_findCut I a1 a2 a3) else (jX12_findsM I)) else (jX12_findsM I))
def jX12_flowK (I : IM) (a1 : Int32) (a2 : Int32) (a3 : Int32) : Prop := (((¬ (twM I a1 a2)) → True) ∧ ((twM I a1 a2) → (((wi a3 0 23) → ((jX12_findCutK I a1 a2 a3))) ∧ ((¬ (wi a3 0 23)) → True))))
set_option maxRecDepth 10000 in
theorem qX12_flow (d : Nat) {T : Topo} {I : IM} (hT : Lay T) (a1 : Int32) (a2 : Int32) (a3 : Int32)  (hp : (jX12_flowK I a1 a2 a3)) : CtI (d + 5) mX12_flow [.ref 79, .int a1, .int a2, .int a3] T I (fun x_ J_ => x_ = (jX12_flow I a1 a2 a3) ∧ J_ = (jX12_flowM I a1 a2 a3)) :=
  wX12_flow d hT a1 a2 a3   (by
  unfold fX12_flow_0
  exact ⟨fun hc1 => ⟨rfl, by unfold jX12_flow; rw [if_neg hc1], by unfold jX12_flowM; rw [if_neg hc1]⟩, fun hc1 => ⟨fun hc2 => ⟨((hp).2 hc1).1 hc2, ⟨rfl, by unfold jX12_flow; rw [if_pos hc1, if_pos hc2], by unfold jX12_flowM; rw [if_pos hc1, if_pos hc2]⟩⟩, fun hc2 => ⟨rfl, by unfold jX12_flow; rw [if_pos hc1, if_neg hc2], by unfold jX12_flowM; rw [if_pos hc1, if_neg hc2]⟩⟩⟩)

def fX12_cut_0 (T : Topo) (a1 : Int32) (a2 : Int32) (a3 : Int32) (Q : Int32 → Topo → IM → Prop)  (I : IM) : Prop :=
  ((((¬ (twM I a1 a2)) → (Q (jX12_finds (-1000001)) T (jX12_findsM I))) ∧ ((twM I a1 a2) → ((((wi a3 0 23) → (((jX12_findCutK I a1 a2 a3)) ∧ Q ((jX12_findCut I a1 a2 a3) 79 53) T (jX12_findCut I a1 a2 a3))) ∧ ((¬ (wi a3 0 23)) → (Q (jX12_finds (-1000001)) T (jX12_findsM I))))))))
set_option maxHeartbeats 4000000 in
set_option maxRecDepth 100000 in
theorem sX12_cut_0 (d : Nat) {T : Topo} (hT : Lay T) (a1 : Int32) (a2 : Int32) (a3 : Int32)    {Q : Int32 → Topo → IM → Prop}   (I : IM) (h : fX12_cut_0 T a1 a2 a3 Q  I) : J (d + 5) mX12_cut (PI Q) 0 0 0 [some (.ref 79), some (.int a1), some (.int a2), some (.int a3)] [] T I 0 0 := by
  unfold fX12_cut_0 at h
  refine J.aload_n dX12_cut_0 rfl rfl ?_
  refine J.iload_n dX12_cut_1 rfl rfl ?_
  refine J.iload_n dX12_cut_2 rfl rfl ?_
  refine J.callVP (k := 79) (as := [.int a1, .int a2]) (rest := []) dX12_cut_3 kX12_areNodes vX12_areNodes lX12_224 (hT.k 79 rfl) rfl rfl rfl rfl rfl (by omega) (Nat.le_refl _) (Nat.le_refl _) (qX12_areNodes (d + 2) hT a1 a2 ) ?_
  refine J.bz_eq (tgt := 16) dX12_cut_6 (by decide) (fun hc1 => ?_) (fun hc1 => ?_)
  · have h := h.1 hc1
    refine J.aload_n dX12_cut_16 rfl rfl ?_
    refine J.ldc (v := (-1000001)) dX12_cut_17 kcX12_199 ?_
    refine J.callVE (k := 79) (as := [.int (-1000001)]) (rest := []) dX12_cut_19 kX12_finds vX12_finds lX12_200 (hT.k 79 rfl) rfl rfl rfl rfl rfl (by omega) (Nat.le_refl _) (Nat.le_refl _) (qX12_finds (d + 4) hT (-1000001) ) ?_
    exact J.iretQ dX12_cut_22 rfl (Nat.le_refl _) (Nat.le_refl _) h
  · have h := h.2 hc1
    refine J.iload_n dX12_cut_9 rfl rfl ?_
    refine J.callSP (as := [.int a3]) (rest := []) dX12_cut_10 kX12_isTick vX12_isTick lX12_239 rfl rfl rfl (by omega) (Nat.le_refl _) (Nat.le_refl _) (qX12_isTick (d + 3) hT a3 ) ?_
    refine J.bz_ne (tgt := 23) dX12_cut_13 (by decide) (fun hc2 => ?_) (fun hc2 => ?_)
    · have h := h.1 hc2
      refine J.aload_n dX12_cut_23 rfl rfl ?_
      refine J.iload_n dX12_cut_24 rfl rfl ?_
      refine J.iload_n dX12_cut_25 rfl rfl ?_
      refine J.iload_n dX12_cut_26 rfl rfl ?_
      obtain ⟨hp3, h⟩ := h
      refine J.callVD (k := 79) (as := [.int a1, .int a2, .int a3]) (rest := []) dX12_cut_27 kX12_findCut vX12_findCut lX12_278 (hT.k 79 rfl) rfl rfl rfl rfl rfl (by omega) (Nat.le_refl _) (Nat.le_refl _) (qX12_findCut (d + 0) hT a1 a2 a3 hp3) ?_
      refine J.aload_n dX12_cut_30 rfl rfl ?_
      refine J.getI dX12_cut_31 fX12_275 (hT.k 79 rfl) rfl ?_
      exact J.iretQ dX12_cut_34 rfl (Nat.le_refl _) (Nat.le_refl _) h
    · have h := h.2 hc2
      refine J.aload_n dX12_cut_16 rfl rfl ?_
      refine J.ldc (v := (-1000001)) dX12_cut_17 kcX12_199 ?_
      refine J.callVE (k := 79) (as := [.int (-1000001)]) (rest := []) dX12_cut_19 kX12_finds vX12_finds lX12_200 (hT.k 79 rfl) rfl rfl rfl rfl rfl (by omega) (Nat.le_refl _) (Nat.le_refl _) (qX12_finds (d + 4) hT (-1000001) ) ?_
      exact J.iretQ dX12_cut_22 rfl (Nat.le_refl _) (Nat.le_refl _) h
set_option maxHeartbeats 4000000 in
set_option maxRecDepth 100000 in
theorem wX12_cut (d : Nat) {T : Topo} (hT : Lay T) (a1 : Int32) (a2 : Int32) (a3 : Int32)   {Q : Int32 → Topo → IM → Prop} {I : IM} (h : fX12_cut_0 T a1 a2 a3 Q I) : Ct (d + 5) mX12_cut [.ref 79, .int a1, .int a2, .int a3] T I 0 0 (PI Q) :=
  Ct.ofJ (by decide +kernel) rfl (by intro v hv; revert v hv; simp [Value.category]) rfl (sX12_cut_0 d hT a1 a2 a3   I h)

def jX12_cut (I : IM) (a1 : Int32) (a2 : Int32) (a3 : Int32) : Int32 := (if twM I a1 a2 then (if wi a3 0 23 then ((jX12_findCut I a1 a2 a3) 79 53) else (jX12_finds (-1000001))) else (jX12_finds (-1000001)))
def jX12_cutM (I : IM) (a1 : Int32) (a2 : Int32) (a3 : Int32) : IM := (if twM I a1 a2 then (if wi a3 0 23 then (jX12_findCut I a1 a2 a3) else (jX12_findsM I)) else (jX12_findsM I))
def jX12_cutK (I : IM) (a1 : Int32) (a2 : Int32) (a3 : Int32) : Prop := (((¬ (twM I a1 a2)) → True) ∧ ((twM I a1 a2) → (((wi a3 0 23) → ((jX12_findCutK I a1 a2 a3))) ∧ ((¬ (wi a3 0 23)) → True))))
set_option maxRecDepth 10000 in
theorem qX12_cut (d : Nat) {T : Topo} {I : IM} (hT : Lay T) (a1 : Int32) (a2 : Int32) (a3 : Int32)  (hp : (jX12_cutK I a1 a2 a3)) : CtI (d + 5) mX12_cut [.ref 79, .int a1, .int a2, .int a3] T I (fun x_ J_ => x_ = (jX12_cut I a1 a2 a3) ∧ J_ = (jX12_cutM I a1 a2 a3)) :=
  wX12_cut d hT a1 a2 a3   (by
  unfold fX12_cut_0
  exact ⟨fun hc1 => ⟨rfl, by unfold jX12_cut; rw [if_neg hc1], by unfold jX12_cutM; rw [if_neg hc1]⟩, fun hc1 => ⟨fun hc2 => ⟨((hp).2 hc1).1 hc2, ⟨rfl, by unfold jX12_cut; rw [if_pos hc1, if_pos hc2], by unfold jX12_cutM; rw [if_pos hc1, if_pos hc2]⟩⟩, fun hc2 => ⟨rfl, by unfold jX12_cut; rw [if_pos hc1, if_neg hc2], by unfold jX12_cutM; rw [if_pos hc1, if_neg hc2]⟩⟩⟩)

end
