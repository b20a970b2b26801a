noncomputable section
abbrev hs (s i : Int32) : Prop := ¬ (s >>> (i &&& 31)) &&& 1 = 0
abbrev wi (v a b : Int32) : Prop := a ≤ v ∧ v ≤ b

def fX11_has_0 (T : Topo) (a1 : Int32) (a2 : Int32) (Q : Int32 → Topo → IM → Prop)  (I : IM) : Prop :=
  (((((a1 >>> (a2 &&& 31)) &&& 1) = 0) → Q 0 T I) ∧ ((¬ ((a1 >>> (a2 &&& 31)) &&& 1) = 0) → Q 1 T I))
set_option maxHeartbeats 4000000 in
set_option maxRecDepth 100000 in
theorem sX11_has_0 (d : Nat) {T : Topo} (hT : Lay T) (a1 : Int32) (a2 : Int32)    {Q : Int32 → Topo → IM → Prop}   (I : IM) (h : fX11_has_0 T a1 a2 Q  I) : J (d + 0) mX11_has (PI Q) 0 0 0 [some (.int a1), some (.int a2)] [] T I 0 0 := by
  unfold fX11_has_0 at h
  refine J.iload_n dX11_has_0 rfl rfl ?_
  refine J.iload_n dX11_has_1 rfl rfl ?_
  refine J.ishr dX11_has_2 ?_
  refine J.iconst (v := 1) dX11_has_3 (by decide) ?_
  refine J.iand dX11_has_4 ?_
  refine J.if_eq (tgt := 12) dX11_has_5 (by decide) (fun hc1 => ?_) (fun hc1 => ?_)
  · have h := h.1 hc1
    refine J.iconst (v := 0) dX11_has_12 (by decide) ?_
    exact J.zretQ dX11_has_13 rfl (Or.inl rfl) (Nat.le_refl _) (Nat.le_refl _) h
  · have h := h.2 hc1
    refine J.iconst (v := 1) dX11_has_8 (by decide) ?_
    refine J.goto (tgt := 13) dX11_has_9 (by decide) ?_
    exact J.zretQ dX11_has_13 rfl (Or.inr rfl) (Nat.le_refl _) (Nat.le_refl _) h
set_option maxHeartbeats 4000000 in
set_option maxRecDepth 100000 in
theorem wX11_has (d : Nat) {T : Topo} (hT : Lay T) (a1 : Int32) (a2 : Int32)   {Q : Int32 → Topo → IM → Prop} {I : IM} (h : fX11_has_0 T a1 a2 Q I) : Ct (d + 0) mX11_has [.int a1, .int a2] T I 0 0 (PI Q) :=
  Ct.ofJ (by decide +kernel) rfl (by intro v hv; revert v hv; simp [Value.category]) rfl (sX11_has_0 d hT a1 a2   I h)

theorem qX11_has (d : Nat) {T : Topo} {I : IM} (hT : Lay T) (a1 : Int32) (a2 : Int32)  : CtP (d + 0) mX11_has [.int a1, .int a2] T I (bI (hs a1 a2)) :=
  wX11_has d hT a1 a2  (by
  unfold fX11_has_0
  exact ⟨fun hc1 => ⟨by simp [bI, hs, hc1], rfl, rfl⟩, fun hc1 => ⟨by simp [bI, hs, hc1], rfl, rfl⟩⟩)

def fX11_isWithin_0 (T : Topo) (a1 : Int32) (a2 : Int32) (a3 : Int32) (Q : Int32 → Topo → IM → Prop)  (I : IM) : Prop :=
  (((a1 < a2) → Q 0 T I) ∧ ((¬ a1 < a2) → (((a3 < a1) → Q 0 T I) ∧ ((¬ a3 < a1) → Q 1 T I))))
set_option maxHeartbeats 4000000 in
set_option maxRecDepth 100000 in
theorem sX11_isWithin_0 (d : Nat) {T : Topo} (hT : Lay T) (a1 : Int32) (a2 : Int32) (a3 : Int32)    {Q : Int32 → Topo → IM → Prop}   (I : IM) (h : fX11_isWithin_0 T a1 a2 a3 Q  I) : J (d + 0) mX11_isWithin (PI Q) 0 0 0 [some (.int a1), some (.int a2), some (.int a3)] [] T I 0 0 := by
  unfold fX11_isWithin_0 at h
  refine J.iload_n dX11_isWithin_0 rfl rfl ?_
  refine J.iload_n dX11_isWithin_1 rfl rfl ?_
  refine J.icmp_lt (tgt := 14) dX11_isWithin_2 (by decide) (fun hc1 => ?_) (fun hc1 => ?_)
  · have h := h.1 hc1
    refine J.iconst (v := 0) dX11_isWithin_14 (by decide) ?_
    exact J.zretQ dX11_isWithin_15 rfl (Or.inl rfl) (Nat.le_refl _) (Nat.le_refl _) h
  · have h := h.2 hc1
    refine J.iload_n dX11_isWithin_5 rfl rfl ?_
    refine J.iload_n dX11_isWithin_6 rfl rfl ?_
    refine J.icmp_gt (tgt := 14) dX11_isWithin_7 (by decide) (fun hc2 => ?_) (fun hc2 => ?_)
    · have h := h.1 hc2
      refine J.iconst (v := 0) dX11_isWithin_14 (by decide) ?_
      exact J.zretQ dX11_isWithin_15 rfl (Or.inl rfl) (Nat.le_refl _) (Nat.le_refl _) h
    · have h := h.2 hc2
      refine J.iconst (v := 1) dX11_isWithin_10 (by decide) ?_
      refine J.goto (tgt := 15) dX11_isWithin_11 (by decide) ?_
      exact J.zretQ dX11_isWithin_15 rfl (Or.inr rfl) (Nat.le_refl _) (Nat.le_refl _) h
set_option maxHeartbeats 4000000 in
set_option maxRecDepth 100000 in
theorem wX11_isWithin (d : Nat) {T : Topo} (hT : Lay T) (a1 : Int32) (a2 : Int32) (a3 : Int32)   {Q : Int32 → Topo → IM → Prop} {I : IM} (h : fX11_isWithin_0 T a1 a2 a3 Q I) : Ct (d + 0) mX11_isWithin [.int a1, .int a2, .int a3] T I 0 0 (PI Q) :=
  Ct.ofJ (by decide +kernel) rfl (by intro v hv; revert v hv; simp [Value.category]) rfl (sX11_isWithin_0 d hT a1 a2 a3   I h)

theorem qX11_isWithin (d : Nat) {T : Topo} {I : IM} (hT : Lay T) (a1 : Int32) (a2 : Int32) (a3 : Int32)  : CtP (d + 0) mX11_isWithin [.int a1, .int a2, .int a3] T I (bI (wi a1 a2 a3)) :=
  wX11_isWithin d hT a1 a2 a3  (by
  unfold fX11_isWithin_0
  exact ⟨fun hc2 => ⟨by (simp only [bI, wi]; first | exact (if_pos (by first | assumption | (simp only [Int32.lt_iff_toInt_lt, Int32.le_iff_toInt_le, ← Int32.toInt_inj] at *; omega))).symm | exact (if_neg (by first | assumption | (simp only [Int32.lt_iff_toInt_lt, Int32.le_iff_toInt_le, ← Int32.toInt_inj] at *; omega))).symm), rfl, rfl⟩, fun hc2 => ⟨fun hc1 => ⟨by (simp only [bI, wi]; first | exact (if_pos (by first | assumption | (simp only [Int32.lt_iff_toInt_lt, Int32.le_iff_toInt_le, ← Int32.toInt_inj] at *; omega))).symm | exact (if_neg (by first | assumption | (simp only [Int32.lt_iff_toInt_lt, Int32.le_iff_toInt_le, ← Int32.toInt_inj] at *; omega))).symm), rfl, rfl⟩, fun hc1 => ⟨by (simp only [bI, wi]; first | exact (if_pos (by first | assumption | (simp only [Int32.lt_iff_toInt_lt, Int32.le_iff_toInt_le, ← Int32.toInt_inj] at *; omega))).symm | exact (if_neg (by first | assumption | (simp only [Int32.lt_iff_toInt_lt, Int32.le_iff_toInt_le, ← Int32.toInt_inj] at *; omega))).symm), rfl, rfl⟩⟩⟩)

def fX11_isTick_0 (T : Topo) (a1 : Int32) (Q : Int32 → Topo → IM → Prop)  (I : IM) : Prop :=
  (Q (bI (wi a1 0 23)) T I)
set_option maxHeartbeats 4000000 in
set_option maxRecDepth 100000 in
theorem sX11_isTick_0 (d : Nat) {T : Topo} (hT : Lay T) (a1 : Int32)    {Q : Int32 → Topo → IM → Prop}   (I : IM) (h : fX11_isTick_0 T a1 Q  I) : J (d + 1) mX11_isTick (PI Q) 0 0 0 [some (.int a1)] [] T I 0 0 := by
  unfold fX11_isTick_0 at h
  refine J.iload_n dX11_isTick_0 rfl rfl ?_
  refine J.iconst (v := 0) dX11_isTick_1 (by decide) ?_
  refine J.bipush (v := 23) dX11_isTick_2 (by decide) ?_
  refine J.callSP (as := [.int a1, .int 0, .int 23]) (rest := []) dX11_isTick_4 kX11_isWithin vX11_isWithin lX11_60 rfl rfl rfl (by omega) (Nat.le_refl _) (Nat.le_refl _) (qX11_isWithin (d + 0) hT a1 0 23 ) ?_
  exact J.zretQ dX11_isTick_7 rfl (bI_01 _) (Nat.le_refl _) (Nat.le_refl _) h
set_option maxHeartbeats 4000000 in
set_option maxRecDepth 100000 in
theorem wX11_isTick (d : Nat) {T : Topo} (hT : Lay T) (a1 : Int32)   {Q : Int32 → Topo → IM → Prop} {I : IM} (h : fX11_isTick_0 T a1 Q I) : Ct (d + 1) mX11_isTick [.int a1] T I 0 0 (PI Q) :=
  Ct.ofJ (by decide +kernel) rfl (by intro v hv; revert v hv; simp [Value.category]) rfl (sX11_isTick_0 d hT a1   I h)

theorem qX11_isTick (d : Nat) {T : Topo} {I : IM} (hT : Lay T) (a1 : Int32)  : CtP (d + 1) mX11_isTick [.int a1] T I (bI (wi a1 0 23)) :=
  wX11_isTick d hT a1  (by
  unfold fX11_isTick_0
  exact ⟨by rfl, rfl, rfl⟩)

def fX11_isKind_0 (T : Topo) (a1 : Int32) (Q : Int32 → Topo → IM → Prop)  (I : IM) : Prop :=
  (Q (bI (wi a1 0 4)) T I)
set_option maxHeartbeats 4000000 in
set_option maxRecDepth 100000 in
theorem sX11_isKind_0 (d : Nat) {T : Topo} (hT : Lay T) (a1 : Int32)    {Q : Int32 → Topo → IM → Prop}   (I : IM) (h : fX11_isKind_0 T a1 Q  I) : J (d + 1) mX11_isKind (PI Q) 0 0 0 [some (.int a1)] [] T I 0 0 := by
  unfold fX11_isKind_0 at h
  refine J.iload_n dX11_isKind_0 rfl rfl ?_
  refine J.iconst (v := 0) dX11_isKind_1 (by decide) ?_
  refine J.iconst (v := 4) dX11_isKind_2 (by decide) ?_
  refine J.callSP (as := [.int a1, .int 0, .int 4]) (rest := []) dX11_isKind_3 kX11_isWithin vX11_isWithin lX11_60 rfl rfl rfl (by omega) (Nat.le_refl _) (Nat.le_refl _) (qX11_isWithin (d + 0) hT a1 0 4 ) ?_
  exact J.zretQ dX11_isKind_6 rfl (bI_01 _) (Nat.le_refl _) (Nat.le_refl _) h
set_option maxHeartbeats 4000000 in
set_option maxRecDepth 100000 in
theorem wX11_isKind (d : Nat) {T : Topo} (hT : Lay T) (a1 : Int32)   {Q : Int32 → Topo → IM → Prop} {I : IM} (h : fX11_isKind_0 T a1 Q I) : Ct (d + 1) mX11_isKind [.int a1] T I 0 0 (PI Q) :=
  Ct.ofJ (by decide +kernel) rfl (by intro v hv; revert v hv; simp [Value.category]) rfl (sX11_isKind_0 d hT a1   I h)

theorem qX11_isKind (d : Nat) {T : Topo} {I : IM} (hT : Lay T) (a1 : Int32)  : CtP (d + 1) mX11_isKind [.int a1] T I (bI (wi a1 0 4)) :=
  wX11_isKind d hT a1  (by
  unfold fX11_isKind_0
  exact ⟨by rfl, rfl, rfl⟩)

def fX11_isSheet_0 (T : Topo) (a1 : Int32) (Q : Int32 → Topo → IM → Prop)  (I : IM) : Prop :=
  (Q (bI (wi a1 0 3)) T I)
set_option maxHeartbeats 4000000 in
set_option maxRecDepth 100000 in
theorem sX11_isSheet_0 (d : Nat) {T : Topo} (hT : Lay T) (a1 : Int32)    {Q : Int32 → Topo → IM → Prop}   (I : IM) (h : fX11_isSheet_0 T a1 Q  I) : J (d + 1) mX11_isSheet (PI Q) 0 0 0 [some (.int a1)] [] T I 0 0 := by
  unfold fX11_isSheet_0 at h
  refine J.iload_n dX11_isSheet_0 rfl rfl ?_
  refine J.iconst (v := 0) dX11_isSheet_1 (by decide) ?_
  refine J.iconst (v := 3) dX11_isSheet_2 (by decide) ?_
  refine J.callSP (as := [.int a1, .int 0, .int 3]) (rest := []) dX11_isSheet_3 kX11_isWithin vX11_isWithin lX11_60 rfl rfl rfl (by omega) (Nat.le_refl _) (Nat.le_refl _) (qX11_isWithin (d + 0) hT a1 0 3 ) ?_
  exact J.zretQ dX11_isSheet_6 rfl (bI_01 _) (Nat.le_refl _) (Nat.le_refl _) h
set_option maxHeartbeats 4000000 in
set_option maxRecDepth 100000 in
theorem wX11_isSheet (d : Nat) {T : Topo} (hT : Lay T) (a1 : Int32)   {Q : Int32 → Topo → IM → Prop} {I : IM} (h : fX11_isSheet_0 T a1 Q I) : Ct (d + 1) mX11_isSheet [.int a1] T I 0 0 (PI Q) :=
  Ct.ofJ (by decide +kernel) rfl (by intro v hv; revert v hv; simp [Value.category]) rfl (sX11_isSheet_0 d hT a1   I h)

theorem qX11_isSheet (d : Nat) {T : Topo} {I : IM} (hT : Lay T) (a1 : Int32)  : CtP (d + 1) mX11_isSheet [.int a1] T I (bI (wi a1 0 3)) :=
  wX11_isSheet d hT a1  (by
  unfold fX11_isSheet_0
  exact ⟨by rfl, rfl, rfl⟩)

def jPlaceOn (a1 : Int32) (a2 : Int32) (a3 : Int32) : Int32 := ((a1 ||| (a2 <<< ((9 : Int32) &&& 31))) ||| (a3 <<< ((18 : Int32) &&& 31)))
def fX11_placeOn_0 (T : Topo) (a1 : Int32) (a2 : Int32) (a3 : Int32) (Q : Int32 → Topo → IM → Prop)  (I : IM) : Prop :=
  Q ((a1 ||| (a2 <<< ((9 : Int32) &&& 31))) ||| (a3 <<< ((18 : Int32) &&& 31))) T I
set_option maxHeartbeats 4000000 in
set_option maxRecDepth 100000 in
theorem sX11_placeOn_0 (d : Nat) {T : Topo} (hT : Lay T) (a1 : Int32) (a2 : Int32) (a3 : Int32)    {Q : Int32 → Topo → IM → Prop}   (I : IM) (h : fX11_placeOn_0 T a1 a2 a3 Q  I) : J (d + 0) mX11_placeOn (PI Q) 0 0 0 [some (.int a1), some (.int a2), some (.int a3)] [] T I 0 0 := by
  unfold fX11_placeOn_0 at h
  refine J.iload_n dX11_placeOn_0 rfl rfl ?_
  refine J.iload_n dX11_placeOn_1 rfl rfl ?_
  refine J.bipush (v := 9) dX11_placeOn_2 (by decide) ?_
  refine J.ishl dX11_placeOn_4 ?_
  refine J.ior dX11_placeOn_5 ?_
  refine J.iload_n dX11_placeOn_6 rfl rfl ?_
  refine J.bipush (v := 18) dX11_placeOn_7 (by decide) ?_
  refine J.atpc (pc' := 9) rfl ?_
  refine J.ishl dX11_placeOn_9 ?_
  refine J.ior dX11_placeOn_10 ?_
  exact J.iretQ dX11_placeOn_11 rfl (Nat.le_refl _) (Nat.le_refl _) h
set_option maxHeartbeats 4000000 in
set_option maxRecDepth 100000 in
theorem wX11_placeOn (d : Nat) {T : Topo} (hT : Lay T) (a1 : Int32) (a2 : Int32) (a3 : Int32)   {Q : Int32 → Topo → IM → Prop} {I : IM} (h : fX11_placeOn_0 T a1 a2 a3 Q I) : Ct (d + 0) mX11_placeOn [.int a1, .int a2, .int a3] T I 0 0 (PI Q) :=
  Ct.ofJ (by decide +kernel) rfl (by intro v hv; revert v hv; simp [Value.category]) rfl (sX11_placeOn_0 d hT a1 a2 a3   I h)

theorem qX11_placeOn (d : Nat) {T : Topo} {I : IM} (hT : Lay T) (a1 : Int32) (a2 : Int32) (a3 : Int32)  : CtP (d + 0) mX11_placeOn [.int a1, .int a2, .int a3] T I ((jPlaceOn a1 a2 a3)) :=
  wX11_placeOn d hT a1 a2 a3  (by
  unfold fX11_placeOn_0
  exact ⟨by rfl, rfl, rfl⟩)

def jWayIn (a1 : Int32) : Int32 := (a1 &&& 511)
def fX11_wayIn_0 (T : Topo) (a1 : Int32) (Q : Int32 → Topo → IM → Prop)  (I : IM) : Prop :=
  Q (a1 &&& 511) T I
set_option maxHeartbeats 4000000 in
set_option maxRecDepth 100000 in
theorem sX11_wayIn_0 (d : Nat) {T : Topo} (hT : Lay T) (a1 : Int32)    {Q : Int32 → Topo → IM → Prop}   (I : IM) (h : fX11_wayIn_0 T a1 Q  I) : J (d + 0) mX11_wayIn (PI Q) 0 0 0 [some (.int a1)] [] T I 0 0 := by
  unfold fX11_wayIn_0 at h
  refine J.iload_n dX11_wayIn_0 rfl rfl ?_
  refine J.sipush (v := 511) dX11_wayIn_1 (by decide) ?_
  refine J.iand dX11_wayIn_4 ?_
  exact J.iretQ dX11_wayIn_5 rfl (Nat.le_refl _) (Nat.le_refl _) h
set_option maxHeartbeats 4000000 in
set_option maxRecDepth 100000 in
theorem wX11_wayIn (d : Nat) {T : Topo} (hT : Lay T) (a1 : Int32)   {Q : Int32 → Topo → IM → Prop} {I : IM} (h : fX11_wayIn_0 T a1 Q I) : Ct (d + 0) mX11_wayIn [.int a1] T I 0 0 (PI Q) :=
  Ct.ofJ (by decide +kernel) rfl (by intro v hv; revert v hv; simp [Value.category]) rfl (sX11_wayIn_0 d hT a1   I h)

theorem qX11_wayIn (d : Nat) {T : Topo} {I : IM} (hT : Lay T) (a1 : Int32)  : CtP (d + 0) mX11_wayIn [.int a1] T I ((jWayIn a1)) :=
  wX11_wayIn d hT a1  (by
  unfold fX11_wayIn_0
  exact ⟨by rfl, rfl, rfl⟩)

def jSpareOf (a1 : Int32) : Int32 := ((a1 >>> ((9 : Int32) &&& 31)) &&& 511)
def fX11_spareOf_0 (T : Topo) (a1 : Int32) (Q : Int32 → Topo → IM → Prop)  (I : IM) : Prop :=
  Q ((a1 >>> ((9 : Int32) &&& 31)) &&& 511) T I
set_option maxHeartbeats 4000000 in
set_option maxRecDepth 100000 in
theorem sX11_spareOf_0 (d : Nat) {T : Topo} (hT : Lay T) (a1 : Int32)    {Q : Int32 → Topo → IM → Prop}   (I : IM) (h : fX11_spareOf_0 T a1 Q  I) : J (d + 0) mX11_spareOf (PI Q) 0 0 0 [some (.int a1)] [] T I 0 0 := by
  unfold fX11_spareOf_0 at h
  refine J.iload_n dX11_spareOf_0 rfl rfl ?_
  refine J.bipush (v := 9) dX11_spareOf_1 (by decide) ?_
  refine J.ishr dX11_spareOf_3 ?_
  refine J.sipush (v := 511) dX11_spareOf_4 (by decide) ?_
  refine J.iand dX11_spareOf_7 ?_
  exact J.iretQ dX11_spareOf_8 rfl (Nat.le_refl _) (Nat.le_refl _) h
set_option maxHeartbeats 4000000 in
set_option maxRecDepth 100000 in
theorem wX11_spareOf (d : Nat) {T : Topo} (hT : Lay T) (a1 : Int32)   {Q : Int32 → Topo → IM → Prop} {I : IM} (h : fX11_spareOf_0 T a1 Q I) : Ct (d + 0) mX11_spareOf [.int a1] T I 0 0 (PI Q) :=
  Ct.ofJ (by decide +kernel) rfl (by intro v hv; revert v hv; simp [Value.category]) rfl (sX11_spareOf_0 d hT a1   I h)

theorem qX11_spareOf (d : Nat) {T : Topo} {I : IM} (hT : Lay T) (a1 : Int32)  : CtP (d + 0) mX11_spareOf [.int a1] T I ((jSpareOf a1)) :=
  wX11_spareOf d hT a1  (by
  unfold fX11_spareOf_0
  exact ⟨by rfl, rfl, rfl⟩)

def jLinesOf (a1 : Int32) : Int32 := ((jWayIn a1) ||| (jSpareOf a1))
def fX11_linesOf_0 (T : Topo) (a1 : Int32) (Q : Int32 → Topo → IM → Prop)  (I : IM) : Prop :=
  ((Q ((jWayIn a1) ||| (jSpareOf a1)) T I))
set_option maxHeartbeats 4000000 in
set_option maxRecDepth 100000 in
theorem sX11_linesOf_0 (d : Nat) {T : Topo} (hT : Lay T) (a1 : Int32)    {Q : Int32 → Topo → IM → Prop}   (I : IM) (h : fX11_linesOf_0 T a1 Q  I) : J (d + 1) mX11_linesOf (PI Q) 0 0 0 [some (.int a1)] [] T I 0 0 := by
  unfold fX11_linesOf_0 at h
  refine J.iload_n dX11_linesOf_0 rfl rfl ?_
  refine J.callSP (as := [.int a1]) (rest := []) dX11_linesOf_1 kX11_wayIn vX11_wayIn lX11_224 rfl rfl rfl (by omega) (Nat.le_refl _) (Nat.le_refl _) (qX11_wayIn (d + 0) hT a1 ) ?_
  refine J.iload_n dX11_linesOf_4 rfl rfl ?_
  refine J.callSP (as := [.int a1]) (rest := [.int (jWayIn a1)]) dX11_linesOf_5 kX11_spareOf vX11_spareOf lX11_221 rfl rfl rfl (by omega) (Nat.le_refl _) (Nat.le_refl _) (qX11_spareOf (d + 0) hT a1 ) ?_
  refine J.ior dX11_linesOf_8 ?_
  exact J.iretQ dX11_linesOf_9 rfl (Nat.le_refl _) (Nat.le_refl _) h
set_option maxHeartbeats 4000000 in
set_option maxRecDepth 100000 in
theorem wX11_linesOf (d : Nat) {T : Topo} (hT : Lay T) (a1 : Int32)   {Q : Int32 → Topo → IM → Prop} {I : IM} (h : fX11_linesOf_0 T a1 Q I) : Ct (d + 1) mX11_linesOf [.int a1] T I 0 0 (PI Q) :=
  Ct.ofJ (by decide +kernel) rfl (by intro v hv; revert v hv; simp [Value.category]) rfl (sX11_linesOf_0 d hT a1   I h)

theorem qX11_linesOf (d : Nat) {T : Topo} {I : IM} (hT : Lay T) (a1 : Int32)  : CtP (d + 1) mX11_linesOf [.int a1] T I ((jLinesOf a1)) :=
  wX11_linesOf d hT a1  (by
  unfold fX11_linesOf_0
  exact ⟨by rfl, rfl, rfl⟩)

def jHostOf (a1 : Int32) : Int32 := (a1 >>> ((18 : Int32) &&& 31))
def fX11_hostOf_0 (T : Topo) (a1 : Int32) (Q : Int32 → Topo → IM → Prop)  (I : IM) : Prop :=
  Q (a1 >>> ((18 : Int32) &&& 31)) T I
set_option maxHeartbeats 4000000 in
set_option maxRecDepth 100000 in
theorem sX11_hostOf_0 (d : Nat) {T : Topo} (hT : Lay T) (a1 : Int32)    {Q : Int32 → Topo → IM → Prop}   (I : IM) (h : fX11_hostOf_0 T a1 Q  I) : J (d + 0) mX11_hostOf (PI Q) 0 0 0 [some (.int a1)] [] T I 0 0 := by
  unfold fX11_hostOf_0 at h
  refine J.iload_n dX11_hostOf_0 rfl rfl ?_
  refine J.bipush (v := 18) dX11_hostOf_1 (by decide) ?_
  refine J.ishr dX11_hostOf_3 ?_
  exact J.iretQ dX11_hostOf_4 rfl (Nat.le_refl _) (Nat.le_refl _) h
set_option maxHeartbeats 4000000 in
set_option maxRecDepth 100000 in
theorem wX11_hostOf (d : Nat) {T : Topo} (hT : Lay T) (a1 : Int32)   {Q : Int32 → Topo → IM → Prop} {I : IM} (h : fX11_hostOf_0 T a1 Q I) : Ct (d + 0) mX11_hostOf [.int a1] T I 0 0 (PI Q) :=
  Ct.ofJ (by decide +kernel) rfl (by intro v hv; revert v hv; simp [Value.category]) rfl (sX11_hostOf_0 d hT a1   I h)

theorem qX11_hostOf (d : Nat) {T : Topo} {I : IM} (hT : Lay T) (a1 : Int32)  : CtP (d + 0) mX11_hostOf [.int a1] T I ((jHostOf a1)) :=
  wX11_hostOf d hT a1  (by
  unfold fX11_hostOf_0
  exact ⟨by rfl, rfl, rfl⟩)

def fnd (I : IM) : IM := up2 I 0 7 (I 0 7 + 1)
def fX11_finding_0 (T : Topo) (a1 : Int32) (Q : Int32 → Topo → IM → Prop)  (I : IM) : Prop :=
  Q a1 T (up2 I 0 7 ((I 0 7) + 1))
set_option maxHeartbeats 4000000 in
set_option maxRecDepth 100000 in
theorem sX11_finding_0 (d : Nat) {T : Topo} (hT : Lay T) (a1 : Int32)    {Q : Int32 → Topo → IM → Prop}   (I : IM) (h : fX11_finding_0 T a1 Q  I) : J (d + 0) mX11_finding (PI Q) 0 0 0 [some (.ref 0), some (.int a1)] [] T I 0 0 := by
  unfold fX11_finding_0 at h
  refine J.aload_n dX11_finding_0 rfl rfl ?_
  refine J.dup dX11_finding_1 rfl ?_
  refine J.getI dX11_finding_2 fX11_349 (hT.k 0 rfl) rfl ?_
  refine J.iconst (v := 1) dX11_finding_5 (by decide) ?_
  refine J.iadd dX11_finding_6 ?_
  refine J.putI dX11_finding_7 fX11_349 (hT.k 0 rfl) rfl ?_
  refine J.iload_n dX11_finding_10 rfl rfl ?_
  refine J.atpc (pc' := 11) rfl ?_
  exact J.iretQ dX11_finding_11 rfl (Nat.le_refl _) (Nat.le_refl _) h
set_option maxHeartbeats 4000000 in
set_option maxRecDepth 100000 in
theorem wX11_finding (d : Nat) {T : Topo} (hT : Lay T) (a1 : Int32)   {Q : Int32 → Topo → IM → Prop} {I : IM} (h : fX11_finding_0 T a1 Q I) : Ct (d + 0) mX11_finding [.ref 0, .int a1] T I 0 0 (PI Q) :=
  Ct.ofJ (by decide +kernel) rfl (by intro v hv; revert v hv; simp [Value.category]) rfl (sX11_finding_0 d hT a1   I h)

theorem qX11_finding (d : Nat) {T : Topo} {I : IM} (hT : Lay T) (a1 : Int32)  : CtI (d + 0) mX11_finding [.ref 0, .int a1] T I (fun x_ J_ => x_ = a1 ∧ J_ = (fnd I)) :=
  wX11_finding d hT a1  (by
  unfold fX11_finding_0
  exact ⟨rfl, by rfl, by rfl⟩)

end
