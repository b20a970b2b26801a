noncomputable section
def FU : Nat := Classical.choose (show ∃ n : Nat, n = 1000000 from ⟨_, rfl⟩)
theorem FU_eq : FU = 1000000 := Classical.choose_spec (show ∃ n : Nat, n = 1000000 from ⟨_, rfl⟩)
def fX10_lateOf_0 (T : Topo) (a1 : Int32) (Q : Int32 → Topo → IM → Prop)  (I : IM) : Prop :=
  Q (a1 >>> ((23 : Int32) &&& 31)) T I
set_option maxHeartbeats 4000000 in
set_option maxRecDepth 100000 in
theorem sX10_lateOf_0 (d : Nat) {T : Topo} (hT : Lay T) (a1 : Int32)    {Q : Int32 → Topo → IM → Prop}   (I : IM) (h : fX10_lateOf_0 T a1 Q  I) : J (d + 0) mX10_lateOf (PI Q) 0 0 0 [some (.int a1)] [] T I 0 0 := by
  unfold fX10_lateOf_0 at h
  refine J.iload_n dX10_lateOf_0 rfl rfl ?_
  refine J.bipush (v := 23) dX10_lateOf_1 (by decide) ?_
  refine J.ishr dX10_lateOf_3 ?_
  exact J.iretQ dX10_lateOf_4 rfl (Nat.le_refl _) (Nat.le_refl _) h
set_option maxHeartbeats 4000000 in
set_option maxRecDepth 100000 in
theorem wX10_lateOf (d : Nat) {T : Topo} (hT : Lay T) (a1 : Int32)   {Q : Int32 → Topo → IM → Prop} {I : IM} (h : fX10_lateOf_0 T a1 Q I) : Ct (d + 0) mX10_lateOf [.int a1] T I 0 0 (PI Q) :=
  Ct.ofJ (by decide +kernel) rfl (by intro v hv; revert v hv; simp [Value.category]) rfl (sX10_lateOf_0 d hT a1   I h)

def jLateOf (a1 : Int32) : Int32 := (a1 >>> ((23 : Int32) &&& 31))
set_option maxRecDepth 10000 in
theorem qX10_lateOf (d : Nat) {T : Topo} {I : IM} (hT : Lay T) (a1 : Int32)   : CtP (d + 0) mX10_lateOf [.int a1] T I ((jLateOf a1)) :=
  wX10_lateOf d hT a1   (by
  unfold fX10_lateOf_0
  exact ⟨by unfold jLateOf; rfl, rfl, rfl⟩)

def fX10_countOf_0 (T : Topo) (a1 : Int32) (Q : Int32 → Topo → IM → Prop)  (I : IM) : Prop :=
  Q ((a1 >>> ((20 : Int32) &&& 31)) &&& 7) T I
set_option maxHeartbeats 4000000 in
set_option maxRecDepth 100000 in
theorem sX10_countOf_0 (d : Nat) {T : Topo} (hT : Lay T) (a1 : Int32)    {Q : Int32 → Topo → IM → Prop}   (I : IM) (h : fX10_countOf_0 T a1 Q  I) : J (d + 0) mX10_countOf (PI Q) 0 0 0 [some (.int a1)] [] T I 0 0 := by
  unfold fX10_countOf_0 at h
  refine J.iload_n dX10_countOf_0 rfl rfl ?_
  refine J.bipush (v := 20) dX10_countOf_1 (by decide) ?_
  refine J.ishr dX10_countOf_3 ?_
  refine J.bipush (v := 7) dX10_countOf_4 (by decide) ?_
  refine J.iand dX10_countOf_6 ?_
  exact J.iretQ dX10_countOf_7 rfl (Nat.le_refl _) (Nat.le_refl _) h
set_option maxHeartbeats 4000000 in
set_option maxRecDepth 100000 in
theorem wX10_countOf (d : Nat) {T : Topo} (hT : Lay T) (a1 : Int32)   {Q : Int32 → Topo → IM → Prop} {I : IM} (h : fX10_countOf_0 T a1 Q I) : Ct (d + 0) mX10_countOf [.int a1] T I 0 0 (PI Q) :=
  Ct.ofJ (by decide +kernel) rfl (by intro v hv; revert v hv; simp [Value.category]) rfl (sX10_countOf_0 d hT a1   I h)

def jCountOf (a1 : Int32) : Int32 := ((a1 >>> ((20 : Int32) &&& 31)) &&& 7)
set_option maxRecDepth 10000 in
theorem qX10_countOf (d : Nat) {T : Topo} {I : IM} (hT : Lay T) (a1 : Int32)   : CtP (d + 0) mX10_countOf [.int a1] T I ((jCountOf a1)) :=
  wX10_countOf d hT a1   (by
  unfold fX10_countOf_0
  exact ⟨by unfold jCountOf; rfl, rfl, rfl⟩)

def fX10_lineAt_0 (T : Topo) (a1 : Int32) (a2 : Int32) (Q : Int32 → Topo → IM → Prop)  (I : IM) : Prop :=
  ((((0 ≤ (((jCountOf a1) - 1) - a2)) → Q ((a1 >>> ((4 * (((jCountOf a1) - 1) - a2)) &&& 31)) &&& 15) T I) ∧ ((¬ 0 ≤ (((jCountOf a1) - 1) - a2)) → Q (-1) T I)))
set_option maxHeartbeats 4000000 in
set_option maxRecDepth 100000 in
theorem sX10_lineAt_0 (d : Nat) {T : Topo} (hT : Lay T) (a1 : Int32) (a2 : Int32)    {Q : Int32 → Topo → IM → Prop}   (I : IM) (h : fX10_lineAt_0 T a1 a2 Q  I) : J (d + 1) mX10_lineAt (PI Q) 0 0 0 [some (.int a1), some (.int a2), none] [] T I 0 0 := by
  unfold fX10_lineAt_0 at h
  refine J.iload_n dX10_lineAt_0 rfl rfl ?_
  refine J.callSP (as := [.int a1]) (rest := []) dX10_lineAt_1 kX10_countOf vX10_countOf lX10_25 rfl rfl rfl (by omega) (Nat.le_refl _) (Nat.le_refl _) (qX10_countOf (d + 0) hT a1 ) ?_
  refine J.iconst (v := 1) dX10_lineAt_4 (by decide) ?_
  refine J.isub dX10_lineAt_5 ?_
  refine J.iload_n dX10_lineAt_6 rfl rfl ?_
  refine J.isub dX10_lineAt_7 ?_
  refine J.istore_n (ls' := [some (.int a1), some (.int a2), some (.int (((jCountOf a1) - 1) - a2))]) dX10_lineAt_8 rfl rfl rfl ?_
  refine J.iload_n dX10_lineAt_9 rfl rfl ?_
  refine J.if_ge (tgt := 17) dX10_lineAt_10 (by decide) (fun hc1 => ?_) (fun hc1 => ?_)
  · have h := h.1 hc1
    refine J.iload_n dX10_lineAt_17 rfl rfl ?_
    refine J.iconst (v := 4) dX10_lineAt_18 (by decide) ?_
    refine J.iload_n dX10_lineAt_19 rfl rfl ?_
    refine J.imul dX10_lineAt_20 ?_
    refine J.ishr dX10_lineAt_21 ?_
    refine J.bipush (v := 15) dX10_lineAt_22 (by decide) ?_
    refine J.iand dX10_lineAt_24 ?_
    refine J.atpc (pc' := 25) rfl ?_
    exact J.iretQ dX10_lineAt_25 rfl (Nat.le_refl _) (Nat.le_refl _) h
  · have h := h.2 hc1
    refine J.iconst (v := (-1)) dX10_lineAt_13 (by decide) ?_
    refine J.goto (tgt := 25) dX10_lineAt_14 (by decide) ?_
    exact J.iretQ dX10_lineAt_25 rfl (Nat.le_refl _) (Nat.le_refl _) h
set_option maxHeartbeats 4000000 in
set_option maxRecDepth 100000 in
theorem wX10_lineAt (d : Nat) {T : Topo} (hT : Lay T) (a1 : Int32) (a2 : Int32)   {Q : Int32 → Topo → IM → Prop} {I : IM} (h : fX10_lineAt_0 T a1 a2 Q I) : Ct (d + 1) mX10_lineAt [.int a1, .int a2] T I 0 0 (PI Q) :=
  Ct.ofJ (by decide +kernel) rfl (by intro v hv; revert v hv; simp [Value.category]) rfl (sX10_lineAt_0 d hT a1 a2   I h)

def jLineAtW (a1 : Int32) (a2 : Int32) : Int32 := (if 0 ≤ (((jCountOf a1) - 1) - a2) then ((a1 >>> ((4 * (((jCountOf a1) - 1) - a2)) &&& 31)) &&& 15) else (-1))
set_option maxRecDepth 10000 in
theorem qX10_lineAt (d : Nat) {T : Topo} {I : IM} (hT : Lay T) (a1 : Int32) (a2 : Int32)   : CtP (d + 1) mX10_lineAt [.int a1, .int a2] T I ((jLineAtW a1 a2)) :=
  wX10_lineAt d hT a1 a2   (by
  unfold fX10_lineAt_0
  exact ⟨fun hc1 => ⟨by unfold jLineAtW; rw [if_pos hc1], rfl, rfl⟩, fun hc1 => ⟨by unfold jLineAtW; rw [if_neg hc1], rfl, rfl⟩⟩)

def fX10_longer_0 (T : Topo) (a1 : Int32) (a2 : Int32) (a3 : Int32) (Q : Int32 → Topo → IM → Prop)  (I : IM) : Prop :=
  Q (((((a1 - (a1 &&& 1048575)) + (a3 <<< ((23 : Int32) &&& 31))) + 1048576) ||| ((a1 &&& 1048575) <<< ((4 : Int32) &&& 31))) ||| a2) T I
set_option maxHeartbeats 4000000 in
set_option maxRecDepth 100000 in
theorem sX10_longer_0 (d : Nat) {T : Topo} (hT : Lay T) (a1 : Int32) (a2 : Int32) (a3 : Int32)    {Q : Int32 → Topo → IM → Prop}   (I : IM) (h : fX10_longer_0 T a1 a2 a3 Q  I) : J (d + 0) mX10_longer (PI Q) 0 0 0 [some (.int a1), some (.int a2), some (.int a3), none, none] [] T I 0 0 := by
  unfold fX10_longer_0 at h
  refine J.iload_n dX10_longer_0 rfl rfl ?_
  refine J.ldc (v := 1048575) dX10_longer_1 kcX10_29 ?_
  refine J.iand dX10_longer_3 ?_
  refine J.istore_n (ls' := [some (.int a1), some (.int a2), some (.int a3), some (.int (a1 &&& 1048575)), none]) dX10_longer_4 rfl rfl rfl ?_
  refine J.iload_n dX10_longer_5 rfl rfl ?_
  refine J.iload_n dX10_longer_6 rfl rfl ?_
  refine J.isub dX10_longer_7 ?_
  refine J.atpc (pc' := 8) rfl ?_
  refine J.iload_n dX10_longer_8 rfl rfl ?_
  refine J.bipush (v := 23) dX10_longer_9 (by decide) ?_
  refine J.ishl dX10_longer_11 ?_
  refine J.iadd dX10_longer_12 ?_
  refine J.ldc (v := 1048576) dX10_longer_13 kcX10_30 ?_
  refine J.iadd dX10_longer_15 ?_
  refine J.istore (ls' := [some (.int a1), some (.int a2), some (.int a3), some (.int (a1 &&& 1048575)), some (.int (((a1 - (a1 &&& 1048575)) + (a3 <<< ((23 : Int32) &&& 31))) + 1048576))]) dX10_longer_16 rfl rfl ?_
  refine J.iload dX10_longer_18 rfl ?_
  refine J.atpc (pc' := 20) rfl ?_
  refine J.iload_n dX10_longer_20 rfl rfl ?_
  refine J.iconst (v := 4) dX10_longer_21 (by decide) ?_
  refine J.ishl dX10_longer_22 ?_
  refine J.ior dX10_longer_23 ?_
  refine J.iload_n dX10_longer_24 rfl rfl ?_
  refine J.ior dX10_longer_25 ?_
  exact J.iretQ dX10_longer_26 rfl (Nat.le_refl _) (Nat.le_refl _) h
set_option maxHeartbeats 4000000 in
set_option maxRecDepth 100000 in
theorem wX10_longer (d : Nat) {T : Topo} (hT : Lay T) (a1 : Int32) (a2 : Int32) (a3 : Int32)   {Q : Int32 → Topo → IM → Prop} {I : IM} (h : fX10_longer_0 T a1 a2 a3 Q I) : Ct (d + 0) mX10_longer [.int a1, .int a2, .int a3] T I 0 0 (PI Q) :=
  Ct.ofJ (by decide +kernel) rfl (by intro v hv; revert v hv; simp [Value.category]) rfl (sX10_longer_0 d hT a1 a2 a3   I h)

def jLonger (a1 : Int32) (a2 : Int32) (a3 : Int32) : Int32 := (((((a1 - (a1 &&& 1048575)) + (a3 <<< ((23 : Int32) &&& 31))) + 1048576) ||| ((a1 &&& 1048575) <<< ((4 : Int32) &&& 31))) ||| a2)
set_option maxRecDepth 10000 in
theorem qX10_longer (d : Nat) {T : Topo} {I : IM} (hT : Lay T) (a1 : Int32) (a2 : Int32) (a3 : Int32)   : CtP (d + 0) mX10_longer [.int a1, .int a2, .int a3] T I ((jLonger a1 a2 a3)) :=
  wX10_longer d hT a1 a2 a3   (by
  unfold fX10_longer_0
  exact ⟨by unfold jLonger; rfl, rfl, rfl⟩)

def fX10_keyAt_0 (T : Topo) (a1 : Int32) (Q : Int32 → Topo → IM → Prop)  (I : IM) : Prop :=
  (vp_in a1 27 ∧ Q (I 5 a1.toNatClampNeg) T I)
set_option maxHeartbeats 4000000 in
set_option maxRecDepth 100000 in
theorem sX10_keyAt_0 (d : Nat) {T : Topo} (hT : Lay T) (a1 : Int32)    {Q : Int32 → Topo → IM → Prop}   (I : IM) (h : fX10_keyAt_0 T a1 Q  I) : J (d + 0) mX10_keyAt (PI Q) 0 0 0 [some (.ref 4), some (.int a1)] [] T I 0 0 := by
  unfold fX10_keyAt_0 at h
  refine J.aload_n dX10_keyAt_0 rfl rfl ?_
  refine J.getR (r := 5) dX10_keyAt_1 fX10_11 (hT.k 4 rfl) rfl (hT.r 4 0 rfl rfl) ?_
  refine J.iload_n dX10_keyAt_4 rfl rfl ?_
  obtain ⟨hs1, h⟩ := h
  refine J.iald dX10_keyAt_5 (hT.k 5 rfl) (hT.l 5 rfl) hs1 ?_
  exact J.iretQ dX10_keyAt_6 rfl (Nat.le_refl _) (Nat.le_refl _) h
set_option maxHeartbeats 4000000 in
set_option maxRecDepth 100000 in
theorem wX10_keyAt (d : Nat) {T : Topo} (hT : Lay T) (a1 : Int32)   {Q : Int32 → Topo → IM → Prop} {I : IM} (h : fX10_keyAt_0 T a1 Q I) : Ct (d + 0) mX10_keyAt [.ref 4, .int a1] T I 0 0 (PI Q) :=
  Ct.ofJ (by decide +kernel) rfl (by intro v hv; revert v hv; simp [Value.category]) rfl (sX10_keyAt_0 d hT a1   I h)

def jKeyAt (I : IM) (a1 : Int32) : Int32 := (I 5 a1.toNatClampNeg)
def jKeyAtK (a1 : Int32) : Prop := vp_in a1 27
set_option maxRecDepth 10000 in
theorem qX10_keyAt (d : Nat) {T : Topo} {I : IM} (hT : Lay T) (a1 : Int32)  (hp : (jKeyAtK a1)) : CtP (d + 0) mX10_keyAt [.ref 4, .int a1] T I ((jKeyAt I a1)) :=
  wX10_keyAt d hT a1   (by
  unfold fX10_keyAt_0
  exact ⟨hp, ⟨by unfold jKeyAt; rfl, rfl, rfl⟩⟩)

def fX10_linesIn_0 (T : Topo) (a1 : Int32) (Q : Int32 → Topo → IM → Prop) (K9 : Int32 → Int32 → Int32 → IM → Prop) (I : IM) : Prop :=
  (K9 0 a1 (jCountOf a1) I)
def fX10_linesIn_9 (T : Topo) (a1 : Int32) (Q : Int32 → Topo → IM → Prop) (K9 : Int32 → Int32 → Int32 → IM → Prop) (v1 v2 v3 : Int32) (I : IM) : Prop :=
  (((v3 ≤ 0) → Q v1 T I) ∧ ((¬ v3 ≤ 0) → K9 (v1 ||| ((1 : Int32) <<< ((v2 &&& 15) &&& 31))) (v2 >>> ((4 : Int32) &&& 31)) (v3 + (-1)) I))
set_option maxHeartbeats 4000000 in
set_option maxRecDepth 100000 in
theorem sX10_linesIn_0 (d : Nat) {T : Topo} (hT : Lay T) (a1 : Int32)    {Q : Int32 → Topo → IM → Prop} {K9 : Int32 → Int32 → Int32 → IM → Prop} (hK9 : ∀ (v1 v2 v3 : Int32) (I : IM), K9 v1 v2 v3 I → J (d + 1) mX10_linesIn (PI Q) 0 0 9 [none, some (.int v1), some (.int v2), some (.int v3)] [] T I 0 0) (I : IM) (h : fX10_linesIn_0 T a1 Q K9 I) : J (d + 1) mX10_linesIn (PI Q) 0 0 0 [some (.int a1), none, none, none] [] T I 0 0 := by
  unfold fX10_linesIn_0 at h
  refine J.iconst (v := 0) dX10_linesIn_0 (by decide) ?_
  refine J.istore_n (ls' := [some (.int a1), some (.int 0), none, none]) dX10_linesIn_1 rfl rfl rfl ?_
  refine J.iload_n dX10_linesIn_2 rfl rfl ?_
  refine J.istore_n (ls' := [some (.int a1), some (.int 0), some (.int a1), none]) dX10_linesIn_3 rfl rfl rfl ?_
  refine J.iload_n dX10_linesIn_4 rfl rfl ?_
  refine J.callSP (as := [.int a1]) (rest := []) dX10_linesIn_5 kX10_countOf vX10_countOf lX10_25 rfl rfl rfl (by omega) (Nat.le_refl _) (Nat.le_refl _) (qX10_countOf (d + 0) hT a1 ) ?_
  refine J.istore_n (ls' := [some (.int a1), some (.int 0), some (.int a1), some (.int (jCountOf a1))]) dX10_linesIn_8 rfl rfl rfl ?_
  exact J.weaken (ls' := [none, some (.int 0), some (.int a1), some (.int (jCountOf a1))]) (And.intro rfl (And.intro rfl (And.intro rfl trivial))) (hK9 0 a1 (jCountOf a1) I h)
set_option maxHeartbeats 4000000 in
set_option maxRecDepth 100000 in
theorem sX10_linesIn_9 (d : Nat) {T : Topo} (hT : Lay T) (a1 : Int32)    {Q : Int32 → Topo → IM → Prop} {K9 : Int32 → Int32 → Int32 → IM → Prop} (hK9 : ∀ (v1 v2 v3 : Int32) (I : IM), K9 v1 v2 v3 I → J (d + 1) mX10_linesIn (PI Q) 0 0 9 [none, some (.int v1), some (.int v2), some (.int v3)] [] T I 0 0) (v1 v2 v3 : Int32) (I : IM) (h : fX10_linesIn_9 T a1 Q K9 v1 v2 v3 I) : J (d + 1) mX10_linesIn (PI Q) 0 0 9 [none, some (.int v1), some (.int v2), some (.int v3)] [] T I 0 0 := by
  unfold fX10_linesIn_9 at h
  refine J.iload_n dX10_linesIn_9 rfl rfl ?_
  refine J.if_le (tgt := 32) dX10_linesIn_10 (by decide) (fun hc1 => ?_) (fun hc1 => ?_)
  · have h := h.1 hc1
    refine J.iload_n dX10_linesIn_32 rfl rfl ?_
    exact J.iretQ dX10_linesIn_33 rfl (Nat.le_refl _) (Nat.le_refl _) h
  · have h := h.2 hc1
    refine J.iload_n dX10_linesIn_13 rfl rfl ?_
    refine J.iconst (v := 1) dX10_linesIn_14 (by decide) ?_
    refine J.iload_n dX10_linesIn_15 rfl rfl ?_
    refine J.bipush (v := 15) dX10_linesIn_16 (by decide) ?_
    refine J.iand dX10_linesIn_18 ?_
    refine J.ishl dX10_linesIn_19 ?_
    refine J.ior dX10_linesIn_20 ?_
    refine J.atpc (pc' := 21) rfl ?_
    refine J.istore_n (ls' := [none, some (.int (v1 ||| ((1 : Int32) <<< ((v2 &&& 15) &&& 31)))), some (.int v2), some (.int v3)]) dX10_linesIn_21 rfl rfl rfl ?_
    refine J.iload_n dX10_linesIn_22 rfl rfl ?_
    refine J.iconst (v := 4) dX10_linesIn_23 (by decide) ?_
    refine J.ishr dX10_linesIn_24 ?_
    refine J.istore_n (ls' := [none, some (.int (v1 ||| ((1 : Int32) <<< ((v2 &&& 15) &&& 31)))), some (.int (v2 >>> ((4 : Int32) &&& 31))), some (.int v3)]) dX10_linesIn_25 rfl rfl rfl ?_
    refine J.iinc (v := (v3 + (-1))) (ls' := [none, some (.int (v1 ||| ((1 : Int32) <<< ((v2 &&& 15) &&& 31)))), some (.int (v2 >>> ((4 : Int32) &&& 31))), some (.int (v3 + (-1)))]) dX10_linesIn_26 rfl (by rfl) rfl ?_
    refine J.goto (tgt := 9) dX10_linesIn_29 (by decide) ?_
    exact J.weaken (ls' := [none, some (.int (v1 ||| ((1 : Int32) <<< ((v2 &&& 15) &&& 31)))), some (.int (v2 >>> ((4 : Int32) &&& 31))), some (.int (v3 + (-1)))]) (And.intro rfl (And.intro rfl (And.intro rfl trivial))) (hK9 (v1 ||| ((1 : Int32) <<< ((v2 &&& 15) &&& 31))) (v2 >>> ((4 : Int32) &&& 31)) (v3 + (-1)) I h)
set_option maxHeartbeats 4000000 in
set_option maxRecDepth 100000 in
theorem wX10_linesIn (d : Nat) {T : Topo} (hT : Lay T) (a1 : Int32)   {Q : Int32 → Topo → IM → Prop} (V9 : Int32 → Int32 → Int32 → IM → Prop) (μ9 : Int32 → Int32 → Int32 → IM → Nat) (vc9 : ∀ (v1 v2 v3 : Int32) (I : IM), V9 v1 v2 v3 I → fX10_linesIn_9 T a1 Q (fun w1 w2 w3 I_ => V9 w1 w2 w3 I_ ∧ μ9 w1 w2 w3 I_ < μ9 v1 v2 v3 I) v1 v2 v3 I) {I : IM} (h : fX10_linesIn_0 T a1 Q V9 I) : Ct (d + 1) mX10_linesIn [.int a1] T I 0 0 (PI Q) := by
  have all : ∀ n : Nat, (∀ (v1 v2 v3 : Int32) (I : IM), V9 v1 v2 v3 I → μ9 v1 v2 v3 I < n → J (d + 1) mX10_linesIn (PI Q) 0 0 9 [none, some (.int v1), some (.int v2), some (.int v3)] [] T I 0 0) := by
    intro n
    induction n with
    | zero => exact fun _ _ _ _ _ hn => absurd hn (Nat.not_lt_zero _)
    | succ n ih =>
      exact fun v1 v2 v3 I hv hn => sX10_linesIn_9 d hT a1   (fun w1 w2 w3 I_ hw => ih w1 w2 w3 I_ hw.1 (by have := hw.2; omega)) v1 v2 v3 I (vc9 v1 v2 v3 I hv)
  exact Ct.ofJ (by decide +kernel) rfl (by intro v hv; revert v hv; simp [Value.category]) rfl (sX10_linesIn_0 d hT a1   (fun w1 w2 w3 I_ hw => (all (μ9 w1 w2 w3 I_ + 1)) w1 w2 w3 I_ hw (Nat.lt_succ_self _)) I h)

def jLinesInI (a1 : Int32) : Nat → Int32 → Int32 → Int32 → IM → Int32
  | 0 => fun _ _ _ I => 0
  | n + 1 => fun v1 v2 v3 I => (if v3 ≤ 0 then v1 else (jLinesInI a1 n (v1 ||| ((1 : Int32) <<< ((v2 &&& 15) &&& 31))) (v2 >>> ((4 : Int32) &&& 31)) (v3 + (-1)) I))
def jLinesInO (a1 : Int32) : Nat → Int32 → Int32 → Int32 → IM → Prop
  | 0 => fun _ _ _ _ => False
  | n + 1 => fun v1 v2 v3 I => (((v3 ≤ 0) → True) ∧ ((¬ v3 ≤ 0) → (jLinesInO a1 n (v1 ||| ((1 : Int32) <<< ((v2 &&& 15) &&& 31))) (v2 >>> ((4 : Int32) &&& 31)) (v3 + (-1)) I)))
theorem jLinesInI_9 (a1 : Int32) (n : Nat) (v1 v2 v3 : Int32) (I : IM) : jLinesInI a1 (n + 1) v1 v2 v3 I = (if v3 ≤ 0 then v1 else (jLinesInI a1 n (v1 ||| ((1 : Int32) <<< ((v2 &&& 15) &&& 31))) (v2 >>> ((4 : Int32) &&& 31)) (v3 + (-1)) I)) := rfl
theorem jLinesInO_9 (a1 : Int32) (n : Nat) (v1 v2 v3 : Int32) (I : IM) : jLinesInO a1 (n + 1) v1 v2 v3 I = (((v3 ≤ 0) → True) ∧ ((¬ v3 ≤ 0) → (jLinesInO a1 n (v1 ||| ((1 : Int32) <<< ((v2 &&& 15) &&& 31))) (v2 >>> ((4 : Int32) &&& 31)) (v3 + (-1)) I))) := rfl
def jLinesIn (I : IM) (a1 : Int32) : Int32 := (jLinesInI a1 FU 0 a1 (jCountOf a1) I)
def jLinesInK (I : IM) (a1 : Int32) : Prop := (jLinesInO a1 FU 0 a1 (jCountOf a1) I)
set_option maxRecDepth 10000 in
set_option maxHeartbeats 1000000 in
theorem uX10_linesIn (d : Nat) {T : Topo} (hT : Lay T) (a1 : Int32)   {R : Int32} {I00 : IM} : ∀ n : Nat, (∀ (v1 v2 v3 : Int32) (I : IM), I = I00 → jLinesInO a1 n v1 v2 v3 I → jLinesInI a1 n v1 v2 v3 I = R → J (d + 1) mX10_linesIn (PI (fun x T' I' => x = R ∧ T' = T ∧ I' = I00)) 0 0 9 [none, some (.int v1), some (.int v2), some (.int v3)] [] T I 0 0) := by
  intro n
  induction n with
  | zero => exact fun _ _ _ _ _ hz => hz.elim
  | succ n ih =>
    exact fun v1 v2 v3 I hI hok hit => by
        rw [jLinesInO_9] at hok
        exact sX10_linesIn_9 d hT a1   (K9 := fun w1 w2 w3 I_ => (jLinesInO a1 n w1 w2 w3 I_ ∧ jLinesInI a1 n w1 w2 w3 I_ = R) ∧ I_ = I00) (fun w1 w2 w3 I_ hw => ih w1 w2 w3 I_ hw.2 hw.1.1 hw.1.2) v1 v2 v3 I (by
          unfold fX10_linesIn_9
          exact ⟨fun hc1 => ⟨by rw [jLinesInI_9, if_pos hc1] at hit; exact hit, rfl, hI⟩, fun hc1 => ⟨⟨(hok).2 hc1, by rw [jLinesInI_9, if_neg hc1] at hit; exact hit⟩, hI⟩⟩)
set_option maxRecDepth 10000 in
set_option maxHeartbeats 1000000 in
theorem qX10_linesIn (d : Nat) {T : Topo} {I : IM} (hT : Lay T) (a1 : Int32)  (hp : (jLinesInK I a1)) : CtP (d + 1) mX10_linesIn [.int a1] T I (jLinesIn I a1) := by
  unfold jLinesInK at hp
  exact Ct.ofJ (by decide +kernel) rfl (by intro v hv; revert v hv; simp [Value.category]) rfl (sX10_linesIn_0 d hT a1   (K9 := fun w1 w2 w3 I_ => (jLinesInO a1 FU w1 w2 w3 I_ ∧ jLinesInI a1 FU w1 w2 w3 I_ = (jLinesIn I a1)) ∧ I_ = I) (fun w1 w2 w3 I_ hw => uX10_linesIn d hT a1   FU w1 w2 w3 I_ hw.2 hw.1.1 hw.1.2) I (by
    unfold fX10_linesIn_0
    exact ⟨⟨hp, rfl⟩, rfl⟩))

def fX10_insert_0 (T : Topo) (a1 : Int32) (Q : Topo → IM → Prop) (K15 : Int32 → IM → Prop) (I : IM) : Prop :=
  ((((I 4 4) < 27) → K15 (I 4 4) I) ∧ ((¬ (I 4 4) < 27) → Q T I))
def fX10_insert_15 (T : Topo) (a1 : Int32) (Q : Topo → IM → Prop) (K15 : Int32 → IM → Prop) (v2 : Int32) (I : IM) : Prop :=
  (((v2 ≤ 0) → (vp_in v2 27 ∧ Q T (up2 (up2 I 5 v2.toNatClampNeg a1) 4 4 ((I 4 4) + 1)))) ∧ ((¬ v2 ≤ 0) → (vp_in (v2 - 1) 27 ∧ ((((I 5 (v2 - 1).toNatClampNeg) ≤ a1) → (vp_in v2 27 ∧ Q T (up2 (up2 I 5 v2.toNatClampNeg a1) 4 4 ((I 4 4) + 1)))) ∧ ((¬ (I 5 (v2 - 1).toNatClampNeg) ≤ a1) → (vp_in (v2 - 1) 27 ∧ (vp_in v2 27 ∧ K15 (v2 + (-1)) (up2 I 5 v2.toNatClampNeg (I 5 (v2 - 1).toNatClampNeg)))))))))
set_option maxHeartbeats 4000000 in
set_option maxRecDepth 100000 in
theorem sX10_insert_0 (d : Nat) {T : Topo} (hT : Lay T) (a1 : Int32)    {Q : Topo → IM → Prop} {K15 : Int32 → IM → Prop} (hK15 : ∀ (v2 : Int32) (I : IM), K15 v2 I → J (d + 0) mX10_insert (PV Q) 0 0 15 [some (.ref 4), some (.int a1), some (.int v2)] [] T I 0 0) (I : IM) (h : fX10_insert_0 T a1 Q K15 I) : J (d + 0) mX10_insert (PV Q) 0 0 0 [some (.ref 4), some (.int a1), none] [] T I 0 0 := by
  unfold fX10_insert_0 at h
  refine J.aload_n dX10_insert_0 rfl rfl ?_
  refine J.getI dX10_insert_1 fX10_36 (hT.k 4 rfl) rfl ?_
  refine J.bipush (v := 27) dX10_insert_4 (by decide) ?_
  refine J.icmp_lt (tgt := 10) dX10_insert_6 (by decide) (fun hc1 => ?_) (fun hc1 => ?_)
  · have h := h.1 hc1
    refine J.aload_n dX10_insert_10 rfl rfl ?_
    refine J.getI dX10_insert_11 fX10_36 (hT.k 4 rfl) rfl ?_
    refine J.istore_n (ls' := [some (.ref 4), some (.int a1), some (.int (I 4 4))]) dX10_insert_14 rfl rfl rfl ?_
    exact J.weaken (ls' := [some (.ref 4), some (.int a1), some (.int (I 4 4))]) (And.intro rfl (And.intro rfl (And.intro rfl trivial))) (hK15 (I 4 4) I h)
  · have h := h.2 hc1
    exact J.vretQ dX10_insert_9 rfl (Nat.le_refl _) (Nat.le_refl _) h
set_option maxHeartbeats 4000000 in
set_option maxRecDepth 100000 in
theorem sX10_insert_15 (d : Nat) {T : Topo} (hT : Lay T) (a1 : Int32)    {Q : Topo → IM → Prop} {K15 : Int32 → IM → Prop} (hK15 : ∀ (v2 : Int32) (I : IM), K15 v2 I → J (d + 0) mX10_insert (PV Q) 0 0 15 [some (.ref 4), some (.int a1), some (.int v2)] [] T I 0 0) (v2 : Int32) (I : IM) (h : fX10_insert_15 T a1 Q K15 v2 I) : J (d + 0) mX10_insert (PV Q) 0 0 15 [some (.ref 4), some (.int a1), some (.int v2)] [] T I 0 0 := by
  unfold fX10_insert_15 at h
  refine J.iload_n dX10_insert_15 rfl rfl ?_
  refine J.if_le (tgt := 51) dX10_insert_16 (by decide) (fun hc1 => ?_) (fun hc1 => ?_)
  · have h := h.1 hc1
    refine J.aload_n dX10_insert_51 rfl rfl ?_
    refine J.getR (r := 5) dX10_insert_52 fX10_11 (hT.k 4 rfl) rfl (hT.r 4 0 rfl rfl) ?_
    refine J.iload_n dX10_insert_55 rfl rfl ?_
    refine J.iload_n dX10_insert_56 rfl rfl ?_
    obtain ⟨hs2, h⟩ := h
    refine J.iast dX10_insert_57 (hT.k 5 rfl) (hT.l 5 rfl) hs2 ?_
    refine J.aload_n dX10_insert_58 rfl rfl ?_
    refine J.dup dX10_insert_59 rfl ?_
    refine J.getI dX10_insert_60 fX10_36 (hT.k 4 rfl) rfl ?_
    refine J.topEq (y := (I 4 4)) (up2_o _ _ _ _ (by decide)) ?_
    refine J.iconst (v := 1) dX10_insert_63 (by decide) ?_
    refine J.iadd dX10_insert_64 ?_
    refine J.putI dX10_insert_65 fX10_36 (hT.k 4 rfl) rfl ?_
    exact J.vretQ dX10_insert_68 rfl (Nat.le_refl _) (Nat.le_refl _) h
  · have h := h.2 hc1
    refine J.aload_n dX10_insert_19 rfl rfl ?_
    refine J.getR (r := 5) dX10_insert_20 fX10_11 (hT.k 4 rfl) rfl (hT.r 4 0 rfl rfl) ?_
    refine J.iload_n dX10_insert_23 rfl rfl ?_
    refine J.iconst (v := 1) dX10_insert_24 (by decide) ?_
    refine J.isub dX10_insert_25 ?_
    obtain ⟨hs3, h⟩ := h
    refine J.iald dX10_insert_26 (hT.k 5 rfl) (hT.l 5 rfl) hs3 ?_
    refine J.iload_n dX10_insert_27 rfl rfl ?_
    refine J.icmp_le (tgt := 51) dX10_insert_28 (by decide) (fun hc4 => ?_) (fun hc4 => ?_)
    · have h := h.1 hc4
      refine J.aload_n dX10_insert_51 rfl rfl ?_
      refine J.getR (r := 5) dX10_insert_52 fX10_11 (hT.k 4 rfl) rfl (hT.r 4 0 rfl rfl) ?_
      refine J.iload_n dX10_insert_55 rfl rfl ?_
      refine J.iload_n dX10_insert_56 rfl rfl ?_
      obtain ⟨hs5, h⟩ := h
      refine J.iast dX10_insert_57 (hT.k 5 rfl) (hT.l 5 rfl) hs5 ?_
      refine J.aload_n dX10_insert_58 rfl rfl ?_
      refine J.dup dX10_insert_59 rfl ?_
      refine J.getI dX10_insert_60 fX10_36 (hT.k 4 rfl) rfl ?_
      refine J.topEq (y := (I 4 4)) (up2_o _ _ _ _ (by decide)) ?_
      refine J.iconst (v := 1) dX10_insert_63 (by decide) ?_
      refine J.iadd dX10_insert_64 ?_
      refine J.putI dX10_insert_65 fX10_36 (hT.k 4 rfl) rfl ?_
      exact J.vretQ dX10_insert_68 rfl (Nat.le_refl _) (Nat.le_refl _) h
    · have h := h.2 hc4
      refine J.aload_n dX10_insert_31 rfl rfl ?_
      refine J.getR (r := 5) dX10_insert_32 fX10_11 (hT.k 4 rfl) rfl (hT.r 4 0 rfl rfl) ?_
      refine J.iload_n dX10_insert_35 rfl rfl ?_
      refine J.aload_n dX10_insert_36 rfl rfl ?_
      refine J.getR (r := 5) dX10_insert_37 fX10_11 (hT.k 4 rfl) rfl (hT.r 4 0 rfl rfl) ?_
      refine J.iload_n dX10_insert_40 rfl rfl ?_
      refine J.iconst (v := 1) dX10_insert_41 (by decide) ?_
      refine J.atpc (pc' := 42) rfl ?_
      refine J.isub dX10_insert_42 ?_
      obtain ⟨hs6, h⟩ := h
      refine J.iald dX10_insert_43 (hT.k 5 rfl) (hT.l 5 rfl) hs6 ?_
      obtain ⟨hs7, h⟩ := h
      refine J.iast dX10_insert_44 (hT.k 5 rfl) (hT.l 5 rfl) hs7 ?_
      refine J.iinc (v := (v2 + (-1))) (ls' := [some (.ref 4), some (.int a1), some (.int (v2 + (-1)))]) dX10_insert_45 rfl (by rfl) rfl ?_
      refine J.goto (tgt := 15) dX10_insert_48 (by decide) ?_
      exact J.weaken (ls' := [some (.ref 4), some (.int a1), some (.int (v2 + (-1)))]) (And.intro rfl (And.intro rfl (And.intro rfl trivial))) (hK15 (v2 + (-1)) (up2 I 5 v2.toNatClampNeg (I 5 (v2 - 1).toNatClampNeg)) h)
set_option maxHeartbeats 4000000 in
set_option maxRecDepth 100000 in
theorem wX10_insert (d : Nat) {T : Topo} (hT : Lay T) (a1 : Int32)   {Q : Topo → IM → Prop} (V15 : Int32 → IM → Prop) (μ15 : Int32 → IM → Nat) (vc15 : ∀ (v2 : Int32) (I : IM), V15 v2 I → fX10_insert_15 T a1 Q (fun w2 I_ => V15 w2 I_ ∧ μ15 w2 I_ < μ15 v2 I) v2 I) {I : IM} (h : fX10_insert_0 T a1 Q V15 I) : Ct (d + 0) mX10_insert [.ref 4, .int a1] T I 0 0 (PV Q) := by
  have all : ∀ n : Nat, (∀ (v2 : Int32) (I : IM), V15 v2 I → μ15 v2 I < n → J (d + 0) mX10_insert (PV Q) 0 0 15 [some (.ref 4), some (.int a1), some (.int v2)] [] T I 0 0) := by
    intro n
    induction n with
    | zero => exact fun _ _ _ hn => absurd hn (Nat.not_lt_zero _)
    | succ n ih =>
      exact fun v2 I hv hn => sX10_insert_15 d hT a1   (fun w2 I_ hw => ih w2 I_ hw.1 (by have := hw.2; omega)) v2 I (vc15 v2 I hv)
  exact Ct.ofJ (by decide +kernel) rfl (by intro v hv; revert v hv; simp [Value.category]) rfl (sX10_insert_0 d hT a1   (fun w2 I_ hw => (all (μ15 w2 I_ + 1)) w2 I_ hw (Nat.lt_succ_self _)) I h)

def jInsertI (a1 : Int32) : Nat → Int32 → IM → IM
  | 0 => fun _ I => I
  | n + 1 => fun v2 I => (if v2 ≤ 0 then (up2 (up2 I 5 v2.toNatClampNeg a1) 4 4 ((I 4 4) + 1)) else (if (I 5 (v2 - 1).toNatClampNeg) ≤ a1 then (up2 (up2 I 5 v2.toNatClampNeg a1) 4 4 ((I 4 4) + 1)) else (jInsertI a1 n (v2 + (-1)) (up2 I 5 v2.toNatClampNeg (I 5 (v2 - 1).toNatClampNeg)))))
def jInsertO (a1 : Int32) : Nat → Int32 → IM → Prop
  | 0 => fun _ _ => False
  | n + 1 => fun v2 I => (((v2 ≤ 0) → vp_in v2 27) ∧ ((¬ v2 ≤ 0) → (vp_in (v2 - 1) 27 ∧ ((((I 5 (v2 - 1).toNatClampNeg) ≤ a1) → vp_in v2 27) ∧ ((¬ (I 5 (v2 - 1).toNatClampNeg) ≤ a1) → (vp_in (v2 - 1) 27 ∧ (vp_in v2 27 ∧ (jInsertO a1 n (v2 + (-1)) (up2 I 5 v2.toNatClampNeg (I 5 (v2 - 1).toNatClampNeg))))))))))
theorem jInsertI_15 (a1 : Int32) (n : Nat) (v2 : Int32) (I : IM) : jInsertI a1 (n + 1) v2 I = (if v2 ≤ 0 then (up2 (up2 I 5 v2.toNatClampNeg a1) 4 4 ((I 4 4) + 1)) else (if (I 5 (v2 - 1).toNatClampNeg) ≤ a1 then (up2 (up2 I 5 v2.toNatClampNeg a1) 4 4 ((I 4 4) + 1)) else (jInsertI a1 n (v2 + (-1)) (up2 I 5 v2.toNatClampNeg (I 5 (v2 - 1).toNatClampNeg))))) := rfl
theorem jInsertO_15 (a1 : Int32) (n : Nat) (v2 : Int32) (I : IM) : jInsertO a1 (n + 1) v2 I = (((v2 ≤ 0) → vp_in v2 27) ∧ ((¬ v2 ≤ 0) → (vp_in (v2 - 1) 27 ∧ ((((I 5 (v2 - 1).toNatClampNeg) ≤ a1) → vp_in v2 27) ∧ ((¬ (I 5 (v2 - 1).toNatClampNeg) ≤ a1) → (vp_in (v2 - 1) 27 ∧ (vp_in v2 27 ∧ (jInsertO a1 n (v2 + (-1)) (up2 I 5 v2.toNatClampNeg (I 5 (v2 - 1).toNatClampNeg)))))))))) := rfl
def jInsert (I : IM) (a1 : Int32) : IM := (if (I 4 4) < 27 then (jInsertI a1 FU (I 4 4) I) else I)
def jInsertK (I : IM) (a1 : Int32) : Prop := ((((I 4 4) < 27) → (jInsertO a1 FU (I 4 4) I)) ∧ ((¬ (I 4 4) < 27) → True))
set_option maxRecDepth 10000 in
set_option maxHeartbeats 1000000 in
theorem uX10_insert (d : Nat) {T : Topo} (hT : Lay T) (a1 : Int32)   {R : IM} : ∀ n : Nat, (∀ (v2 : Int32) (I : IM), jInsertO a1 n v2 I → jInsertI a1 n v2 I = R → J (d + 0) mX10_insert (PV (fun T' I' => T' = T ∧ I' = R)) 0 0 15 [some (.ref 4), some (.int a1), some (.int v2)] [] T I 0 0) := by
  intro n
  induction n with
  | zero => exact fun _ _ hz => hz.elim
  | succ n ih =>
    exact fun v2 I hok hit => by
        rw [jInsertO_15] at hok
        exact sX10_insert_15 d hT a1   (K15 := fun w2 I_ => (jInsertO a1 n w2 I_ ∧ jInsertI a1 n w2 I_ = R)) (fun w2 I_ hw => ih w2 I_ hw.1 hw.2) v2 I (by
          unfold fX10_insert_15
          exact ⟨fun hc1 => ⟨(hok).1 hc1, ⟨rfl, by rw [jInsertI_15, if_pos hc1] at hit; exact hit⟩⟩, fun hc1 => ⟨((hok).2 hc1).1, ⟨fun hc2 => ⟨(((hok).2 hc1).2).1 hc2, ⟨rfl, by rw [jInsertI_15, if_neg hc1, if_pos hc2] at hit; exact hit⟩⟩, fun hc2 => ⟨((((hok).2 hc1).2).2 hc2).1, ⟨(((((hok).2 hc1).2).2 hc2).2).1, ⟨(((((hok).2 hc1).2).2 hc2).2).2, by rw [jInsertI_15, if_neg hc1, if_neg hc2] at hit; exact hit⟩⟩⟩⟩⟩⟩)
set_option maxRecDepth 10000 in
set_option maxHeartbeats 1000000 in
theorem qX10_insert (d : Nat) {T : Topo} {I : IM} (hT : Lay T) (a1 : Int32)  (hp : (jInsertK I a1)) : CtV (d + 0) mX10_insert [.ref 4, .int a1] T I (fun J_ => J_ = (jInsert I a1)) := by
  unfold jInsertK at hp
  exact Ct.ofJ (by decide +kernel) rfl (by intro v hv; revert v hv; simp [Value.category]) rfl (sX10_insert_0 d hT a1   (K15 := fun w2 I_ => (jInsertO a1 FU w2 I_ ∧ jInsertI a1 FU w2 I_ = (jInsert I a1))) (fun w2 I_ hw => uX10_insert d hT a1   FU w2 I_ hw.1 hw.2) I (by
    unfold fX10_insert_0
    exact ⟨fun hc1 => ⟨(hp).1 hc1, by unfold jInsert; rw [if_pos hc1]⟩, fun hc1 => ⟨rfl, by unfold jInsert; rw [if_neg hc1]⟩⟩))

def fX7_begin_0 (T : Topo) (i : Nat) (a1 : Int32) (a2 : Int32) (Q : Int32 → Topo → IM → Prop) (K20 : Int32 → IM → Prop) (I : IM) : Prop :=
  (((¬ a1 = 0) → K20 0 (up2 (up2 I (71 + 2 * i) 1 a1) (71 + 2 * i) 2 a2)) ∧ ((a1 = 0) → K20 0 (up2 (up2 I (71 + 2 * i) 1 a1) (71 + 2 * i) 2 0)))
def fX7_begin_20 (T : Topo) (i : Nat) (a1 : Int32) (a2 : Int32) (Q : Int32 → Topo → IM → Prop) (K20 : Int32 → IM → Prop) (v3 : Int32) (I : IM) : Prop :=
  (((8 ≤ v3) → Q (I (71 + 2 * i) 2) T I) ∧ ((¬ 8 ≤ v3) → (vp_in v3 8 ∧ K20 (v3 + 1) (up2 I (72 + 2 * i) v3.toNatClampNeg 0))))
set_option maxHeartbeats 4000000 in
set_option maxRecDepth 100000 in
theorem sX7_begin_0 (d : Nat) {T : Topo} (hT : Lay T) (i : Nat) (a1 : Int32) (a2 : Int32) (hi : i < 4)   {Q : Int32 → Topo → IM → Prop} {K20 : Int32 → IM → Prop} (hK20 : ∀ (v3 : Int32) (I : IM), K20 v3 I → J (d + 0) mX7_begin (PI Q) 0 0 20 [some (.ref (71 + 2 * i)), none, none, some (.int v3)] [] T I 0 0) (I : IM) (h : fX7_begin_0 T i a1 a2 Q K20 I) : J (d + 0) mX7_begin (PI Q) 0 0 0 [some (.ref (71 + 2 * i)), some (.int a1), some (.int a2), none] [] T I 0 0 := by
  unfold fX7_begin_0 at h
  refine J.aload_n dX7_begin_0 rfl rfl ?_
  refine J.iload_n dX7_begin_1 rfl rfl ?_
  refine J.putI dX7_begin_2 fX7_15 (hT.sheetK hi) rfl ?_
  refine J.aload_n dX7_begin_5 rfl rfl ?_
  refine J.iload_n dX7_begin_6 rfl rfl ?_
  refine J.if_ne (tgt := 14) dX7_begin_7 (by decide) (fun hc1 => ?_) (fun hc1 => ?_)
  · have h := h.1 hc1
    refine J.iload_n dX7_begin_14 rfl rfl ?_
    refine J.putI dX7_begin_15 fX7_19 (hT.sheetK hi) rfl ?_
    refine J.iconst (v := 0) dX7_begin_18 (by decide) ?_
    refine J.istore_n (ls' := [some (.ref (71 + 2 * i)), some (.int a1), some (.int a2), some (.int 0)]) dX7_begin_19 rfl rfl rfl ?_
    exact J.weaken (ls' := [some (.ref (71 + 2 * i)), none, none, some (.int 0)]) (And.intro rfl (And.intro rfl trivial)) (hK20 0 (up2 (up2 I (71 + 2 * i) 1 a1) (71 + 2 * i) 2 a2) h)
  · have h := h.2 hc1
    refine J.iconst (v := 0) dX7_begin_10 (by decide) ?_
    refine J.goto (tgt := 15) dX7_begin_11 (by decide) ?_
    refine J.putI dX7_begin_15 fX7_19 (hT.sheetK hi) rfl ?_
    refine J.iconst (v := 0) dX7_begin_18 (by decide) ?_
    refine J.istore_n (ls' := [some (.ref (71 + 2 * i)), some (.int a1), some (.int a2), some (.int 0)]) dX7_begin_19 rfl rfl rfl ?_
    exact J.weaken (ls' := [some (.ref (71 + 2 * i)), none, none, some (.int 0)]) (And.intro rfl (And.intro rfl trivial)) (hK20 0 (up2 (up2 I (71 + 2 * i) 1 a1) (71 + 2 * i) 2 0) h)
set_option maxHeartbeats 4000000 in
set_option maxRecDepth 100000 in
theorem sX7_begin_20 (d : Nat) {T : Topo} (hT : Lay T) (i : Nat) (a1 : Int32) (a2 : Int32) (hi : i < 4)   {Q : Int32 → Topo → IM → Prop} {K20 : Int32 → IM → Prop} (hK20 : ∀ (v3 : Int32) (I : IM), K20 v3 I → J (d + 0) mX7_begin (PI Q) 0 0 20 [some (.ref (71 + 2 * i)), none, none, some (.int v3)] [] T I 0 0) (v3 : Int32) (I : IM) (h : fX7_begin_20 T i a1 a2 Q K20 v3 I) : J (d + 0) mX7_begin (PI Q) 0 0 20 [some (.ref (71 + 2 * i)), none, none, some (.int v3)] [] T I 0 0 := by
  unfold fX7_begin_20 at h
  refine J.iload_n dX7_begin_20 rfl rfl ?_
  refine J.bipush (v := 8) dX7_begin_21 (by decide) ?_
  refine J.icmp_ge (tgt := 39) dX7_begin_23 (by decide) (fun hc1 => ?_) (fun hc1 => ?_)
  · have h := h.1 hc1
    refine J.aload_n dX7_begin_39 rfl rfl ?_
    refine J.getI dX7_begin_40 fX7_19 (hT.sheetK hi) rfl ?_
    exact J.iretQ dX7_begin_43 rfl (Nat.le_refl _) (Nat.le_refl _) h
  · have h := h.2 hc1
    refine J.aload_n dX7_begin_26 rfl rfl ?_
    refine J.getR (r := (72 + 2 * i)) dX7_begin_27 fX7_9 (hT.sheetK hi) rfl (hT.sheetN hi) ?_
    refine J.iload_n dX7_begin_30 rfl rfl ?_
    refine J.iconst (v := 0) dX7_begin_31 (by decide) ?_
    obtain ⟨hs2, h⟩ := h
    refine J.iast dX7_begin_32 (hT.sheetA hi) (hT.sheetL hi) hs2 ?_
    refine J.iinc (v := (v3 + 1)) (ls' := [some (.ref (71 + 2 * i)), none, none, some (.int (v3 + 1))]) dX7_begin_33 rfl (by rfl) rfl ?_
    refine J.goto (tgt := 20) dX7_begin_36 (by decide) ?_
    exact J.weaken (ls' := [some (.ref (71 + 2 * i)), none, none, some (.int (v3 + 1))]) (And.intro rfl (And.intro rfl trivial)) (hK20 (v3 + 1) (up2 I (72 + 2 * i) v3.toNatClampNeg 0) h)
set_option maxHeartbeats 4000000 in
set_option maxRecDepth 100000 in
theorem wX7_begin (d : Nat) {T : Topo} (hT : Lay T) (i : Nat) (a1 : Int32) (a2 : Int32) (hi : i < 4)  {Q : Int32 → Topo → IM → Prop} (V20 : Int32 → IM → Prop) (μ20 : Int32 → IM → Nat) (vc20 : ∀ (v3 : Int32) (I : IM), V20 v3 I → fX7_begin_20 T i a1 a2 Q (fun w3 I_ => V20 w3 I_ ∧ μ20 w3 I_ < μ20 v3 I) v3 I) {I : IM} (h : fX7_begin_0 T i a1 a2 Q V20 I) : Ct (d + 0) mX7_begin [.ref (71 + 2 * i), .int a1, .int a2] T I 0 0 (PI Q) := by
  have all : ∀ n : Nat, (∀ (v3 : Int32) (I : IM), V20 v3 I → μ20 v3 I < n → J (d + 0) mX7_begin (PI Q) 0 0 20 [some (.ref (71 + 2 * i)), none, none, some (.int v3)] [] T I 0 0) := by
    intro n
    induction n with
    | zero => exact fun _ _ _ hn => absurd hn (Nat.not_lt_zero _)
    | succ n ih =>
      exact fun v3 I hv hn => sX7_begin_20 d hT i a1 a2 hi  (fun w3 I_ hw => ih w3 I_ hw.1 (by have := hw.2; omega)) v3 I (vc20 v3 I hv)
  exact Ct.ofJ (by decide +kernel) rfl (by intro v hv; revert v hv; simp [Value.category]) rfl (sX7_begin_0 d hT i a1 a2 hi  (fun w3 I_ hw => (all (μ20 w3 I_ + 1)) w3 I_ hw (Nat.lt_succ_self _)) I h)

def jBeginI (i : Nat) (a1 : Int32) (a2 : Int32) : Nat → Int32 → IM → Int32 × IM
  | 0 => fun _ I => (0, I)
  | n + 1 => fun v3 I => (if 8 ≤ v3 then ((I (71 + 2 * i) 2), I) else (jBeginI i a1 a2 n (v3 + 1) (up2 I (72 + 2 * i) v3.toNatClampNeg 0)))
def jBeginO (i : Nat) (a1 : Int32) (a2 : Int32) : Nat → Int32 → IM → Prop
  | 0 => fun _ _ => False
  | n + 1 => fun v3 I => (((8 ≤ v3) → True) ∧ ((¬ 8 ≤ v3) → (vp_in v3 8 ∧ (jBeginO i a1 a2 n (v3 + 1) (up2 I (72 + 2 * i) v3.toNatClampNeg 0)))))
theorem jBeginI_20 (i : Nat) (a1 : Int32) (a2 : Int32) (n : Nat) (v3 : Int32) (I : IM) : jBeginI i a1 a2 (n + 1) v3 I = (if 8 ≤ v3 then ((I (71 + 2 * i) 2), I) else (jBeginI i a1 a2 n (v3 + 1) (up2 I (72 + 2 * i) v3.toNatClampNeg 0))) := rfl
theorem jBeginO_20 (i : Nat) (a1 : Int32) (a2 : Int32) (n : Nat) (v3 : Int32) (I : IM) : jBeginO i a1 a2 (n + 1) v3 I = (((8 ≤ v3) → True) ∧ ((¬ 8 ≤ v3) → (vp_in v3 8 ∧ (jBeginO i a1 a2 n (v3 + 1) (up2 I (72 + 2 * i) v3.toNatClampNeg 0))))) := rfl
def jBegin (I : IM) (i : Nat) (a1 : Int32) (a2 : Int32) : Int32 × IM := (if a1 = 0 then (jBeginI i a1 a2 FU 0 (up2 (up2 I (71 + 2 * i) 1 a1) (71 + 2 * i) 2 0)) else (jBeginI i a1 a2 FU 0 (up2 (up2 I (71 + 2 * i) 1 a1) (71 + 2 * i) 2 a2)))
def jBeginK (I : IM) (i : Nat) (a1 : Int32) (a2 : Int32) : Prop := (((¬ a1 = 0) → (jBeginO i a1 a2 FU 0 (up2 (up2 I (71 + 2 * i) 1 a1) (71 + 2 * i) 2 a2))) ∧ ((a1 = 0) → (jBeginO i a1 a2 FU 0 (up2 (up2 I (71 + 2 * i) 1 a1) (71 + 2 * i) 2 0))))
set_option maxRecDepth 10000 in
set_option maxHeartbeats 1000000 in
theorem uX7_begin (d : Nat) {T : Topo} (hT : Lay T) (i : Nat) (a1 : Int32) (a2 : Int32) (hi : i < 4)  {R : Int32 × IM} : ∀ n : Nat, (∀ (v3 : Int32) (I : IM), jBeginO i a1 a2 n v3 I → jBeginI i a1 a2 n v3 I = R → J (d + 0) mX7_begin (PI (fun x T' I' => T' = T ∧ x = R.1 ∧ I' = R.2)) 0 0 20 [some (.ref (71 + 2 * i)), none, none, some (.int v3)] [] T I 0 0) := by
  intro n
  induction n with
  | zero => exact fun _ _ hz => hz.elim
  | succ n ih =>
    exact fun v3 I hok hit => by
        rw [jBeginO_20] at hok
        exact sX7_begin_20 d hT i a1 a2 hi  (K20 := fun w3 I_ => (jBeginO i a1 a2 n w3 I_ ∧ jBeginI i a1 a2 n w3 I_ = R)) (fun w3 I_ hw => ih w3 I_ hw.1 hw.2) v3 I (by
          unfold fX7_begin_20
          exact ⟨fun hc1 => (by rw [jBeginI_20, if_pos hc1] at hit; exact ⟨rfl, by rw [← hit], by rw [← hit]⟩), fun hc1 => ⟨((hok).2 hc1).1, ⟨((hok).2 hc1).2, by rw [jBeginI_20, if_neg hc1] at hit; exact hit⟩⟩⟩)
set_option maxRecDepth 10000 in
set_option maxHeartbeats 1000000 in
theorem qX7_begin (d : Nat) {T : Topo} {I : IM} (hT : Lay T) (i : Nat) (hi : i < 4) (a1 : Int32) (a2 : Int32)  (hp : (jBeginK I i a1 a2)) : CtI (d + 0) mX7_begin [.ref (71 + 2 * i), .int a1, .int a2] T I (fun x_ J_ => x_ = (jBegin I i a1 a2).1 ∧ J_ = (jBegin I i a1 a2).2) := by
  unfold jBeginK at hp
  exact Ct.ofJ (by decide +kernel) rfl (by intro v hv; revert v hv; simp [Value.category]) rfl (sX7_begin_0 d hT i a1 a2 hi  (K20 := fun w3 I_ => (jBeginO i a1 a2 FU w3 I_ ∧ jBeginI i a1 a2 FU w3 I_ = (jBegin I i a1 a2))) (fun w3 I_ hw => uX7_begin d hT i a1 a2 hi  FU w3 I_ hw.1 hw.2) I (by
    unfold fX7_begin_0
    exact ⟨fun hc1 => ⟨(hp).1 hc1, by unfold jBegin; rw [if_neg hc1]⟩, fun hc1 => ⟨(hp).2 hc1, by unfold jBegin; rw [if_pos hc1]⟩⟩))

def fX7_hasAbove_0 (T : Topo) (i : Nat) (a1 : Int32) (Q : Int32 → Topo → IM → Prop) (K2 : Int32 → IM → Prop) (I : IM) : Prop :=
  K2 0 I
def fX7_hasAbove_2 (T : Topo) (i : Nat) (a1 : Int32) (Q : Int32 → Topo → IM → Prop) (K2 : Int32 → IM → Prop) (v2 : Int32) (I : IM) : Prop :=
  ((((I (71 + 2 * i) 2) ≤ v2) → Q 0 T I) ∧ ((¬ (I (71 + 2 * i) 2) ≤ v2) → (vp_in v2 8 ∧ ((((I (72 + 2 * i) v2.toNatClampNeg) ≤ a1) → K2 (v2 + 1) I) ∧ ((¬ (I (72 + 2 * i) v2.toNatClampNeg) ≤ a1) → Q 1 T I)))))
set_option maxHeartbeats 4000000 in
set_option maxRecDepth 100000 in
theorem sX7_hasAbove_0 (d : Nat) {T : Topo} (hT : Lay T) (i : Nat) (a1 : Int32) (hi : i < 4)   {Q : Int32 → Topo → IM → Prop} {K2 : Int32 → IM → Prop} (hK2 : ∀ (v2 : Int32) (I : IM), K2 v2 I → J (d + 0) mX7_hasAbove (PI Q) 0 0 2 [some (.ref (71 + 2 * i)), some (.int a1), some (.int v2)] [] T I 0 0) (I : IM) (h : fX7_hasAbove_0 T i a1 Q K2 I) : J (d + 0) mX7_hasAbove (PI Q) 0 0 0 [some (.ref (71 + 2 * i)), some (.int a1), none] [] T I 0 0 := by
  unfold fX7_hasAbove_0 at h
  refine J.iconst (v := 0) dX7_hasAbove_0 (by decide) ?_
  refine J.istore_n (ls' := [some (.ref (71 + 2 * i)), some (.int a1), some (.int 0)]) dX7_hasAbove_1 rfl rfl rfl ?_
  exact J.weaken (ls' := [some (.ref (71 + 2 * i)), some (.int a1), some (.int 0)]) (And.intro rfl (And.intro rfl (And.intro rfl trivial))) (hK2 0 I h)
set_option maxHeartbeats 4000000 in
set_option maxRecDepth 100000 in
theorem sX7_hasAbove_2 (d : Nat) {T : Topo} (hT : Lay T) (i : Nat) (a1 : Int32) (hi : i < 4)   {Q : Int32 → Topo → IM → Prop} {K2 : Int32 → IM → Prop} (hK2 : ∀ (v2 : Int32) (I : IM), K2 v2 I → J (d + 0) mX7_hasAbove (PI Q) 0 0 2 [some (.ref (71 + 2 * i)), some (.int a1), some (.int v2)] [] T I 0 0) (v2 : Int32) (I : IM) (h : fX7_hasAbove_2 T i a1 Q K2 v2 I) : J (d + 0) mX7_hasAbove (PI Q) 0 0 2 [some (.ref (71 + 2 * i)), some (.int a1), some (.int v2)] [] T I 0 0 := by
  unfold fX7_hasAbove_2 at h
  refine J.iload_n dX7_hasAbove_2 rfl rfl ?_
  refine J.aload_n dX7_hasAbove_3 rfl rfl ?_
  refine J.getI dX7_hasAbove_4 fX7_19 (hT.sheetK hi) rfl ?_
  refine J.icmp_ge (tgt := 28) dX7_hasAbove_7 (by decide) (fun hc1 => ?_) (fun hc1 => ?_)
  · have h := h.1 hc1
    refine J.iconst (v := 0) dX7_hasAbove_28 (by decide) ?_
    exact J.zretQ dX7_hasAbove_29 rfl (Or.inl rfl) (Nat.le_refl _) (Nat.le_refl _) h
  · have h := h.2 hc1
    refine J.aload_n dX7_hasAbove_10 rfl rfl ?_
    refine J.getR (r := (72 + 2 * i)) dX7_hasAbove_11 fX7_9 (hT.sheetK hi) rfl (hT.sheetN hi) ?_
    refine J.iload_n dX7_hasAbove_14 rfl rfl ?_
    obtain ⟨hs2, h⟩ := h
    refine J.iald dX7_hasAbove_15 (hT.sheetA hi) (hT.sheetL hi) hs2 ?_
    refine J.iload_n dX7_hasAbove_16 rfl rfl ?_
    refine J.icmp_le (tgt := 22) dX7_hasAbove_17 (by decide) (fun hc3 => ?_) (fun hc3 => ?_)
    · have h := h.1 hc3
      refine J.iinc (v := (v2 + 1)) (ls' := [some (.ref (71 + 2 * i)), some (.int a1), some (.int (v2 + 1))]) dX7_hasAbove_22 rfl (by rfl) rfl ?_
      refine J.goto (tgt := 2) dX7_hasAbove_25 (by decide) ?_
      exact J.weaken (ls' := [some (.ref (71 + 2 * i)), some (.int a1), some (.int (v2 + 1))]) (And.intro rfl (And.intro rfl (And.intro rfl trivial))) (hK2 (v2 + 1) I h)
    · have h := h.2 hc3
      refine J.iconst (v := 1) dX7_hasAbove_20 (by decide) ?_
      exact J.zretQ dX7_hasAbove_21 rfl (Or.inr rfl) (Nat.le_refl _) (Nat.le_refl _) h
set_option maxHeartbeats 4000000 in
set_option maxRecDepth 100000 in
theorem wX7_hasAbove (d : Nat) {T : Topo} (hT : Lay T) (i : Nat) (a1 : Int32) (hi : i < 4)  {Q : Int32 → Topo → IM → Prop} (V2 : Int32 → IM → Prop) (μ2 : Int32 → IM → Nat) (vc2 : ∀ (v2 : Int32) (I : IM), V2 v2 I → fX7_hasAbove_2 T i a1 Q (fun w2 I_ => V2 w2 I_ ∧ μ2 w2 I_ < μ2 v2 I) v2 I) {I : IM} (h : fX7_hasAbove_0 T i a1 Q V2 I) : Ct (d + 0) mX7_hasAbove [.ref (71 + 2 * i), .int a1] T I 0 0 (PI Q) := by
  have all : ∀ n : Nat, (∀ (v2 : Int32) (I : IM), V2 v2 I → μ2 v2 I < n → J (d + 0) mX7_hasAbove (PI Q) 0 0 2 [some (.ref (71 + 2 * i)), some (.int a1), some (.int v2)] [] T I 0 0) := by
    intro n
    induction n with
    | zero => exact fun _ _ _ hn => absurd hn (Nat.not_lt_zero _)
    | succ n ih =>
      exact fun v2 I hv hn => sX7_hasAbove_2 d hT i a1 hi  (fun w2 I_ hw => ih w2 I_ hw.1 (by have := hw.2; omega)) v2 I (vc2 v2 I hv)
  exact Ct.ofJ (by decide +kernel) rfl (by intro v hv; revert v hv; simp [Value.category]) rfl (sX7_hasAbove_0 d hT i a1 hi  (fun w2 I_ hw => (all (μ2 w2 I_ + 1)) w2 I_ hw (Nat.lt_succ_self _)) I h)

def jAboveI (i : Nat) (a1 : Int32) : Nat → Int32 → IM → Int32
  | 0 => fun _ I => 0
  | n + 1 => fun v2 I => (if (I (71 + 2 * i) 2) ≤ v2 then 0 else (if (I (72 + 2 * i) v2.toNatClampNeg) ≤ a1 then (jAboveI i a1 n (v2 + 1) I) else 1))
def jAboveO (i : Nat) (a1 : Int32) : Nat → Int32 → IM → Prop
  | 0 => fun _ _ => False
  | n + 1 => fun v2 I => ((((I (71 + 2 * i) 2) ≤ v2) → True) ∧ ((¬ (I (71 + 2 * i) 2) ≤ v2) → (vp_in v2 8 ∧ ((((I (72 + 2 * i) v2.toNatClampNeg) ≤ a1) → (jAboveO i a1 n (v2 + 1) I)) ∧ ((¬ (I (72 + 2 * i) v2.toNatClampNeg) ≤ a1) → True)))))
theorem jAboveI_2 (i : Nat) (a1 : Int32) (n : Nat) (v2 : Int32) (I : IM) : jAboveI i a1 (n + 1) v2 I = (if (I (71 + 2 * i) 2) ≤ v2 then 0 else (if (I (72 + 2 * i) v2.toNatClampNeg) ≤ a1 then (jAboveI i a1 n (v2 + 1) I) else 1)) := rfl
theorem jAboveO_2 (i : Nat) (a1 : Int32) (n : Nat) (v2 : Int32) (I : IM) : jAboveO i a1 (n + 1) v2 I = ((((I (71 + 2 * i) 2) ≤ v2) → True) ∧ ((¬ (I (71 + 2 * i) 2) ≤ v2) → (vp_in v2 8 ∧ ((((I (72 + 2 * i) v2.toNatClampNeg) ≤ a1) → (jAboveO i a1 n (v2 + 1) I)) ∧ ((¬ (I (72 + 2 * i) v2.toNatClampNeg) ≤ a1) → True))))) := rfl
def jAbove (I : IM) (i : Nat) (a1 : Int32) : Int32 := (jAboveI i a1 FU 0 I)
def jAboveK (I : IM) (i : Nat) (a1 : Int32) : Prop := (jAboveO i a1 FU 0 I)
set_option maxRecDepth 10000 in
set_option maxHeartbeats 1000000 in
theorem uX7_hasAbove (d : Nat) {T : Topo} (hT : Lay T) (i : Nat) (a1 : Int32) (hi : i < 4)  {R : Int32} {I00 : IM} : ∀ n : Nat, (∀ (v2 : Int32) (I : IM), I = I00 → jAboveO i a1 n v2 I → jAboveI i a1 n v2 I = R → J (d + 0) mX7_hasAbove (PI (fun x T' I' => x = R ∧ T' = T ∧ I' = I00)) 0 0 2 [some (.ref (71 + 2 * i)), some (.int a1), some (.int v2)] [] T I 0 0) := by
  intro n
  induction n with
  | zero => exact fun _ _ _ hz => hz.elim
  | succ n ih =>
    exact fun v2 I hI hok hit => by
        rw [jAboveO_2] at hok
        exact sX7_hasAbove_2 d hT i a1 hi  (K2 := fun w2 I_ => (jAboveO i a1 n w2 I_ ∧ jAboveI i a1 n w2 I_ = R) ∧ I_ = I00) (fun w2 I_ hw => ih w2 I_ hw.2 hw.1.1 hw.1.2) v2 I (by
          unfold fX7_hasAbove_2
          exact ⟨fun hc1 => ⟨by rw [jAboveI_2, if_pos hc1] at hit; exact hit, rfl, hI⟩, fun hc1 => ⟨((hok).2 hc1).1, ⟨fun hc2 => ⟨⟨(((hok).2 hc1).2).1 hc2, by rw [jAboveI_2, if_neg hc1, if_pos hc2] at hit; exact hit⟩, hI⟩, fun hc2 => ⟨by rw [jAboveI_2, if_neg hc1, if_neg hc2] at hit; exact hit, rfl, hI⟩⟩⟩⟩)
set_option maxRecDepth 10000 in
set_option maxHeartbeats 1000000 in
theorem qX7_hasAbove (d : Nat) {T : Topo} {I : IM} (hT : Lay T) (i : Nat) (hi : i < 4) (a1 : Int32)  (hp : (jAboveK I i a1)) : CtP (d + 0) mX7_hasAbove [.ref (71 + 2 * i), .int a1] T I (jAbove I i a1) := by
  unfold jAboveK at hp
  exact Ct.ofJ (by decide +kernel) rfl (by intro v hv; revert v hv; simp [Value.category]) rfl (sX7_hasAbove_0 d hT i a1 hi  (K2 := fun w2 I_ => (jAboveO i a1 FU w2 I_ ∧ jAboveI i a1 FU w2 I_ = (jAbove I i a1)) ∧ I_ = I) (fun w2 I_ hw => uX7_hasAbove d hT i a1 hi  FU w2 I_ hw.2 hw.1.1 hw.1.2) I (by
    unfold fX7_hasAbove_0
    exact ⟨⟨hp, rfl⟩, rfl⟩))

def fX7_hasRun_0 (T : Topo) (i : Nat) (a1 : Int32) (a2 : Int32) (Q : Int32 → Topo → IM → Prop)  (I : IM) : Prop :=
  (((a1 < 0) → Q 0 T I) ∧ ((¬ a1 < 0) → (((a2 < 0) → Q 0 T I) ∧ ((¬ a2 < 0) → ((((I (71 + 2 * i) 2) < a1) → Q 0 T I) ∧ ((¬ (I (71 + 2 * i) 2) < a1) → (((((I (71 + 2 * i) 2) - a1) < a2) → Q 0 T I) ∧ ((¬ ((I (71 + 2 * i) 2) - a1) < a2) → Q 1 T I))))))))
set_option maxHeartbeats 4000000 in
set_option maxRecDepth 100000 in
theorem sX7_hasRun_0 (d : Nat) {T : Topo} (hT : Lay T) (i : Nat) (a1 : Int32) (a2 : Int32) (hi : i < 4)   {Q : Int32 → Topo → IM → Prop}   (I : IM) (h : fX7_hasRun_0 T i a1 a2 Q  I) : J (d + 0) mX7_hasRun (PI Q) 0 0 0 [some (.ref (71 + 2 * i)), some (.int a1), some (.int a2)] [] T I 0 0 := by
  unfold fX7_hasRun_0 at h
  refine J.iload_n dX7_hasRun_0 rfl rfl ?_
  refine J.if_lt (tgt := 30) dX7_hasRun_1 (by decide) (fun hc1 => ?_) (fun hc1 => ?_)
  · have h := h.1 hc1
    refine J.iconst (v := 0) dX7_hasRun_30 (by decide) ?_
    exact J.zretQ dX7_hasRun_31 rfl (Or.inl rfl) (Nat.le_refl _) (Nat.le_refl _) h
  · have h := h.2 hc1
    refine J.iload_n dX7_hasRun_4 rfl rfl ?_
    refine J.if_lt (tgt := 30) dX7_hasRun_5 (by decide) (fun hc2 => ?_) (fun hc2 => ?_)
    · have h := h.1 hc2
      refine J.iconst (v := 0) dX7_hasRun_30 (by decide) ?_
      exact J.zretQ dX7_hasRun_31 rfl (Or.inl rfl) (Nat.le_refl _) (Nat.le_refl _) h
    · have h := h.2 hc2
      refine J.iload_n dX7_hasRun_8 rfl rfl ?_
      refine J.aload_n dX7_hasRun_9 rfl rfl ?_
      refine J.getI dX7_hasRun_10 fX7_19 (hT.sheetK hi) rfl ?_
      refine J.icmp_gt (tgt := 30) dX7_hasRun_13 (by decide) (fun hc3 => ?_) (fun hc3 => ?_)
      · have h := h.1 hc3
        refine J.iconst (v := 0) dX7_hasRun_30 (by decide) ?_
        exact J.zretQ dX7_hasRun_31 rfl (Or.inl rfl) (Nat.le_refl _) (Nat.le_refl _) h
      · have h := h.2 hc3
        refine J.iload_n dX7_hasRun_16 rfl rfl ?_
        refine J.aload_n dX7_hasRun_17 rfl rfl ?_
        refine J.getI dX7_hasRun_18 fX7_19 (hT.sheetK hi) rfl ?_
        refine J.iload_n dX7_hasRun_21 rfl rfl ?_
        refine J.isub dX7_hasRun_22 ?_
        refine J.icmp_gt (tgt := 30) dX7_hasRun_23 (by decide) (fun hc4 => ?_) (fun hc4 => ?_)
        · have h := h.1 hc4
          refine J.iconst (v := 0) dX7_hasRun_30 (by decide) ?_
          exact J.zretQ dX7_hasRun_31 rfl (Or.inl rfl) (Nat.le_refl _) (Nat.le_refl _) h
        · have h := h.2 hc4
          refine J.iconst (v := 1) dX7_hasRun_26 (by decide) ?_
          refine J.goto (tgt := 31) dX7_hasRun_27 (by decide) ?_
          exact J.zretQ dX7_hasRun_31 rfl (Or.inr rfl) (Nat.le_refl _) (Nat.le_refl _) h
set_option maxHeartbeats 4000000 in
set_option maxRecDepth 100000 in
theorem wX7_hasRun (d : Nat) {T : Topo} (hT : Lay T) (i : Nat) (a1 : Int32) (a2 : Int32) (hi : i < 4)  {Q : Int32 → Topo → IM → Prop} {I : IM} (h : fX7_hasRun_0 T i a1 a2 Q I) : Ct (d + 0) mX7_hasRun [.ref (71 + 2 * i), .int a1, .int a2] T I 0 0 (PI Q) :=
  Ct.ofJ (by decide +kernel) rfl (by intro v hv; revert v hv; simp [Value.category]) rfl (sX7_hasRun_0 d hT i a1 a2 hi  I h)

def jHasRun (I : IM) (i : Nat) (a1 : Int32) (a2 : Int32) : Int32 := (if a1 < 0 then 0 else (if a2 < 0 then 0 else (if (I (71 + 2 * i) 2) < a1 then 0 else (if ((I (71 + 2 * i) 2) - a1) < a2 then 0 else 1))))
set_option maxRecDepth 10000 in
theorem qX7_hasRun (d : Nat) {T : Topo} {I : IM} (hT : Lay T) (i : Nat) (hi : i < 4) (a1 : Int32) (a2 : Int32)   : CtP (d + 0) mX7_hasRun [.ref (71 + 2 * i), .int a1, .int a2] T I ((jHasRun I i a1 a2)) :=
  wX7_hasRun d hT i a1 a2 hi  (by
  unfold fX7_hasRun_0
  exact ⟨fun hc1 => ⟨by unfold jHasRun; rw [if_pos hc1], rfl, rfl⟩, fun hc1 => ⟨fun hc2 => ⟨by unfold jHasRun; rw [if_neg hc1, if_pos hc2], rfl, rfl⟩, fun hc2 => ⟨fun hc3 => ⟨by unfold jHasRun; rw [if_neg hc1, if_neg hc2, if_pos hc3], rfl, rfl⟩, fun hc3 => ⟨fun hc4 => ⟨by unfold jHasRun; rw [if_neg hc1, if_neg hc2, if_neg hc3, if_pos hc4], rfl, rfl⟩, fun hc4 => ⟨by unfold jHasRun; rw [if_neg hc1, if_neg hc2, if_neg hc3, if_neg hc4], rfl, rfl⟩⟩⟩⟩⟩)

end
