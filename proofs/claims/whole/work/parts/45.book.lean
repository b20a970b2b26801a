noncomputable section
def fX0_loadAt_0 (T : Topo) (b : Nat) (a1 : Int32) (a2 : Int32) (Q : Int32 → Topo → IM → Prop)  (I : IM) : Prop :=
  (vp_in ((a2 * 9) + a1) 216 ∧ Q (I (b + 1 + 0) ((a2 * 9) + a1).toNatClampNeg) T I)
set_option maxHeartbeats 4000000 in
set_option maxRecDepth 100000 in
theorem sX0_loadAt_0 (d : Nat) {T : Topo} (hT : Lay T) (b : Nat) (a1 : Int32) (a2 : Int32) (hb : isBk b)   {Q : Int32 → Topo → IM → Prop}   (I : IM) (h : fX0_loadAt_0 T b a1 a2 Q  I) : J (d + 0) mX0_loadAt (PI Q) 0 0 0 [some (.ref b), some (.int a1), some (.int a2)] [] T I 0 0 := by
  unfold fX0_loadAt_0 at h
  refine J.aload_n dX0_loadAt_0 rfl rfl ?_
  refine J.getR (r := (b + 1 + 0)) dX0_loadAt_1 fX0_9 (hT.bookK hb) rfl (hT.bookR hb 0 rfl) ?_
  refine J.iload_n dX0_loadAt_4 rfl rfl ?_
  refine J.bipush (v := 9) dX0_loadAt_5 (by decide) ?_
  refine J.imul dX0_loadAt_7 ?_
  refine J.iload_n dX0_loadAt_8 rfl rfl ?_
  refine J.iadd dX0_loadAt_9 ?_
  refine J.atpc (pc' := 10) rfl ?_
  obtain ⟨hs1, h⟩ := h
  refine J.iald dX0_loadAt_10 (hT.bookA hb 0 rfl) (hT.bookL hb 0 rfl) hs1 ?_
  exact J.iretQ dX0_loadAt_11 rfl (Nat.le_refl _) (Nat.le_refl _) h
set_option maxHeartbeats 4000000 in
set_option maxRecDepth 100000 in
theorem wX0_loadAt (d : Nat) {T : Topo} (hT : Lay T) (b : Nat) (a1 : Int32) (a2 : Int32) (hb : isBk b)  {Q : Int32 → Topo → IM → Prop} {I : IM} (h : fX0_loadAt_0 T b a1 a2 Q I) : Ct (d + 0) mX0_loadAt [.ref b, .int a1, .int a2] T I 0 0 (PI Q) :=
  Ct.ofJ (by decide +kernel) rfl (by intro v hv; revert v hv; simp [Value.category]) rfl (sX0_loadAt_0 d hT b a1 a2 hb  I h)

def jX0_loadAt (I : IM) (b : Nat) (a1 : Int32) (a2 : Int32) : Int32 := (I (b + 1 + 0) ((a2 * 9) + a1).toNatClampNeg)
def jX0_loadAtK (a1 : Int32) (a2 : Int32) : Prop := vp_in ((a2 * 9) + a1) 216
set_option maxRecDepth 10000 in
theorem qX0_loadAt (d : Nat) {T : Topo} {I : IM} (hT : Lay T) (b : Nat) (hb : isBk b) (a1 : Int32) (a2 : Int32)  (hp : (jX0_loadAtK a1 a2)) : CtP (d + 0) mX0_loadAt [.ref b, .int a1, .int a2] T I ((jX0_loadAt I b a1 a2)) :=
  wX0_loadAt d hT b a1 a2 hb  (by
  unfold fX0_loadAt_0
  exact ⟨hp, ⟨by unfold jX0_loadAt; rfl, rfl, rfl⟩⟩)

def fX0_fallAt_0 (T : Topo) (b : Nat) (a1 : Int32) (a2 : Int32) (Q : Int32 → Topo → IM → Prop)  (I : IM) : Prop :=
  (vp_in ((a2 * 9) + a1) 216 ∧ Q (I (b + 1 + 1) ((a2 * 9) + a1).toNatClampNeg) T I)
set_option maxHeartbeats 4000000 in
set_option maxRecDepth 100000 in
theorem sX0_fallAt_0 (d : Nat) {T : Topo} (hT : Lay T) (b : Nat) (a1 : Int32) (a2 : Int32) (hb : isBk b)   {Q : Int32 → Topo → IM → Prop}   (I : IM) (h : fX0_fallAt_0 T b a1 a2 Q  I) : J (d + 0) mX0_fallAt (PI Q) 0 0 0 [some (.ref b), some (.int a1), some (.int a2)] [] T I 0 0 := by
  unfold fX0_fallAt_0 at h
  refine J.aload_n dX0_fallAt_0 rfl rfl ?_
  refine J.getR (r := (b + 1 + 1)) dX0_fallAt_1 fX0_15 (hT.bookK hb) rfl (hT.bookR hb 1 rfl) ?_
  refine J.iload_n dX0_fallAt_4 rfl rfl ?_
  refine J.bipush (v := 9) dX0_fallAt_5 (by decide) ?_
  refine J.imul dX0_fallAt_7 ?_
  refine J.iload_n dX0_fallAt_8 rfl rfl ?_
  refine J.iadd dX0_fallAt_9 ?_
  refine J.atpc (pc' := 10) rfl ?_
  obtain ⟨hs1, h⟩ := h
  refine J.iald dX0_fallAt_10 (hT.bookA hb 1 rfl) (hT.bookL hb 1 rfl) hs1 ?_
  exact J.iretQ dX0_fallAt_11 rfl (Nat.le_refl _) (Nat.le_refl _) h
set_option maxHeartbeats 4000000 in
set_option maxRecDepth 100000 in
theorem wX0_fallAt (d : Nat) {T : Topo} (hT : Lay T) (b : Nat) (a1 : Int32) (a2 : Int32) (hb : isBk b)  {Q : Int32 → Topo → IM → Prop} {I : IM} (h : fX0_fallAt_0 T b a1 a2 Q I) : Ct (d + 0) mX0_fallAt [.ref b, .int a1, .int a2] T I 0 0 (PI Q) :=
  Ct.ofJ (by decide +kernel) rfl (by intro v hv; revert v hv; simp [Value.category]) rfl (sX0_fallAt_0 d hT b a1 a2 hb  I h)

def jX0_fallAt (I : IM) (b : Nat) (a1 : Int32) (a2 : Int32) : Int32 := (I (b + 1 + 1) ((a2 * 9) + a1).toNatClampNeg)
def jX0_fallAtK (a1 : Int32) (a2 : Int32) : Prop := vp_in ((a2 * 9) + a1) 216
set_option maxRecDepth 10000 in
theorem qX0_fallAt (d : Nat) {T : Topo} {I : IM} (hT : Lay T) (b : Nat) (hb : isBk b) (a1 : Int32) (a2 : Int32)  (hp : (jX0_fallAtK a1 a2)) : CtP (d + 0) mX0_fallAt [.ref b, .int a1, .int a2] T I ((jX0_fallAt I b a1 a2)) :=
  wX0_fallAt d hT b a1 a2 hb  (by
  unfold fX0_fallAt_0
  exact ⟨hp, ⟨by unfold jX0_fallAt; rfl, rfl, rfl⟩⟩)

def fX0_fallWith_0 (T : Topo) (b : Nat) (a1 : Int32) (a2 : Int32) (a3 : Int32) (a4 : Int32) (Q : Int32 → Topo → IM → Prop) (K21 : Int32 → Int32 → Int32 → IM → Prop) (I : IM) : Prop :=
  (vp_in ((a4 * 9) + a1) 216 ∧ K21 ((a4 * 9) + a1) (I (b + 1 + 1) ((a4 * 9) + a1).toNatClampNeg) 0 I)
def fX0_fallWith_21 (T : Topo) (b : Nat) (a1 : Int32) (a2 : Int32) (a3 : Int32) (a4 : Int32) (Q : Int32 → Topo → IM → Prop) (K21 : Int32 → Int32 → Int32 → IM → Prop) (v5 v6 v7 : Int32) (I : IM) : Prop :=
  (((9 ≤ v7) → Q v6 T I) ∧ ((¬ 9 ≤ v7) → ((((¬ (hs a2 v7)) → K21 v5 v6 (v7 + 1) I) ∧ ((hs a2 v7) → (vp_in ((v5 * 9) + v7) 1944 ∧ (K21 v5 (jMax v6 ((I (b + 1 + 2) ((v5 * 9) + v7).toNatClampNeg) + a3)) (v7 + 1) I)))))))
set_option maxHeartbeats 4000000 in
set_option maxRecDepth 100000 in
theorem sX0_fallWith_0 (d : Nat) {T : Topo} (hT : Lay T) (b : Nat) (a1 : Int32) (a2 : Int32) (a3 : Int32) (a4 : Int32) (hb : isBk b)   {Q : Int32 → Topo → IM → Prop} {K21 : Int32 → Int32 → Int32 → IM → Prop} (hK21 : ∀ (v5 v6 v7 : Int32) (I : IM), K21 v5 v6 v7 I → J (d + 1) mX0_fallWith (PI Q) 0 0 21 [some (.ref b), none, some (.int a2), some (.int a3), none, some (.int v5), some (.int v6), some (.int v7)] [] T I 0 0) (I : IM) (h : fX0_fallWith_0 T b a1 a2 a3 a4 Q K21 I) : J (d + 1) mX0_fallWith (PI Q) 0 0 0 [some (.ref b), some (.int a1), some (.int a2), some (.int a3), some (.int a4), none, none, none] [] T I 0 0 := by
  unfold fX0_fallWith_0 at h
  refine J.iload dX0_fallWith_0 rfl ?_
  refine J.bipush (v := 9) dX0_fallWith_2 (by decide) ?_
  refine J.imul dX0_fallWith_4 ?_
  refine J.iload_n dX0_fallWith_5 rfl rfl ?_
  refine J.iadd dX0_fallWith_6 ?_
  refine J.istore (ls' := [some (.ref b), some (.int a1), some (.int a2), some (.int a3), some (.int a4), some (.int ((a4 * 9) + a1)), none, none]) dX0_fallWith_7 rfl rfl ?_
  refine J.aload_n dX0_fallWith_9 rfl rfl ?_
  refine J.atpc (pc' := 10) rfl ?_
  refine J.getR (r := (b + 1 + 1)) dX0_fallWith_10 fX0_15 (hT.bookK hb) rfl (hT.bookR hb 1 rfl) ?_
  refine J.iload dX0_fallWith_13 rfl ?_
  obtain ⟨hs1, h⟩ := h
  refine J.iald dX0_fallWith_15 (hT.bookA hb 1 rfl) (hT.bookL hb 1 rfl) hs1 ?_
  refine J.istore (ls' := [some (.ref b), some (.int a1), some (.int a2), some (.int a3), some (.int a4), some (.int ((a4 * 9) + a1)), some (.int (I (b + 1 + 1) ((a4 * 9) + a1).toNatClampNeg)), none]) dX0_fallWith_16 rfl rfl ?_
  refine J.iconst (v := 0) dX0_fallWith_18 (by decide) ?_
  refine J.istore (ls' := [some (.ref b), some (.int a1), some (.int a2), some (.int a3), some (.int a4), some (.int ((a4 * 9) + a1)), some (.int (I (b + 1 + 1) ((a4 * 9) + a1).toNatClampNeg)), some (.int 0)]) dX0_fallWith_19 rfl rfl ?_
  exact J.weaken (ls' := [some (.ref b), none, some (.int a2), some (.int a3), none, some (.int ((a4 * 9) + a1)), some (.int (I (b + 1 + 1) ((a4 * 9) + a1).toNatClampNeg)), some (.int 0)]) (And.intro rfl (And.intro rfl (And.intro rfl (And.intro rfl (And.intro rfl (And.intro rfl trivial)))))) (hK21 ((a4 * 9) + a1) (I (b + 1 + 1) ((a4 * 9) + a1).toNatClampNeg) 0 I h)
set_option maxHeartbeats 4000000 in
set_option maxRecDepth 100000 in
theorem sX0_fallWith_21 (d : Nat) {T : Topo} (hT : Lay T) (b : Nat) (a1 : Int32) (a2 : Int32) (a3 : Int32) (a4 : Int32) (hb : isBk b)   {Q : Int32 → Topo → IM → Prop} {K21 : Int32 → Int32 → Int32 → IM → Prop} (hK21 : ∀ (v5 v6 v7 : Int32) (I : IM), K21 v5 v6 v7 I → J (d + 1) mX0_fallWith (PI Q) 0 0 21 [some (.ref b), none, some (.int a2), some (.int a3), none, some (.int v5), some (.int v6), some (.int v7)] [] T I 0 0) (v5 v6 v7 : Int32) (I : IM) (h : fX0_fallWith_21 T b a1 a2 a3 a4 Q K21 v5 v6 v7 I) : J (d + 1) mX0_fallWith (PI Q) 0 0 21 [some (.ref b), none, some (.int a2), some (.int a3), none, some (.int v5), some (.int v6), some (.int v7)] [] T I 0 0 := by
  unfold fX0_fallWith_21 at h
  refine J.iload dX0_fallWith_21 rfl ?_
  refine J.bipush (v := 9) dX0_fallWith_23 (by decide) ?_
  refine J.icmp_ge (tgt := 65) dX0_fallWith_25 (by decide) (fun hc1 => ?_) (fun hc1 => ?_)
  · have h := h.1 hc1
    refine J.iload dX0_fallWith_65 rfl ?_
    exact J.iretQ dX0_fallWith_67 rfl (Nat.le_refl _) (Nat.le_refl _) h
  · have h := h.2 hc1
    refine J.iload_n dX0_fallWith_28 rfl rfl ?_
    refine J.iload dX0_fallWith_29 rfl ?_
    refine J.callSP (as := [.int a2, .int v7]) (rest := []) dX0_fallWith_31 kX11_has vX11_has lX0_52 rfl rfl rfl (by omega) (Nat.le_refl _) (Nat.le_refl _) (qX11_has (d + 0) hT a2 v7 ) ?_
    refine J.bz_eq (tgt := 59) dX0_fallWith_34 (by decide) (fun hc2 => ?_) (fun hc2 => ?_)
    · have h := h.1 hc2
      refine J.iinc (v := (v7 + 1)) (ls' := [some (.ref b), none, some (.int a2), some (.int a3), none, some (.int v5), some (.int v6), some (.int (v7 + 1))]) dX0_fallWith_59 rfl (by rfl) rfl ?_
      refine J.goto (tgt := 21) dX0_fallWith_62 (by decide) ?_
      exact J.weaken (ls' := [some (.ref b), none, some (.int a2), some (.int a3), none, some (.int v5), some (.int v6), some (.int (v7 + 1))]) (And.intro rfl (And.intro rfl (And.intro rfl (And.intro rfl (And.intro rfl (And.intro rfl trivial)))))) (hK21 v5 v6 (v7 + 1) I h)
    · have h := h.2 hc2
      refine J.iload dX0_fallWith_37 rfl ?_
      refine J.aload_n dX0_fallWith_39 rfl rfl ?_
      refine J.getR (r := (b + 1 + 2)) dX0_fallWith_40 fX0_18 (hT.bookK hb) rfl (hT.bookR hb 2 rfl) ?_
      refine J.iload dX0_fallWith_43 rfl ?_
      refine J.bipush (v := 9) dX0_fallWith_45 (by decide) ?_
      refine J.imul dX0_fallWith_47 ?_
      refine J.iload dX0_fallWith_48 rfl ?_
      refine J.atpc (pc' := 50) rfl ?_
      refine J.iadd dX0_fallWith_50 ?_
      obtain ⟨hs3, h⟩ := h
      refine J.iald dX0_fallWith_51 (hT.bookA hb 2 rfl) (hT.bookL hb 2 rfl) hs3 ?_
      refine J.iload_n dX0_fallWith_52 rfl rfl ?_
      refine J.iadd dX0_fallWith_53 ?_
      refine J.callSP (as := [.int v6, .int ((I (b + 1 + 2) ((v5 * 9) + v7).toNatClampNeg) + a3)]) (rest := []) dX0_fallWith_54 kJ9_max_7cf53 vJ9_max_7cf53 lX0_86 rfl rfl rfl (by omega) (Nat.le_refl _) (Nat.le_refl _) (qJ9_max_7cf53 (d + 0) hT v6 ((I (b + 1 + 2) ((v5 * 9) + v7).toNatClampNeg) + a3) ) ?_
      refine J.istore (ls' := [some (.ref b), none, some (.int a2), some (.int a3), none, some (.int v5), some (.int (jMax v6 ((I (b + 1 + 2) ((v5 * 9) + v7).toNatClampNeg) + a3))), some (.int v7)]) dX0_fallWith_57 rfl rfl ?_
      refine J.iinc (v := (v7 + 1)) (ls' := [some (.ref b), none, some (.int a2), some (.int a3), none, some (.int v5), some (.int (jMax v6 ((I (b + 1 + 2) ((v5 * 9) + v7).toNatClampNeg) + a3))), some (.int (v7 + 1))]) dX0_fallWith_59 rfl (by rfl) rfl ?_
      refine J.goto (tgt := 21) dX0_fallWith_62 (by decide) ?_
      exact J.weaken (ls' := [some (.ref b), none, some (.int a2), some (.int a3), none, some (.int v5), some (.int (jMax v6 ((I (b + 1 + 2) ((v5 * 9) + v7).toNatClampNeg) + a3))), some (.int (v7 + 1))]) (And.intro rfl (And.intro rfl (And.intro rfl (And.intro rfl (And.intro rfl (And.intro rfl trivial)))))) (hK21 v5 (jMax v6 ((I (b + 1 + 2) ((v5 * 9) + v7).toNatClampNeg) + a3)) (v7 + 1) I h)
set_option maxHeartbeats 4000000 in
set_option maxRecDepth 100000 in
theorem wX0_fallWith (d : Nat) {T : Topo} (hT : Lay T) (b : Nat) (a1 : Int32) (a2 : Int32) (a3 : Int32) (a4 : Int32) (hb : isBk b)  {Q : Int32 → Topo → IM → Prop} (V21 : Int32 → Int32 → Int32 → IM → Prop) (μ21 : Int32 → Int32 → Int32 → IM → Nat) (vc21 : ∀ (v5 v6 v7 : Int32) (I : IM), V21 v5 v6 v7 I → fX0_fallWith_21 T b a1 a2 a3 a4 Q (fun w5 w6 w7 I_ => V21 w5 w6 w7 I_ ∧ μ21 w5 w6 w7 I_ < μ21 v5 v6 v7 I) v5 v6 v7 I) {I : IM} (h : fX0_fallWith_0 T b a1 a2 a3 a4 Q V21 I) : Ct (d + 1) mX0_fallWith [.ref b, .int a1, .int a2, .int a3, .int a4] T I 0 0 (PI Q) := by
  have all : ∀ n : Nat, (∀ (v5 v6 v7 : Int32) (I : IM), V21 v5 v6 v7 I → μ21 v5 v6 v7 I < n → J (d + 1) mX0_fallWith (PI Q) 0 0 21 [some (.ref b), none, some (.int a2), some (.int a3), none, some (.int v5), some (.int v6), some (.int v7)] [] T I 0 0) := by
    intro n
    induction n with
    | zero => exact fun _ _ _ _ _ hn => absurd hn (Nat.not_lt_zero _)
    | succ n ih =>
      exact fun v5 v6 v7 I hv hn => sX0_fallWith_21 d hT b a1 a2 a3 a4 hb  (fun w5 w6 w7 I_ hw => ih w5 w6 w7 I_ hw.1 (by have := hw.2; omega)) v5 v6 v7 I (vc21 v5 v6 v7 I hv)
  exact Ct.ofJ (by decide +kernel) rfl (by intro v hv; revert v hv; simp [Value.category]) rfl (sX0_fallWith_0 d hT b a1 a2 a3 a4 hb  (fun w5 w6 w7 I_ hw => (all (μ21 w5 w6 w7 I_ + 1)) w5 w6 w7 I_ hw (Nat.lt_succ_self _)) I h)

def jX0_fallWithI (b : Nat) (a1 : Int32) (a2 : Int32) (a3 : Int32) (a4 : Int32) : Nat → Int32 → Int32 → Int32 → IM → Int32
  | 0 => fun _ _ _ I => 0
  | n + 1 => fun v5 v6 v7 I => (if 9 ≤ v7 then v6 else (if hs a2 v7 then (jX0_fallWithI b a1 a2 a3 a4 n v5 (jMax v6 ((I (b + 1 + 2) ((v5 * 9) + v7).toNatClampNeg) + a3)) (v7 + 1) I) else (jX0_fallWithI b a1 a2 a3 a4 n v5 v6 (v7 + 1) I)))
def jX0_fallWithO (b : Nat) (a1 : Int32) (a2 : Int32) (a3 : Int32) (a4 : Int32) : Nat → Int32 → Int32 → Int32 → IM → Prop
  | 0 => fun _ _ _ _ => False
  | n + 1 => fun v5 v6 v7 I => (((9 ≤ v7) → True) ∧ ((¬ 9 ≤ v7) → (((¬ (hs a2 v7)) → (jX0_fallWithO b a1 a2 a3 a4 n v5 v6 (v7 + 1) I)) ∧ ((hs a2 v7) → (vp_in ((v5 * 9) + v7) 1944 ∧ (jX0_fallWithO b a1 a2 a3 a4 n v5 (jMax v6 ((I (b + 1 + 2) ((v5 * 9) + v7).toNatClampNeg) + a3)) (v7 + 1) I))))))
theorem jX0_fallWithI_21 (b : Nat) (a1 : Int32) (a2 : Int32) (a3 : Int32) (a4 : Int32) (n : Nat) (v5 v6 v7 : Int32) (I : IM) : jX0_fallWithI b a1 a2 a3 a4 (n + 1) v5 v6 v7 I = (if 9 ≤ v7 then v6 else (if hs a2 v7 then (jX0_fallWithI b a1 a2 a3 a4 n v5 (jMax v6 ((I (b + 1 + 2) ((v5 * 9) + v7).toNatClampNeg) + a3)) (v7 + 1) I) else (jX0_fallWithI b a1 a2 a3 a4 n v5 v6 (v7 + 1) I))) := rfl
theorem jX0_fallWithO_21 (b : Nat) (a1 : Int32) (a2 : Int32) (a3 : Int32) (a4 : Int32) (n : Nat) (v5 v6 v7 : Int32) (I : IM) : jX0_fallWithO b a1 a2 a3 a4 (n + 1) v5 v6 v7 I = (((9 ≤ v7) → True) ∧ ((¬ 9 ≤ v7) → (((¬ (hs a2 v7)) → (jX0_fallWithO b a1 a2 a3 a4 n v5 v6 (v7 + 1) I)) ∧ ((hs a2 v7) → (vp_in ((v5 * 9) + v7) 1944 ∧ (jX0_fallWithO b a1 a2 a3 a4 n v5 (jMax v6 ((I (b + 1 + 2) ((v5 * 9) + v7).toNatClampNeg) + a3)) (v7 + 1) I)))))) := rfl
def jX0_fallWith (I : IM) (b : Nat) (a1 : Int32) (a2 : Int32) (a3 : Int32) (a4 : Int32) : Int32 := (jX0_fallWithI b a1 a2 a3 a4 FU ((a4 * 9) + a1) (I (b + 1 + 1) ((a4 * 9) + a1).toNatClampNeg) 0 I)
def jX0_fallWithK (I : IM) (b : Nat) (a1 : Int32) (a2 : Int32) (a3 : Int32) (a4 : Int32) : Prop := (vp_in ((a4 * 9) + a1) 216 ∧ (jX0_fallWithO b a1 a2 a3 a4 FU ((a4 * 9) + a1) (I (b + 1 + 1) ((a4 * 9) + a1).toNatClampNeg) 0 I))
set_option maxRecDepth 10000 in
set_option maxHeartbeats 1000000 in
theorem uX0_fallWith (d : Nat) {T : Topo} (hT : Lay T) (b : Nat) (a1 : Int32) (a2 : Int32) (a3 : Int32) (a4 : Int32) (hb : isBk b)  {R : Int32} {I00 : IM} : ∀ n : Nat, (∀ (v5 v6 v7 : Int32) (I : IM), I = I00 → jX0_fallWithO b a1 a2 a3 a4 n v5 v6 v7 I → jX0_fallWithI b a1 a2 a3 a4 n v5 v6 v7 I = R → J (d + 1) mX0_fallWith (PI (fun x T' I' => x = R ∧ T' = T ∧ I' = I00)) 0 0 21 [some (.ref b), none, some (.int a2), some (.int a3), none, some (.int v5), some (.int v6), some (.int v7)] [] T I 0 0) := by
  intro n
  induction n with
  | zero => exact fun _ _ _ _ _ hz => hz.elim
  | succ n ih =>
    exact fun v5 v6 v7 I hI hok hit => by
        rw [jX0_fallWithO_21] at hok
        exact sX0_fallWith_21 d hT b a1 a2 a3 a4 hb  (K21 := fun w5 w6 w7 I_ => (jX0_fallWithO b a1 a2 a3 a4 n w5 w6 w7 I_ ∧ jX0_fallWithI b a1 a2 a3 a4 n w5 w6 w7 I_ = R) ∧ I_ = I00) (fun w5 w6 w7 I_ hw => ih w5 w6 w7 I_ hw.2 hw.1.1 hw.1.2) v5 v6 v7 I (by
          unfold fX0_fallWith_21
          exact ⟨fun hc1 => ⟨by rw [jX0_fallWithI_21, if_pos hc1] at hit; exact hit, rfl, hI⟩, fun hc1 => ⟨fun hc2 => ⟨⟨((hok).2 hc1).1 hc2, by rw [jX0_fallWithI_21, if_neg hc1, if_neg hc2] at hit; exact hit⟩, hI⟩, fun hc2 => ⟨(((hok).2 hc1).2 hc2).1, ⟨⟨(((hok).2 hc1).2 hc2).2, by rw [jX0_fallWithI_21, if_neg hc1, if_pos hc2] at hit; exact hit⟩, hI⟩⟩⟩⟩)
set_option maxRecDepth 10000 in
set_option maxHeartbeats 1000000 in
theorem qX0_fallWith (d : Nat) {T : Topo} {I : IM} (hT : Lay T) (b : Nat) (hb : isBk b) (a1 : Int32) (a2 : Int32) (a3 : Int32) (a4 : Int32)  (hp : (jX0_fallWithK I b a1 a2 a3 a4)) : CtP (d + 1) mX0_fallWith [.ref b, .int a1, .int a2, .int a3, .int a4] T I (jX0_fallWith I b a1 a2 a3 a4) := by
  unfold jX0_fallWithK at hp
  exact Ct.ofJ (by decide +kernel) rfl (by intro v hv; revert v hv; simp [Value.category]) rfl (sX0_fallWith_0 d hT b a1 a2 a3 a4 hb  (K21 := fun w5 w6 w7 I_ => (jX0_fallWithO b a1 a2 a3 a4 FU w5 w6 w7 I_ ∧ jX0_fallWithI b a1 a2 a3 a4 FU w5 w6 w7 I_ = (jX0_fallWith I b a1 a2 a3 a4)) ∧ I_ = I) (fun w5 w6 w7 I_ hw => uX0_fallWith d hT b a1 a2 a3 a4 hb  FU w5 w6 w7 I_ hw.2 hw.1.1 hw.1.2) I (by
    unfold fX0_fallWith_0
    exact ⟨(hp).1, ⟨⟨(hp).2, rfl⟩, rfl⟩⟩))

def fX0_worksAt_0 (T : Topo) (b : Nat) (a1 : Int32) (a2 : Int32) (Q : Int32 → Topo → IM → Prop)  (I : IM) : Prop :=
  (vp_in ((a2 * 6) + a1) 144 ∧ Q (I (b + 1 + 3) ((a2 * 6) + a1).toNatClampNeg) T I)
set_option maxHeartbeats 4000000 in
set_option maxRecDepth 100000 in
theorem sX0_worksAt_0 (d : Nat) {T : Topo} (hT : Lay T) (b : Nat) (a1 : Int32) (a2 : Int32) (hb : isBk b)   {Q : Int32 → Topo → IM → Prop}   (I : IM) (h : fX0_worksAt_0 T b a1 a2 Q  I) : J (d + 0) mX0_worksAt (PI Q) 0 0 0 [some (.ref b), some (.int a1), some (.int a2)] [] T I 0 0 := by
  unfold fX0_worksAt_0 at h
  refine J.aload_n dX0_worksAt_0 rfl rfl ?_
  refine J.getR (r := (b + 1 + 3)) dX0_worksAt_1 fX0_21 (hT.bookK hb) rfl (hT.bookR hb 3 rfl) ?_
  refine J.iload_n dX0_worksAt_4 rfl rfl ?_
  refine J.bipush (v := 6) dX0_worksAt_5 (by decide) ?_
  refine J.imul dX0_worksAt_7 ?_
  refine J.iload_n dX0_worksAt_8 rfl rfl ?_
  refine J.iadd dX0_worksAt_9 ?_
  refine J.atpc (pc' := 10) rfl ?_
  obtain ⟨hs1, h⟩ := h
  refine J.iald dX0_worksAt_10 (hT.bookA hb 3 rfl) (hT.bookL hb 3 rfl) hs1 ?_
  exact J.iretQ dX0_worksAt_11 rfl (Nat.le_refl _) (Nat.le_refl _) h
set_option maxHeartbeats 4000000 in
set_option maxRecDepth 100000 in
theorem wX0_worksAt (d : Nat) {T : Topo} (hT : Lay T) (b : Nat) (a1 : Int32) (a2 : Int32) (hb : isBk b)  {Q : Int32 → Topo → IM → Prop} {I : IM} (h : fX0_worksAt_0 T b a1 a2 Q I) : Ct (d + 0) mX0_worksAt [.ref b, .int a1, .int a2] T I 0 0 (PI Q) :=
  Ct.ofJ (by decide +kernel) rfl (by intro v hv; revert v hv; simp [Value.category]) rfl (sX0_worksAt_0 d hT b a1 a2 hb  I h)

def jX0_worksAt (I : IM) (b : Nat) (a1 : Int32) (a2 : Int32) : Int32 := (I (b + 1 + 3) ((a2 * 6) + a1).toNatClampNeg)
def jX0_worksAtK (a1 : Int32) (a2 : Int32) : Prop := vp_in ((a2 * 6) + a1) 144
set_option maxRecDepth 10000 in
theorem qX0_worksAt (d : Nat) {T : Topo} {I : IM} (hT : Lay T) (b : Nat) (hb : isBk b) (a1 : Int32) (a2 : Int32)  (hp : (jX0_worksAtK a1 a2)) : CtP (d + 0) mX0_worksAt [.ref b, .int a1, .int a2] T I ((jX0_worksAt I b a1 a2)) :=
  wX0_worksAt d hT b a1 a2 hb  (by
  unfold fX0_worksAt_0
  exact ⟨hp, ⟨by unfold jX0_worksAt; rfl, rfl, rfl⟩⟩)

def fX0_enterFalls_0 (T : Topo) (b : Nat) (a1 : Int32) (a2 : Int32) (a3 : Int32) (a4 : Int32) (Q : Topo → IM → Prop) (K15 : Int32 → Int32 → Int32 → IM → Prop) (I : IM) : Prop :=
  K15 ((a4 * 9) + a1) 0 0 I
def fX0_enterFalls_15 (T : Topo) (b : Nat) (a1 : Int32) (a2 : Int32) (a3 : Int32) (a4 : Int32) (Q : Topo → IM → Prop) (K15 : Int32 → Int32 → Int32 → IM → Prop) (v5 v6 v7 : Int32) (I : IM) : Prop :=
  (((9 ≤ v7) → (vp_in v5 216 ∧ Q T (up2 I (b + 1 + 1) v5.toNatClampNeg v6))) ∧ ((¬ 9 ≤ v7) → ((((¬ (hs a2 v7)) → (vp_in ((v5 * 9) + v7) 1944 ∧ (K15 v5 (jMax v6 (I (b + 1 + 2) ((v5 * 9) + v7).toNatClampNeg)) (v7 + 1) I))) ∧ ((hs a2 v7) → (vp_in ((v5 * 9) + v7) 1944 ∧ (vp_in ((v5 * 9) + v7) 1944 ∧ (vp_in ((v5 * 9) + v7) 1944 ∧ (K15 v5 (jMax v6 ((I (b + 1 + 2) ((v5 * 9) + v7).toNatClampNeg) + a3)) (v7 + 1) (up2 I (b + 1 + 2) ((v5 * 9) + v7).toNatClampNeg ((I (b + 1 + 2) ((v5 * 9) + v7).toNatClampNeg) + a3)))))))))))
set_option maxHeartbeats 4000000 in
set_option maxRecDepth 100000 in
theorem sX0_enterFalls_0 (d : Nat) {T : Topo} (hT : Lay T) (b : Nat) (a1 : Int32) (a2 : Int32) (a3 : Int32) (a4 : Int32) (hb : isBk b)   {Q : Topo → IM → Prop} {K15 : Int32 → Int32 → Int32 → IM → Prop} (hK15 : ∀ (v5 v6 v7 : Int32) (I : IM), K15 v5 v6 v7 I → J (d + 1) mX0_enterFalls (PV Q) 0 0 15 [some (.ref b), none, some (.int a2), some (.int a3), none, some (.int v5), some (.int v6), some (.int v7)] [] T I 0 0) (I : IM) (h : fX0_enterFalls_0 T b a1 a2 a3 a4 Q K15 I) : J (d + 1) mX0_enterFalls (PV Q) 0 0 0 [some (.ref b), some (.int a1), some (.int a2), some (.int a3), some (.int a4), none, none, none] [] T I 0 0 := by
  unfold fX0_enterFalls_0 at h
  refine J.iload dX0_enterFalls_0 rfl ?_
  refine J.bipush (v := 9) dX0_enterFalls_2 (by decide) ?_
  refine J.imul dX0_enterFalls_4 ?_
  refine J.iload_n dX0_enterFalls_5 rfl rfl ?_
  refine J.iadd dX0_enterFalls_6 ?_
  refine J.istore (ls' := [some (.ref b), some (.int a1), some (.int a2), some (.int a3), some (.int a4), some (.int ((a4 * 9) + a1)), none, none]) dX0_enterFalls_7 rfl rfl ?_
  refine J.iconst (v := 0) dX0_enterFalls_9 (by decide) ?_
  refine J.atpc (pc' := 10) rfl ?_
  refine J.istore (ls' := [some (.ref b), some (.int a1), some (.int a2), some (.int a3), some (.int a4), some (.int ((a4 * 9) + a1)), some (.int 0), none]) dX0_enterFalls_10 rfl rfl ?_
  refine J.iconst (v := 0) dX0_enterFalls_12 (by decide) ?_
  refine J.istore (ls' := [some (.ref b), some (.int a1), some (.int a2), some (.int a3), some (.int a4), some (.int ((a4 * 9) + a1)), some (.int 0), some (.int 0)]) dX0_enterFalls_13 rfl rfl ?_
  exact J.weaken (ls' := [some (.ref b), none, some (.int a2), some (.int a3), none, some (.int ((a4 * 9) + a1)), some (.int 0), some (.int 0)]) (And.intro rfl (And.intro rfl (And.intro rfl (And.intro rfl (And.intro rfl (And.intro rfl trivial)))))) (hK15 ((a4 * 9) + a1) 0 0 I h)
set_option maxHeartbeats 4000000 in
set_option maxRecDepth 100000 in
theorem sX0_enterFalls_15 (d : Nat) {T : Topo} (hT : Lay T) (b : Nat) (a1 : Int32) (a2 : Int32) (a3 : Int32) (a4 : Int32) (hb : isBk b)   {Q : Topo → IM → Prop} {K15 : Int32 → Int32 → Int32 → IM → Prop} (hK15 : ∀ (v5 v6 v7 : Int32) (I : IM), K15 v5 v6 v7 I → J (d + 1) mX0_enterFalls (PV Q) 0 0 15 [some (.ref b), none, some (.int a2), some (.int a3), none, some (.int v5), some (.int v6), some (.int v7)] [] T I 0 0) (v5 v6 v7 : Int32) (I : IM) (h : fX0_enterFalls_15 T b a1 a2 a3 a4 Q K15 v5 v6 v7 I) : J (d + 1) mX0_enterFalls (PV Q) 0 0 15 [some (.ref b), none, some (.int a2), some (.int a3), none, some (.int v5), some (.int v6), some (.int v7)] [] T I 0 0 := by
  unfold fX0_enterFalls_15 at h
  refine J.iload dX0_enterFalls_15 rfl ?_
  refine J.bipush (v := 9) dX0_enterFalls_17 (by decide) ?_
  refine J.icmp_ge (tgt := 74) dX0_enterFalls_19 (by decide) (fun hc1 => ?_) (fun hc1 => ?_)
  · have h := h.1 hc1
    refine J.aload_n dX0_enterFalls_74 rfl rfl ?_
    refine J.getR (r := (b + 1 + 1)) dX0_enterFalls_75 fX0_15 (hT.bookK hb) rfl (hT.bookR hb 1 rfl) ?_
    refine J.iload dX0_enterFalls_78 rfl ?_
    refine J.iload dX0_enterFalls_80 rfl ?_
    obtain ⟨hs2, h⟩ := h
    refine J.iast dX0_enterFalls_82 (hT.bookA hb 1 rfl) (hT.bookL hb 1 rfl) hs2 ?_
    exact J.vretQ dX0_enterFalls_83 rfl (Nat.le_refl _) (Nat.le_refl _) h
  · have h := h.2 hc1
    refine J.iload_n dX0_enterFalls_22 rfl rfl ?_
    refine J.iload dX0_enterFalls_23 rfl ?_
    refine J.callSP (as := [.int a2, .int v7]) (rest := []) dX0_enterFalls_25 kX11_has vX11_has lX0_52 rfl rfl rfl (by omega) (Nat.le_refl _) (Nat.le_refl _) (qX11_has (d + 0) hT a2 v7 ) ?_
    refine J.bz_eq (tgt := 48) dX0_enterFalls_28 (by decide) (fun hc3 => ?_) (fun hc3 => ?_)
    · have h := h.1 hc3
      refine J.iload dX0_enterFalls_48 rfl ?_
      refine J.aload_n dX0_enterFalls_50 rfl rfl ?_
      refine J.getR (r := (b + 1 + 2)) dX0_enterFalls_51 fX0_18 (hT.bookK hb) rfl (hT.bookR hb 2 rfl) ?_
      refine J.iload dX0_enterFalls_54 rfl ?_
      refine J.bipush (v := 9) dX0_enterFalls_56 (by decide) ?_
      refine J.imul dX0_enterFalls_58 ?_
      refine J.iload dX0_enterFalls_59 rfl ?_
      refine J.atpc (pc' := 61) rfl ?_
      refine J.iadd dX0_enterFalls_61 ?_
      obtain ⟨hs4, h⟩ := h
      refine J.iald dX0_enterFalls_62 (hT.bookA hb 2 rfl) (hT.bookL hb 2 rfl) hs4 ?_
      refine J.callSP (as := [.int v6, .int (I (b + 1 + 2) ((v5 * 9) + v7).toNatClampNeg)]) (rest := []) dX0_enterFalls_63 kJ9_max_7cf53 vJ9_max_7cf53 lX0_86 rfl rfl rfl (by omega) (Nat.le_refl _) (Nat.le_refl _) (qJ9_max_7cf53 (d + 0) hT v6 (I (b + 1 + 2) ((v5 * 9) + v7).toNatClampNeg) ) ?_
      refine J.istore (ls' := [some (.ref b), none, some (.int a2), some (.int a3), none, some (.int v5), some (.int (jMax v6 (I (b + 1 + 2) ((v5 * 9) + v7).toNatClampNeg))), some (.int v7)]) dX0_enterFalls_66 rfl rfl ?_
      refine J.iinc (v := (v7 + 1)) (ls' := [some (.ref b), none, some (.int a2), some (.int a3), none, some (.int v5), some (.int (jMax v6 (I (b + 1 + 2) ((v5 * 9) + v7).toNatClampNeg))), some (.int (v7 + 1))]) dX0_enterFalls_68 rfl (by rfl) rfl ?_
      refine J.goto (tgt := 15) dX0_enterFalls_71 (by decide) ?_
      exact J.weaken (ls' := [some (.ref b), none, some (.int a2), some (.int a3), none, some (.int v5), some (.int (jMax v6 (I (b + 1 + 2) ((v5 * 9) + v7).toNatClampNeg))), some (.int (v7 + 1))]) (And.intro rfl (And.intro rfl (And.intro rfl (And.intro rfl (And.intro rfl (And.intro rfl trivial)))))) (hK15 v5 (jMax v6 (I (b + 1 + 2) ((v5 * 9) + v7).toNatClampNeg)) (v7 + 1) I h)
    · have h := h.2 hc3
      refine J.aload_n dX0_enterFalls_31 rfl rfl ?_
      refine J.getR (r := (b + 1 + 2)) dX0_enterFalls_32 fX0_18 (hT.bookK hb) rfl (hT.bookR hb 2 rfl) ?_
      refine J.iload dX0_enterFalls_35 rfl ?_
      refine J.bipush (v := 9) dX0_enterFalls_37 (by decide) ?_
      refine J.imul dX0_enterFalls_39 ?_
      refine J.iload dX0_enterFalls_40 rfl ?_
      refine J.iadd dX0_enterFalls_42 ?_
      refine J.atpc (pc' := 43) rfl ?_
      refine J.dup2 dX0_enterFalls_43 rfl rfl ?_
      obtain ⟨hs5, h⟩ := h
      refine J.iald dX0_enterFalls_44 (hT.bookA hb 2 rfl) (hT.bookL hb 2 rfl) hs5 ?_
      refine J.iload_n dX0_enterFalls_45 rfl rfl ?_
      refine J.iadd dX0_enterFalls_46 ?_
      obtain ⟨hs6, h⟩ := h
      refine J.iast dX0_enterFalls_47 (hT.bookA hb 2 rfl) (hT.bookL hb 2 rfl) hs6 ?_
      refine J.iload dX0_enterFalls_48 rfl ?_
      refine J.aload_n dX0_enterFalls_50 rfl rfl ?_
      refine J.getR (r := (b + 1 + 2)) dX0_enterFalls_51 fX0_18 (hT.bookK hb) rfl (hT.bookR hb 2 rfl) ?_
      refine J.iload dX0_enterFalls_54 rfl ?_
      refine J.bipush (v := 9) dX0_enterFalls_56 (by decide) ?_
      refine J.imul dX0_enterFalls_58 ?_
      refine J.iload dX0_enterFalls_59 rfl ?_
      refine J.atpc (pc' := 61) rfl ?_
      refine J.iadd dX0_enterFalls_61 ?_
      obtain ⟨hs7, h⟩ := h
      refine J.iald dX0_enterFalls_62 (hT.bookA hb 2 rfl) (hT.bookL hb 2 rfl) hs7 ?_
      refine J.topEq (y := ((I (b + 1 + 2) ((v5 * 9) + v7).toNatClampNeg) + a3)) (up2_at _ _ _ _) ?_
      refine J.callSP (as := [.int v6, .int ((I (b + 1 + 2) ((v5 * 9) + v7).toNatClampNeg) + a3)]) (rest := []) dX0_enterFalls_63 kJ9_max_7cf53 vJ9_max_7cf53 lX0_86 rfl rfl rfl (by omega) (Nat.le_refl _) (Nat.le_refl _) (qJ9_max_7cf53 (d + 0) hT v6 ((I (b + 1 + 2) ((v5 * 9) + v7).toNatClampNeg) + a3) ) ?_
      refine J.istore (ls' := [some (.ref b), none, some (.int a2), some (.int a3), none, some (.int v5), some (.int (jMax v6 ((I (b + 1 + 2) ((v5 * 9) + v7).toNatClampNeg) + a3))), some (.int v7)]) dX0_enterFalls_66 rfl rfl ?_
      refine J.iinc (v := (v7 + 1)) (ls' := [some (.ref b), none, some (.int a2), some (.int a3), none, some (.int v5), some (.int (jMax v6 ((I (b + 1 + 2) ((v5 * 9) + v7).toNatClampNeg) + a3))), some (.int (v7 + 1))]) dX0_enterFalls_68 rfl (by rfl) rfl ?_
      refine J.goto (tgt := 15) dX0_enterFalls_71 (by decide) ?_
      exact J.weaken (ls' := [some (.ref b), none, some (.int a2), some (.int a3), none, some (.int v5), some (.int (jMax v6 ((I (b + 1 + 2) ((v5 * 9) + v7).toNatClampNeg) + a3))), some (.int (v7 + 1))]) (And.intro rfl (And.intro rfl (And.intro rfl (And.intro rfl (And.intro rfl (And.intro rfl trivial)))))) (hK15 v5 (jMax v6 ((I (b + 1 + 2) ((v5 * 9) + v7).toNatClampNeg) + a3)) (v7 + 1) (up2 I (b + 1 + 2) ((v5 * 9) + v7).toNatClampNeg ((I (b + 1 + 2) ((v5 * 9) + v7).toNatClampNeg) + a3)) h)
set_option maxHeartbeats 4000000 in
set_option maxRecDepth 100000 in
theorem wX0_enterFalls (d : Nat) {T : Topo} (hT : Lay T) (b : Nat) (a1 : Int32) (a2 : Int32) (a3 : Int32) (a4 : Int32) (hb : isBk b)  {Q : Topo → IM → Prop} (V15 : Int32 → Int32 → Int32 → IM → Prop) (μ15 : Int32 → Int32 → Int32 → IM → Nat) (vc15 : ∀ (v5 v6 v7 : Int32) (I : IM), V15 v5 v6 v7 I → fX0_enterFalls_15 T b a1 a2 a3 a4 Q (fun w5 w6 w7 I_ => V15 w5 w6 w7 I_ ∧ μ15 w5 w6 w7 I_ < μ15 v5 v6 v7 I) v5 v6 v7 I) {I : IM} (h : fX0_enterFalls_0 T b a1 a2 a3 a4 Q V15 I) : Ct (d + 1) mX0_enterFalls [.ref b, .int a1, .int a2, .int a3, .int a4] T I 0 0 (PV Q) := by
  have all : ∀ n : Nat, (∀ (v5 v6 v7 : Int32) (I : IM), V15 v5 v6 v7 I → μ15 v5 v6 v7 I < n → J (d + 1) mX0_enterFalls (PV Q) 0 0 15 [some (.ref b), none, some (.int a2), some (.int a3), none, some (.int v5), some (.int v6), some (.int v7)] [] T I 0 0) := by
    intro n
    induction n with
    | zero => exact fun _ _ _ _ _ hn => absurd hn (Nat.not_lt_zero _)
    | succ n ih =>
      exact fun v5 v6 v7 I hv hn => sX0_enterFalls_15 d hT b a1 a2 a3 a4 hb  (fun w5 w6 w7 I_ hw => ih w5 w6 w7 I_ hw.1 (by have := hw.2; omega)) v5 v6 v7 I (vc15 v5 v6 v7 I hv)
  exact Ct.ofJ (by decide +kernel) rfl (by intro v hv; revert v hv; simp [Value.category]) rfl (sX0_enterFalls_0 d hT b a1 a2 a3 a4 hb  (fun w5 w6 w7 I_ hw => (all (μ15 w5 w6 w7 I_ + 1)) w5 w6 w7 I_ hw (Nat.lt_succ_self _)) I h)

def jX0_enterFallsI (b : Nat) (a1 : Int32) (a2 : Int32) (a3 : Int32) (a4 : Int32) : Nat → Int32 → Int32 → Int32 → IM → IM
  | 0 => fun _ _ _ I => I
  | n + 1 => fun v5 v6 v7 I => (if 9 ≤ v7 then (up2 I (b + 1 + 1) v5.toNatClampNeg v6) else (if hs a2 v7 then (jX0_enterFallsI b a1 a2 a3 a4 n v5 (jMax v6 ((I (b + 1 + 2) ((v5 * 9) + v7).toNatClampNeg) + a3)) (v7 + 1) (up2 I (b + 1 + 2) ((v5 * 9) + v7).toNatClampNeg ((I (b + 1 + 2) ((v5 * 9) + v7).toNatClampNeg) + a3))) else (jX0_enterFallsI b a1 a2 a3 a4 n v5 (jMax v6 (I (b + 1 + 2) ((v5 * 9) + v7).toNatClampNeg)) (v7 + 1) I)))
def jX0_enterFallsO (b : Nat) (a1 : Int32) (a2 : Int32) (a3 : Int32) (a4 : Int32) : Nat → Int32 → Int32 → Int32 → IM → Prop
  | 0 => fun _ _ _ _ => False
  | n + 1 => fun v5 v6 v7 I => (((9 ≤ v7) → vp_in v5 216) ∧ ((¬ 9 ≤ v7) → (((¬ (hs a2 v7)) → (vp_in ((v5 * 9) + v7) 1944 ∧ (jX0_enterFallsO b a1 a2 a3 a4 n v5 (jMax v6 (I (b + 1 + 2) ((v5 * 9) + v7).toNatClampNeg)) (v7 + 1) I))) ∧ ((hs a2 v7) → (vp_in ((v5 * 9) + v7) 1944 ∧ (vp_in ((v5 * 9) + v7) 1944 ∧ (vp_in ((v5 * 9) + v7) 1944 ∧ (jX0_enterFallsO b a1 a2 a3 a4 n v5 (jMax v6 ((I (b + 1 + 2) ((v5 * 9) + v7).toNatClampNeg) + a3)) (v7 + 1) (up2 I (b + 1 + 2) ((v5 * 9) + v7).toNatClampNeg ((I (b + 1 + 2) ((v5 * 9) + v7).toNatClampNeg) + a3))))))))))
theorem jX0_enterFallsI_15 (b : Nat) (a1 : Int32) (a2 : Int32) (a3 : Int32) (a4 : Int32) (n : Nat) (v5 v6 v7 : Int32) (I : IM) : jX0_enterFallsI b a1 a2 a3 a4 (n + 1) v5 v6 v7 I = (if 9 ≤ v7 then (up2 I (b + 1 + 1) v5.toNatClampNeg v6) else (if hs a2 v7 then (jX0_enterFallsI b a1 a2 a3 a4 n v5 (jMax v6 ((I (b + 1 + 2) ((v5 * 9) + v7).toNatClampNeg) + a3)) (v7 + 1) (up2 I (b + 1 + 2) ((v5 * 9) + v7).toNatClampNeg ((I (b + 1 + 2) ((v5 * 9) + v7).toNatClampNeg) + a3))) else (jX0_enterFallsI b a1 a2 a3 a4 n v5 (jMax v6 (I (b + 1 + 2) ((v5 * 9) + v7).toNatClampNeg)) (v7 + 1) I))) := rfl
theorem jX0_enterFallsO_15 (b : Nat) (a1 : Int32) (a2 : Int32) (a3 : Int32) (a4 : Int32) (n : Nat) (v5 v6 v7 : Int32) (I : IM) : jX0_enterFallsO b a1 a2 a3 a4 (n + 1) v5 v6 v7 I = (((9 ≤ v7) → vp_in v5 216) ∧ ((¬ 9 ≤ v7) → (((¬ (hs a2 v7)) → (vp_in ((v5 * 9) + v7) 1944 ∧ (jX0_enterFallsO b a1 a2 a3 a4 n v5 (jMax v6 (I (b + 1 + 2) ((v5 * 9) + v7).toNatClampNeg)) (v7 + 1) I))) ∧ ((hs a2 v7) → (vp_in ((v5 * 9) + v7) 1944 ∧ (vp_in ((v5 * 9) + v7) 1944 ∧ (vp_in ((v5 * 9) + v7) 1944 ∧ (jX0_enterFallsO b a1 a2 a3 a4 n v5 (jMax v6 ((I (b + 1 + 2) ((v5 * 9) + v7).toNatClampNeg) + a3)) (v7 + 1) (up2 I (b + 1 + 2) ((v5 * 9) + v7).toNatClampNeg ((I (b + 1 + 2) ((v5 * 9) + v7).toNatClampNeg) + a3)))))))))) := rfl
def jX0_enterFalls (I : IM) (b : Nat) (a1 : Int32) (a2 : Int32) (a3 : Int32) (a4 : Int32) : IM := (jX0_enterFallsI b a1 a2 a3 a4 FU ((a4 * 9) + a1) 0 0 I)
def jX0_enterFallsK (I : IM) (b : Nat) (a1 : Int32) (a2 : Int32) (a3 : Int32) (a4 : Int32) : Prop := (jX0_enterFallsO b a1 a2 a3 a4 FU ((a4 * 9) + a1) 0 0 I)
set_option maxRecDepth 10000 in
set_option maxHeartbeats 1000000 in
theorem uX0_enterFalls (d : Nat) {T : Topo} (hT : Lay T) (b : Nat) (a1 : Int32) (a2 : Int32) (a3 : Int32) (a4 : Int32) (hb : isBk b)  {R : IM} : ∀ n : Nat, (∀ (v5 v6 v7 : Int32) (I : IM), jX0_enterFallsO b a1 a2 a3 a4 n v5 v6 v7 I → jX0_enterFallsI b a1 a2 a3 a4 n v5 v6 v7 I = R → J (d + 1) mX0_enterFalls (PV (fun T' I' => T' = T ∧ I' = R)) 0 0 15 [some (.ref b), none, some (.int a2), some (.int a3), none, some (.int v5), some (.int v6), some (.int v7)] [] T I 0 0) := by
  intro n
  induction n with
  | zero => exact fun _ _ _ _ hz => hz.elim
  | succ n ih =>
    exact fun v5 v6 v7 I hok hit => by
        rw [jX0_enterFallsO_15] at hok
        exact sX0_enterFalls_15 d hT b a1 a2 a3 a4 hb  (K15 := fun w5 w6 w7 I_ => (jX0_enterFallsO b a1 a2 a3 a4 n w5 w6 w7 I_ ∧ jX0_enterFallsI b a1 a2 a3 a4 n w5 w6 w7 I_ = R)) (fun w5 w6 w7 I_ hw => ih w5 w6 w7 I_ hw.1 hw.2) v5 v6 v7 I (by
          unfold fX0_enterFalls_15
          exact ⟨fun hc1 => ⟨(hok).1 hc1, ⟨rfl, by rw [jX0_enterFallsI_15, if_pos hc1] at hit; exact hit⟩⟩, fun hc1 => ⟨fun hc2 => ⟨(((hok).2 hc1).1 hc2).1, ⟨(((hok).2 hc1).1 hc2).2, by rw [jX0_enterFallsI_15, if_neg hc1, if_neg hc2] at hit; exact hit⟩⟩, fun hc2 => ⟨(((hok).2 hc1).2 hc2).1, ⟨((((hok).2 hc1).2 hc2).2).1, ⟨(((((hok).2 hc1).2 hc2).2).2).1, ⟨(((((hok).2 hc1).2 hc2).2).2).2, by rw [jX0_enterFallsI_15, if_neg hc1, if_pos hc2] at hit; exact hit⟩⟩⟩⟩⟩⟩)
set_option maxRecDepth 10000 in
set_option maxHeartbeats 1000000 in
theorem qX0_enterFalls (d : Nat) {T : Topo} {I : IM} (hT : Lay T) (b : Nat) (hb : isBk b) (a1 : Int32) (a2 : Int32) (a3 : Int32) (a4 : Int32)  (hp : (jX0_enterFallsK I b a1 a2 a3 a4)) : CtV (d + 1) mX0_enterFalls [.ref b, .int a1, .int a2, .int a3, .int a4] T I (fun J_ => J_ = (jX0_enterFalls I b a1 a2 a3 a4)) := by
  unfold jX0_enterFallsK at hp
  exact Ct.ofJ (by decide +kernel) rfl (by intro v hv; revert v hv; simp [Value.category]) rfl (sX0_enterFalls_0 d hT b a1 a2 a3 a4 hb  (K15 := fun w5 w6 w7 I_ => (jX0_enterFallsO b a1 a2 a3 a4 FU w5 w6 w7 I_ ∧ jX0_enterFallsI b a1 a2 a3 a4 FU w5 w6 w7 I_ = (jX0_enterFalls I b a1 a2 a3 a4))) (fun w5 w6 w7 I_ hw => uX0_enterFalls d hT b a1 a2 a3 a4 hb  FU w5 w6 w7 I_ hw.1 hw.2) I (by
    unfold fX0_enterFalls_0
    exact ⟨hp, rfl⟩))

def fX0_freeAt_0 (T : Topo) (b : Nat) (a2 : Int32) (a3 : Int32) (Q : Int32 → Topo → IM → Prop)  (I : IM) : Prop :=
  ((vp_in a2 9) ∧ (((jX0_loadAtK a2 a3)) ∧ (((jX0_fallAtK a2 a3)) ∧ Q (((I (6 + (a2).toNatClampNeg) 2) - (jX0_loadAt I b a2 a3)) - (jX0_fallAt I b a2 a3)) T I)))
set_option maxHeartbeats 4000000 in
set_option maxRecDepth 100000 in
theorem sX0_freeAt_0 (d : Nat) {T : Topo} (hT : Lay T) (b : Nat) (a2 : Int32) (a3 : Int32) (hb : isBk b)   {Q : Int32 → Topo → IM → Prop}   (I : IM) (h : fX0_freeAt_0 T b a2 a3 Q  I) : J (d + 1) mX0_freeAt (PI Q) 0 0 0 [some (.ref b), some (.ref 1), some (.int a2), some (.int a3)] [] T I 0 0 := by
  unfold fX0_freeAt_0 at h
  refine J.aload_n dX0_freeAt_0 rfl rfl ?_
  refine J.iload_n dX0_freeAt_1 rfl rfl ?_
  obtain ⟨hp1, h⟩ := h
  refine J.callVF (r := (6 + (a2).toNatClampNeg)) (k := 1) (as := [.int a2]) (rest := []) dX0_freeAt_2 kX5_lineAt vX5_lineAt lX0_28 (hT.k 1 rfl) rfl rfl rfl rfl rfl (by omega) (Nat.le_refl _) (Nat.le_refl _) (qX5_lineAt (d + 0) hT a2 hp1) ?_
  refine J.getI dX0_freeAt_5 fX0_34 (hT.lineK (vp_lt hp1)) rfl ?_
  refine J.aload_n dX0_freeAt_8 rfl rfl ?_
  refine J.iload_n dX0_freeAt_9 rfl rfl ?_
  refine J.iload_n dX0_freeAt_10 rfl rfl ?_
  obtain ⟨hp2, h⟩ := h
  refine J.callVP (k := b) (as := [.int a2, .int a3]) (rest := [.int (I (6 + (a2).toNatClampNeg) 2)]) dX0_freeAt_11 kX0_loadAt vX0_loadAt lX0_39 (hT.bookK hb) rfl rfl rfl rfl rfl (by omega) (Nat.le_refl _) (Nat.le_refl _) (qX0_loadAt (d + 0) hT b hb a2 a3 hp2) ?_
  refine J.isub dX0_freeAt_14 ?_
  refine J.aload_n dX0_freeAt_15 rfl rfl ?_
  refine J.iload_n dX0_freeAt_16 rfl rfl ?_
  refine J.iload_n dX0_freeAt_17 rfl rfl ?_
  obtain ⟨hp3, h⟩ := h
  refine J.callVP (k := b) (as := [.int a2, .int a3]) (rest := [.int ((I (6 + (a2).toNatClampNeg) 2) - (jX0_loadAt I b a2 a3))]) dX0_freeAt_18 kX0_fallAt vX0_fallAt lX0_43 (hT.bookK hb) rfl rfl rfl rfl rfl (by omega) (Nat.le_refl _) (Nat.le_refl _) (qX0_fallAt (d + 0) hT b hb a2 a3 hp3) ?_
  refine J.isub dX0_freeAt_21 ?_
  exact J.iretQ dX0_freeAt_22 rfl (Nat.le_refl _) (Nat.le_refl _) h
set_option maxHeartbeats 4000000 in
set_option maxRecDepth 100000 in
theorem wX0_freeAt (d : Nat) {T : Topo} (hT : Lay T) (b : Nat) (a2 : Int32) (a3 : Int32) (hb : isBk b)  {Q : Int32 → Topo → IM → Prop} {I : IM} (h : fX0_freeAt_0 T b a2 a3 Q I) : Ct (d + 1) mX0_freeAt [.ref b, .ref 1, .int a2, .int a3] T I 0 0 (PI Q) :=
  Ct.ofJ (by decide +kernel) rfl (by intro v hv; revert v hv; simp [Value.category]) rfl (sX0_freeAt_0 d hT b a2 a3 hb  I h)

def jX0_freeAt (I : IM) (b : Nat) (a2 : Int32) (a3 : Int32) : Int32 := (((I (6 + (a2).toNatClampNeg) 2) - (jX0_loadAt I b a2 a3)) - (jX0_fallAt I b a2 a3))
def jX0_freeAtK (a2 : Int32) (a3 : Int32) : Prop := ((vp_in a2 9) ∧ (((jX0_loadAtK a2 a3)) ∧ ((jX0_fallAtK a2 a3))))
set_option maxRecDepth 10000 in
theorem qX0_freeAt (d : Nat) {T : Topo} {I : IM} (hT : Lay T) (b : Nat) (hb : isBk b) (a2 : Int32) (a3 : Int32)  (hp : (jX0_freeAtK a2 a3)) : CtP (d + 1) mX0_freeAt [.ref b, .ref 1, .int a2, .int a3] T I ((jX0_freeAt I b a2 a3)) :=
  wX0_freeAt d hT b a2 a3 hb  (by
  unfold fX0_freeAt_0
  exact ⟨(hp).1, ⟨((hp).2).1, ⟨((hp).2).2, ⟨by unfold jX0_freeAt; rfl, rfl, rfl⟩⟩⟩⟩)

def fX0_linesHoldAt_0 (T : Topo) (b : Nat) (a2 : Int32) (a3 : Int32) (a4 : Int32) (Q : Int32 → Topo → IM → Prop) (K15 : Int32 → Int32 → Int32 → IM → Prop) (I : IM) : Prop :=
  ((K15 (jWayIn a2) (jSpareOf a2) 0 I))
def fX0_linesHoldAt_15 (T : Topo) (b : Nat) (a2 : Int32) (a3 : Int32) (a4 : Int32) (Q : Int32 → Topo → IM → Prop) (K15 : Int32 → Int32 → Int32 → IM → Prop) (v5 v6 v7 : Int32) (I : IM) : Prop :=
  ((((I 1 4) ≤ v7) → Q 1 T I) ∧ ((¬ (I 1 4) ≤ v7) → ((vp_in v7 9) ∧ (((jX0_loadAtK v7 a4)) ∧ ((((¬ (hs v5 v7)) → ((((¬ (hs v6 v7)) → K15 v5 v6 (v7 + 1) I) ∧ ((hs v6 v7) → (((jX0_fallWithK I b v7 v5 a3 a4)) ∧ ((((jX0_fallWith I b v7 v5 a3 a4) ≤ ((I (6 + (v7).toNatClampNeg) 2) - (jX0_loadAt I b v7 a4))) → K15 v5 v6 (v7 + 1) I) ∧ ((¬ (jX0_fallWith I b v7 v5 a3 a4) ≤ ((I (6 + (v7).toNatClampNeg) 2) - (jX0_loadAt I b v7 a4))) → Q 0 T I))))))) ∧ ((hs v5 v7) → (((jX0_fallAtK v7 a4)) ∧ ((((a3 + (jX0_fallAt I b v7 a4)) ≤ ((I (6 + (v7).toNatClampNeg) 2) - (jX0_loadAt I b v7 a4))) → ((((¬ (hs v6 v7)) → K15 v5 v6 (v7 + 1) I) ∧ ((hs v6 v7) → (((jX0_fallWithK I b v7 v5 a3 a4)) ∧ ((((jX0_fallWith I b v7 v5 a3 a4) ≤ ((I (6 + (v7).toNatClampNeg) 2) - (jX0_loadAt I b v7 a4))) → K15 v5 v6 (v7 + 1) I) ∧ ((¬ (jX0_fallWith I b v7 v5 a3 a4) ≤ ((I (6 + (v7).toNatClampNeg) 2) - (jX0_loadAt I b v7 a4))) → Q 0 T I))))))) ∧ ((¬ (a3 + (jX0_fallAt I b v7 a4)) ≤ ((I (6 + (v7).toNatClampNeg) 2) - (jX0_loadAt I b v7 a4))) → Q 0 T I))))))))))
set_option maxHeartbeats 4000000 in
set_option maxRecDepth 100000 in
theorem sX0_linesHoldAt_0 (d : Nat) {T : Topo} (hT : Lay T) (b : Nat) (a2 : Int32) (a3 : Int32) (a4 : Int32) (hb : isBk b)   {Q : Int32 → Topo → IM → Prop} {K15 : Int32 → Int32 → Int32 → IM → Prop} (hK15 : ∀ (v5 v6 v7 : Int32) (I : IM), K15 v5 v6 v7 I → J (d + 2) mX0_linesHoldAt (PI Q) 0 0 15 [some (.ref b), some (.ref 1), none, some (.int a3), some (.int a4), some (.int v5), some (.int v6), some (.int v7), none] [] T I 0 0) (I : IM) (h : fX0_linesHoldAt_0 T b a2 a3 a4 Q K15 I) : J (d + 2) mX0_linesHoldAt (PI Q) 0 0 0 [some (.ref b), some (.ref 1), some (.int a2), some (.int a3), some (.int a4), none, none, none, none] [] T I 0 0 := by
  unfold fX0_linesHoldAt_0 at h
  refine J.iload_n dX0_linesHoldAt_0 rfl rfl ?_
  refine J.callSP (as := [.int a2]) (rest := []) dX0_linesHoldAt_1 kX11_wayIn vX11_wayIn lX0_73 rfl rfl rfl (by omega) (Nat.le_refl _) (Nat.le_refl _) (qX11_wayIn (d + 1) hT a2 ) ?_
  refine J.istore (ls' := [some (.ref b), some (.ref 1), some (.int a2), some (.int a3), some (.int a4), some (.int (jWayIn a2)), none, none, none]) dX0_linesHoldAt_4 rfl rfl ?_
  refine J.iload_n dX0_linesHoldAt_6 rfl rfl ?_
  refine J.callSP (as := [.int a2]) (rest := []) dX0_linesHoldAt_7 kX11_spareOf vX11_spareOf lX0_76 rfl rfl rfl (by omega) (Nat.le_refl _) (Nat.le_refl _) (qX11_spareOf (d + 1) hT a2 ) ?_
  refine J.istore (ls' := [some (.ref b), some (.ref 1), some (.int a2), some (.int a3), some (.int a4), some (.int (jWayIn a2)), some (.int (jSpareOf a2)), none, none]) dX0_linesHoldAt_10 rfl rfl ?_
  refine J.iconst (v := 0) dX0_linesHoldAt_12 (by decide) ?_
  refine J.istore (ls' := [some (.ref b), some (.ref 1), some (.int a2), some (.int a3), some (.int a4), some (.int (jWayIn a2)), some (.int (jSpareOf a2)), some (.int 0), none]) dX0_linesHoldAt_13 rfl rfl ?_
  exact J.weaken (ls' := [some (.ref b), some (.ref 1), none, some (.int a3), some (.int a4), some (.int (jWayIn a2)), some (.int (jSpareOf a2)), some (.int 0), none]) (And.intro rfl (And.intro rfl (And.intro rfl (And.intro rfl (And.intro rfl (And.intro rfl (And.intro rfl trivial))))))) (hK15 (jWayIn a2) (jSpareOf a2) 0 I h)
set_option maxHeartbeats 4000000 in
set_option maxRecDepth 100000 in
theorem sX0_linesHoldAt_15 (d : Nat) {T : Topo} (hT : Lay T) (b : Nat) (a2 : Int32) (a3 : Int32) (a4 : Int32) (hb : isBk b)   {Q : Int32 → Topo → IM → Prop} {K15 : Int32 → Int32 → Int32 → IM → Prop} (hK15 : ∀ (v5 v6 v7 : Int32) (I : IM), K15 v5 v6 v7 I → J (d + 2) mX0_linesHoldAt (PI Q) 0 0 15 [some (.ref b), some (.ref 1), none, some (.int a3), some (.int a4), some (.int v5), some (.int v6), some (.int v7), none] [] T I 0 0) (v5 v6 v7 : Int32) (I : IM) (h : fX0_linesHoldAt_15 T b a2 a3 a4 Q K15 v5 v6 v7 I) : J (d + 2) mX0_linesHoldAt (PI Q) 0 0 15 [some (.ref b), some (.ref 1), none, some (.int a3), some (.int a4), some (.int v5), some (.int v6), some (.int v7), none] [] T I 0 0 := by
  unfold fX0_linesHoldAt_15 at h
  refine J.iload dX0_linesHoldAt_15 rfl ?_
  refine J.aload_n dX0_linesHoldAt_17 rfl rfl ?_
  refine J.getI dX0_linesHoldAt_18 fX0_79 (hT.k 1 rfl) rfl ?_
  refine J.icmp_ge (tgt := 105) dX0_linesHoldAt_21 (by decide) (fun hc1 => ?_) (fun hc1 => ?_)
  · have h := h.1 hc1
    refine J.iconst (v := 1) dX0_linesHoldAt_105 (by decide) ?_
    exact J.zretQ dX0_linesHoldAt_106 rfl (Or.inr rfl) (Nat.le_refl _) (Nat.le_refl _) h
  · have h := h.2 hc1
    refine J.aload_n dX0_linesHoldAt_24 rfl rfl ?_
    refine J.iload dX0_linesHoldAt_25 rfl ?_
    obtain ⟨hp2, h⟩ := h
    refine J.callVF (r := (6 + (v7).toNatClampNeg)) (k := 1) (as := [.int v7]) (rest := []) dX0_linesHoldAt_27 kX5_lineAt vX5_lineAt lX0_28 (hT.k 1 rfl) rfl rfl rfl rfl rfl (by omega) (Nat.le_refl _) (Nat.le_refl _) (qX5_lineAt (d + 1) hT v7 hp2) ?_
    refine J.getI dX0_linesHoldAt_30 fX0_34 (hT.lineK (vp_lt hp2)) rfl ?_
    refine J.aload_n dX0_linesHoldAt_33 rfl rfl ?_
    refine J.iload dX0_linesHoldAt_34 rfl ?_
    refine J.iload dX0_linesHoldAt_36 rfl ?_
    obtain ⟨hp3, h⟩ := h
    refine J.callVP (k := b) (as := [.int v7, .int a4]) (rest := [.int (I (6 + (v7).toNatClampNeg) 2)]) dX0_linesHoldAt_38 kX0_loadAt vX0_loadAt lX0_39 (hT.bookK hb) rfl rfl rfl rfl rfl (by omega) (Nat.le_refl _) (Nat.le_refl _) (qX0_loadAt (d + 1) hT b hb v7 a4 hp3) ?_
    refine J.isub dX0_linesHoldAt_41 ?_
    refine J.istore (ls' := [some (.ref b), some (.ref 1), none, some (.int a3), some (.int a4), some (.int v5), some (.int v6), some (.int v7), some (.int ((I (6 + (v7).toNatClampNeg) 2) - (jX0_loadAt I b v7 a4)))]) dX0_linesHoldAt_42 rfl rfl ?_
    refine J.iload dX0_linesHoldAt_44 rfl ?_
    refine J.iload dX0_linesHoldAt_46 rfl ?_
    refine J.callSP (as := [.int v5, .int v7]) (rest := []) dX0_linesHoldAt_48 kX11_has vX11_has lX0_52 rfl rfl rfl (by omega) (Nat.le_refl _) (Nat.le_refl _) (qX11_has (d + 1) hT v5 v7 ) ?_
    refine J.bz_eq (tgt := 71) dX0_linesHoldAt_51 (by decide) (fun hc4 => ?_) (fun hc4 => ?_)
    · have h := h.1 hc4
      refine J.iload dX0_linesHoldAt_71 rfl ?_
      refine J.iload dX0_linesHoldAt_73 rfl ?_
      refine J.callSP (as := [.int v6, .int v7]) (rest := []) dX0_linesHoldAt_75 kX11_has vX11_has lX0_52 rfl rfl rfl (by omega) (Nat.le_refl _) (Nat.le_refl _) (qX11_has (d + 1) hT v6 v7 ) ?_
      refine J.bz_eq (tgt := 99) dX0_linesHoldAt_78 (by decide) (fun hc5 => ?_) (fun hc5 => ?_)
      · have h := h.1 hc5
        refine J.iinc (v := (v7 + 1)) (ls' := [some (.ref b), some (.ref 1), none, some (.int a3), some (.int a4), some (.int v5), some (.int v6), some (.int (v7 + 1)), some (.int ((I (6 + (v7).toNatClampNeg) 2) - (jX0_loadAt I b v7 a4)))]) dX0_linesHoldAt_99 rfl (by rfl) rfl ?_
        refine J.goto (tgt := 15) dX0_linesHoldAt_102 (by decide) ?_
        exact J.weaken (ls' := [some (.ref b), some (.ref 1), none, some (.int a3), some (.int a4), some (.int v5), some (.int v6), some (.int (v7 + 1)), none]) (And.intro rfl (And.intro rfl (And.intro rfl (And.intro rfl (And.intro rfl (And.intro rfl (And.intro rfl trivial))))))) (hK15 v5 v6 (v7 + 1) I h)
      · have h := h.2 hc5
        refine J.aload_n dX0_linesHoldAt_81 rfl rfl ?_
        refine J.iload dX0_linesHoldAt_82 rfl ?_
        refine J.iload dX0_linesHoldAt_84 rfl ?_
        refine J.iload_n dX0_linesHoldAt_86 rfl rfl ?_
        refine J.iload dX0_linesHoldAt_87 rfl ?_
        obtain ⟨hp6, h⟩ := h
        refine J.callVP (k := b) (as := [.int v7, .int v5, .int a3, .int a4]) (rest := []) dX0_linesHoldAt_89 kX0_fallWith vX0_fallWith lX0_82 (hT.bookK hb) rfl rfl rfl rfl rfl (by omega) (Nat.le_refl _) (Nat.le_refl _) (qX0_fallWith (d + 0) hT b hb v7 v5 a3 a4 hp6) ?_
        refine J.iload dX0_linesHoldAt_92 rfl ?_
        refine J.icmp_le (tgt := 99) dX0_linesHoldAt_94 (by decide) (fun hc7 => ?_) (fun hc7 => ?_)
        · have h := h.1 hc7
          refine J.iinc (v := (v7 + 1)) (ls' := [some (.ref b), some (.ref 1), none, some (.int a3), some (.int a4), some (.int v5), some (.int v6), some (.int (v7 + 1)), some (.int ((I (6 + (v7).toNatClampNeg) 2) - (jX0_loadAt I b v7 a4)))]) dX0_linesHoldAt_99 rfl (by rfl) rfl ?_
          refine J.goto (tgt := 15) dX0_linesHoldAt_102 (by decide) ?_
          exact J.weaken (ls' := [some (.ref b), some (.ref 1), none, some (.int a3), some (.int a4), some (.int v5), some (.int v6), some (.int (v7 + 1)), none]) (And.intro rfl (And.intro rfl (And.intro rfl (And.intro rfl (And.intro rfl (And.intro rfl (And.intro rfl trivial))))))) (hK15 v5 v6 (v7 + 1) I h)
        · have h := h.2 hc7
          refine J.iconst (v := 0) dX0_linesHoldAt_97 (by decide) ?_
          exact J.zretQ dX0_linesHoldAt_98 rfl (Or.inl rfl) (Nat.le_refl _) (Nat.le_refl _) h
    · have h := h.2 hc4
      refine J.iload_n dX0_linesHoldAt_54 rfl rfl ?_
      refine J.aload_n dX0_linesHoldAt_55 rfl rfl ?_
      refine J.iload dX0_linesHoldAt_56 rfl ?_
      refine J.iload dX0_linesHoldAt_58 rfl ?_
      obtain ⟨hp8, h⟩ := h
      refine J.callVP (k := b) (as := [.int v7, .int a4]) (rest := [.int a3]) dX0_linesHoldAt_60 kX0_fallAt vX0_fallAt lX0_43 (hT.bookK hb) rfl rfl rfl rfl rfl (by omega) (Nat.le_refl _) (Nat.le_refl _) (qX0_fallAt (d + 1) hT b hb v7 a4 hp8) ?_
      refine J.iadd dX0_linesHoldAt_63 ?_
      refine J.iload dX0_linesHoldAt_64 rfl ?_
      refine J.icmp_le (tgt := 71) dX0_linesHoldAt_66 (by decide) (fun hc9 => ?_) (fun hc9 => ?_)
      · have h := h.1 hc9
        refine J.iload dX0_linesHoldAt_71 rfl ?_
        refine J.iload dX0_linesHoldAt_73 rfl ?_
        refine J.callSP (as := [.int v6, .int v7]) (rest := []) dX0_linesHoldAt_75 kX11_has vX11_has lX0_52 rfl rfl rfl (by omega) (Nat.le_refl _) (Nat.le_refl _) (qX11_has (d + 1) hT v6 v7 ) ?_
        refine J.bz_eq (tgt := 99) dX0_linesHoldAt_78 (by decide) (fun hc10 => ?_) (fun hc10 => ?_)
        · have h := h.1 hc10
          refine J.iinc (v := (v7 + 1)) (ls' := [some (.ref b), some (.ref 1), none, some (.int a3), some (.int a4), some (.int v5), some (.int v6), some (.int (v7 + 1)), some (.int ((I (6 + (v7).toNatClampNeg) 2) - (jX0_loadAt I b v7 a4)))]) dX0_linesHoldAt_99 rfl (by rfl) rfl ?_
          refine J.goto (tgt := 15) dX0_linesHoldAt_102 (by decide) ?_
          exact J.weaken (ls' := [some (.ref b), some (.ref 1), none, some (.int a3), some (.int a4), some (.int v5), some (.int v6), some (.int (v7 + 1)), none]) (And.intro rfl (And.intro rfl (And.intro rfl (And.intro rfl (And.intro rfl (And.intro rfl (And.intro rfl trivial))))))) (hK15 v5 v6 (v7 + 1) I h)
        · have h := h.2 hc10
          refine J.aload_n dX0_linesHoldAt_81 rfl rfl ?_
          refine J.iload dX0_linesHoldAt_82 rfl ?_
          refine J.iload dX0_linesHoldAt_84 rfl ?_
          refine J.iload_n dX0_linesHoldAt_86 rfl rfl ?_
          refine J.iload dX0_linesHoldAt_87 rfl ?_
          obtain ⟨hp11, h⟩ := h
          refine J.callVP (k := b) (as := [.int v7, .int v5, .int a3, .int a4]) (rest := []) dX0_linesHoldAt_89 kX0_fallWith vX0_fallWith lX0_82 (hT.bookK hb) rfl rfl rfl rfl rfl (by omega) (Nat.le_refl _) (Nat.le_refl _) (qX0_fallWith (d + 0) hT b hb v7 v5 a3 a4 hp11) ?_
          refine J.iload dX0_linesHoldAt_92 rfl ?_
          refine J.icmp_le (tgt := 99) dX0_linesHoldAt_94 (by decide) (fun hc12 => ?_) (fun hc12 => ?_)
          · have h := h.1 hc12
            refine J.iinc (v := (v7 + 1)) (ls' := [some (.ref b), some (.ref 1), none, some (.int a3), some (.int a4), some (.int v5), some (.int v6), some (.int (v7 + 1)), some (.int ((I (6 + (v7).toNatClampNeg) 2) - (jX0_loadAt I b v7 a4)))]) dX0_linesHoldAt_99 rfl (by rfl) rfl ?_
            refine J.goto (tgt := 15) dX0_linesHoldAt_102 (by decide) ?_
            exact J.weaken (ls' := [some (.ref b), some (.ref 1), none, some (.int a3), some (.int a4), some (.int v5), some (.int v6), some (.int (v7 + 1)), none]) (And.intro rfl (And.intro rfl (And.intro rfl (And.intro rfl (And.intro rfl (And.intro rfl (And.intro rfl trivial))))))) (hK15 v5 v6 (v7 + 1) I h)
          · have h := h.2 hc12
            refine J.iconst (v := 0) dX0_linesHoldAt_97 (by decide) ?_
            exact J.zretQ dX0_linesHoldAt_98 rfl (Or.inl rfl) (Nat.le_refl _) (Nat.le_refl _) h
      · have h := h.2 hc9
        refine J.iconst (v := 0) dX0_linesHoldAt_69 (by decide) ?_
        exact J.zretQ dX0_linesHoldAt_70 rfl (Or.inl rfl) (Nat.le_refl _) (Nat.le_refl _) h
set_option maxHeartbeats 4000000 in
set_option maxRecDepth 100000 in
theorem wX0_linesHoldAt (d : Nat) {T : Topo} (hT : Lay T) (b : Nat) (a2 : Int32) (a3 : Int32) (a4 : Int32) (hb : isBk b)  {Q : Int32 → Topo → IM → Prop} (V15 : Int32 → Int32 → Int32 → IM → Prop) (μ15 : Int32 → Int32 → Int32 → IM → Nat) (vc15 : ∀ (v5 v6 v7 : Int32) (I : IM), V15 v5 v6 v7 I → fX0_linesHoldAt_15 T b a2 a3 a4 Q (fun w5 w6 w7 I_ => V15 w5 w6 w7 I_ ∧ μ15 w5 w6 w7 I_ < μ15 v5 v6 v7 I) v5 v6 v7 I) {I : IM} (h : fX0_linesHoldAt_0 T b a2 a3 a4 Q V15 I) : Ct (d + 2) mX0_linesHoldAt [.ref b, .ref 1, .int a2, .int a3, .int a4] T I 0 0 (PI Q) := by
  have all : ∀ n : Nat, (∀ (v5 v6 v7 : Int32) (I : IM), V15 v5 v6 v7 I → μ15 v5 v6 v7 I < n → J (d + 2) mX0_linesHoldAt (PI Q) 0 0 15 [some (.ref b), some (.ref 1), none, some (.int a3), some (.int a4), some (.int v5), some (.int v6), some (.int v7), none] [] T I 0 0) := by
    intro n
    induction n with
    | zero => exact fun _ _ _ _ _ hn => absurd hn (Nat.not_lt_zero _)
    | succ n ih =>
      exact fun v5 v6 v7 I hv hn => sX0_linesHoldAt_15 d hT b a2 a3 a4 hb  (fun w5 w6 w7 I_ hw => ih w5 w6 w7 I_ hw.1 (by have := hw.2; omega)) v5 v6 v7 I (vc15 v5 v6 v7 I hv)
  exact Ct.ofJ (by decide +kernel) rfl (by intro v hv; revert v hv; simp [Value.category]) rfl (sX0_linesHoldAt_0 d hT b a2 a3 a4 hb  (fun w5 w6 w7 I_ hw => (all (μ15 w5 w6 w7 I_ + 1)) w5 w6 w7 I_ hw (Nat.lt_succ_self _)) I h)

def jX0_linesHoldAtI (b : Nat) (a2 : Int32) (a3 : Int32) (a4 : Int32) : Nat → Int32 → Int32 → Int32 → IM → Int32
  | 0 => fun _ _ _ I => 0
  | n + 1 => fun v5 v6 v7 I => (if (I 1 4) ≤ v7 then 1 else (if hs v5 v7 then (if (a3 + (jX0_fallAt I b v7 a4)) ≤ ((I (6 + (v7).toNatClampNeg) 2) - (jX0_loadAt I b v7 a4)) then (if hs v6 v7 then (if (jX0_fallWith I b v7 v5 a3 a4) ≤ ((I (6 + (v7).toNatClampNeg) 2) - (jX0_loadAt I b v7 a4)) then (jX0_linesHoldAtI b a2 a3 a4 n v5 v6 (v7 + 1) I) else 0) else (jX0_linesHoldAtI b a2 a3 a4 n v5 v6 (v7 + 1) I)) else 0) else (if hs v6 v7 then (if (jX0_fallWith I b v7 v5 a3 a4) ≤ ((I (6 + (v7).toNatClampNeg) 2) - (jX0_loadAt I b v7 a4)) then (jX0_linesHoldAtI b a2 a3 a4 n v5 v6 (v7 + 1) I) else 0) else (jX0_linesHoldAtI b a2 a3 a4 n v5 v6 (v7 + 1) I))))
def jX0_linesHoldAtO (b : Nat) (a2 : Int32) (a3 : Int32) (a4 : Int32) : Nat → Int32 → Int32 → Int32 → IM → Prop
  | 0 => fun _ _ _ _ => False
  | n + 1 => fun v5 v6 v7 I => ((((I 1 4) ≤ v7) → True) ∧ ((¬ (I 1 4) ≤ v7) → ((vp_in v7 9) ∧ (((jX0_loadAtK v7 a4)) ∧ (((¬ (hs v5 v7)) → (((¬ (hs v6 v7)) → (jX0_linesHoldAtO b a2 a3 a4 n v5 v6 (v7 + 1) I)) ∧ ((hs v6 v7) → (((jX0_fallWithK I b v7 v5 a3 a4)) ∧ ((((jX0_fallWith I b v7 v5 a3 a4) ≤ ((I (6 + (v7).toNatClampNeg) 2) - (jX0_loadAt I b v7 a4))) → (jX0_linesHoldAtO b a2 a3 a4 n v5 v6 (v7 + 1) I)) ∧ ((¬ (jX0_fallWith I b v7 v5 a3 a4) ≤ ((I (6 + (v7).toNatClampNeg) 2) - (jX0_loadAt I b v7 a4))) → True)))))) ∧ ((hs v5 v7) → (((jX0_fallAtK v7 a4)) ∧ ((((a3 + (jX0_fallAt I b v7 a4)) ≤ ((I (6 + (v7).toNatClampNeg) 2) - (jX0_loadAt I b v7 a4))) → (((¬ (hs v6 v7)) → (jX0_linesHoldAtO b a2 a3 a4 n v5 v6 (v7 + 1) I)) ∧ ((hs v6 v7) → (((jX0_fallWithK I b v7 v5 a3 a4)) ∧ ((((jX0_fallWith I b v7 v5 a3 a4) ≤ ((I (6 + (v7).toNatClampNeg) 2) - (jX0_loadAt I b v7 a4))) → (jX0_linesHoldAtO b a2 a3 a4 n v5 v6 (v7 + 1) I)) ∧ ((¬ (jX0_fallWith I b v7 v5 a3 a4) ≤ ((I (6 + (v7).toNatClampNeg) 2) - (jX0_loadAt I b v7 a4))) → True)))))) ∧ ((¬ (a3 + (jX0_fallAt I b v7 a4)) ≤ ((I (6 + (v7).toNatClampNeg) 2) - (jX0_loadAt I b v7 a4))) → True)))))))))
theorem jX0_linesHoldAtI_15 (b : Nat) (a2 : Int32) (a3 : Int32) (a4 : Int32) (n : Nat) (v5 v6 v7 : Int32) (I : IM) : jX0_linesHoldAtI b a2 a3 a4 (n + 1) v5 v6 v7 I = (if (I 1 4) ≤ v7 then 1 else (if hs v5 v7 then (if (a3 + (jX0_fallAt I b v7 a4)) ≤ ((I (6 + (v7).toNatClampNeg) 2) - (jX0_loadAt I b v7 a4)) then (if hs v6 v7 then (if (jX0_fallWith I b v7 v5 a3 a4) ≤ ((I (6 + (v7).toNatClampNeg) 2) - (jX0_loadAt I b v7 a4)) then (jX0_linesHoldAtI b a2 a3 a4 n v5 v6 (v7 + 1) I) else 0) else (jX0_linesHoldAtI b a2 a3 a4 n v5 v6 (v7 + 1) I)) else 0) else (if hs v6 v7 then (if (jX0_fallWith I b v7 v5 a3 a4) ≤ ((I (6 + (v7).toNatClampNeg) 2) - (jX0_loadAt I b v7 a4)) then (jX0_linesHoldAtI b a2 a3 a4 n v5 v6 (v7 + 1) I) else 0) else (jX0_linesHoldAtI b a2 a3 a4 n v5 v6 (v7 + 1) I)))) := rfl
theorem jX0_linesHoldAtO_15 (b : Nat) (a2 : Int32) (a3 : Int32) (a4 : Int32) (n : Nat) (v5 v6 v7 : Int32) (I : IM) : jX0_linesHoldAtO b a2 a3 a4 (n + 1) v5 v6 v7 I = ((((I 1 4) ≤ v7) → True) ∧ ((¬ (I 1 4) ≤ v7) → ((vp_in v7 9) ∧ (((jX0_loadAtK v7 a4)) ∧ (((¬ (hs v5 v7)) → (((¬ (hs v6 v7)) → (jX0_linesHoldAtO b a2 a3 a4 n v5 v6 (v7 + 1) I)) ∧ ((hs v6 v7) → (((jX0_fallWithK I b v7 v5 a3 a4)) ∧ ((((jX0_fallWith I b v7 v5 a3 a4) ≤ ((I (6 + (v7).toNatClampNeg) 2) - (jX0_loadAt I b v7 a4))) → (jX0_linesHoldAtO b a2 a3 a4 n v5 v6 (v7 + 1) I)) ∧ ((¬ (jX0_fallWith I b v7 v5 a3 a4) ≤ ((I (6 + (v7).toNatClampNeg) 2) - (jX0_loadAt I b v7 a4))) → True)))))) ∧ ((hs v5 v7) → (((jX0_fallAtK v7 a4)) ∧ ((((a3 + (jX0_fallAt I b v7 a4)) ≤ ((I (6 + (v7).toNatClampNeg) 2) - (jX0_loadAt I b v7 a4))) → (((¬ (hs v6 v7)) → (jX0_linesHoldAtO b a2 a3 a4 n v5 v6 (v7 + 1) I)) ∧ ((hs v6 v7) → (((jX0_fallWithK I b v7 v5 a3 a4)) ∧ ((((jX0_fallWith I b v7 v5 a3 a4) ≤ ((I (6 + (v7).toNatClampNeg) 2) - (jX0_loadAt I b v7 a4))) → (jX0_linesHoldAtO b a2 a3 a4 n v5 v6 (v7 + 1) I)) ∧ ((¬ (jX0_fallWith I b v7 v5 a3 a4) ≤ ((I (6 + (v7).toNatClampNeg) 2) - (jX0_loadAt I b v7 a4))) → True)))))) ∧ ((¬ (a3 + (jX0_fallAt I b v7 a4)) ≤ ((I (6 + (v7).toNatClampNeg) 2) - (jX0_loadAt I b v7 a4))) → True))))))))) := rfl
def jX0_linesHoldAt (I : IM) (b : Nat) (a2 : Int32) (a3 : Int32) (a4 : Int32) : Int32 := (jX0_linesHoldAtI b a2 a3 a4 FU (jWayIn a2) (jSpareOf a2) 0 I)
def jX0_linesHoldAtK (I : IM) (b : Nat) (a2 : Int32) (a3 : Int32) (a4 : Int32) : Prop := (jX0_linesHoldAtO b a2 a3 a4 FU (jWayIn a2) (jSpareOf a2) 0 I)
set_option maxRecDepth 10000 in
set_option maxHeartbeats 1000000 in
theorem uX0_linesHoldAt (d : Nat) {T : Topo} (hT : Lay T) (b : Nat) (a2 : Int32) (a3 : Int32) (a4 : Int32) (hb : isBk b)  {R : Int32} {I00 : IM} : ∀ n : Nat, (∀ (v5 v6 v7 : Int32) (I : IM), I = I00 → jX0_linesHoldAtO b a2 a3 a4 n v5 v6 v7 I → jX0_linesHoldAtI b a2 a3 a4 n v5 v6 v7 I = R → J (d + 2) mX0_linesHoldAt (PI (fun x T' I' => x = R ∧ T' = T ∧ I' = I00)) 0 0 15 [some (.ref b), some (.ref 1), none, some (.int a3), some (.int a4), some (.int v5), some (.int v6), some (.int v7), none] [] T I 0 0) := by
  intro n
  induction n with
  | zero => exact fun _ _ _ _ _ hz => hz.elim
  | succ n ih =>
    exact fun v5 v6 v7 I hI hok hit => by
        rw [jX0_linesHoldAtO_15] at hok
        exact sX0_linesHoldAt_15 d hT b a2 a3 a4 hb  (K15 := fun w5 w6 w7 I_ => (jX0_linesHoldAtO b a2 a3 a4 n w5 w6 w7 I_ ∧ jX0_linesHoldAtI b a2 a3 a4 n w5 w6 w7 I_ = R) ∧ I_ = I00) (fun w5 w6 w7 I_ hw => ih w5 w6 w7 I_ hw.2 hw.1.1 hw.1.2) v5 v6 v7 I (by
          unfold fX0_linesHoldAt_15
          exact ⟨fun hc1 => ⟨by rw [jX0_linesHoldAtI_15, if_pos hc1] at hit; exact hit, rfl, hI⟩, fun hc1 => ⟨((hok).2 hc1).1, ⟨(((hok).2 hc1).2).1, ⟨fun hc2 => ⟨fun hc3 => ⟨⟨(((((hok).2 hc1).2).2).1 hc2).1 hc3, by rw [jX0_linesHoldAtI_15, if_neg hc1, if_neg hc2, if_neg hc3] at hit; exact hit⟩, hI⟩, fun hc3 => ⟨((((((hok).2 hc1).2).2).1 hc2).2 hc3).1, ⟨fun hc4 => ⟨⟨(((((((hok).2 hc1).2).2).1 hc2).2 hc3).2).1 hc4, by rw [jX0_linesHoldAtI_15, if_neg hc1, if_neg hc2, if_pos hc3, if_pos hc4] at hit; exact hit⟩, hI⟩, fun hc4 => ⟨by rw [jX0_linesHoldAtI_15, if_neg hc1, if_neg hc2, if_pos hc3, if_neg hc4] at hit; exact hit, rfl, hI⟩⟩⟩⟩, fun hc2 => ⟨(((((hok).2 hc1).2).2).2 hc2).1, ⟨fun hc5 => ⟨fun hc6 => ⟨⟨(((((((hok).2 hc1).2).2).2 hc2).2).1 hc5).1 hc6, by rw [jX0_linesHoldAtI_15, if_neg hc1, if_pos hc2, if_pos hc5, if_neg hc6] at hit; exact hit⟩, hI⟩, fun hc6 => ⟨((((((((hok).2 hc1).2).2).2 hc2).2).1 hc5).2 hc6).1, ⟨fun hc7 => ⟨⟨(((((((((hok).2 hc1).2).2).2 hc2).2).1 hc5).2 hc6).2).1 hc7, by rw [jX0_linesHoldAtI_15, if_neg hc1, if_pos hc2, if_pos hc5, if_pos hc6, if_pos hc7] at hit; exact hit⟩, hI⟩, fun hc7 => ⟨by rw [jX0_linesHoldAtI_15, if_neg hc1, if_pos hc2, if_pos hc5, if_pos hc6, if_neg hc7] at hit; exact hit, rfl, hI⟩⟩⟩⟩, fun hc5 => ⟨by rw [jX0_linesHoldAtI_15, if_neg hc1, if_pos hc2, if_neg hc5] at hit; exact hit, rfl, hI⟩⟩⟩⟩⟩⟩⟩)
set_option maxRecDepth 10000 in
set_option maxHeartbeats 1000000 in
theorem qX0_linesHoldAt (d : Nat) {T : Topo} {I : IM} (hT : Lay T) (b : Nat) (hb : isBk b) (a2 : Int32) (a3 : Int32) (a4 : Int32)  (hp : (jX0_linesHoldAtK I b a2 a3 a4)) : CtP (d + 2) mX0_linesHoldAt [.ref b, .ref 1, .int a2, .int a3, .int a4] T I (jX0_linesHoldAt I b a2 a3 a4) := by
  unfold jX0_linesHoldAtK at hp
  exact Ct.ofJ (by decide +kernel) rfl (by intro v hv; revert v hv; simp [Value.category]) rfl (sX0_linesHoldAt_0 d hT b a2 a3 a4 hb  (K15 := fun w5 w6 w7 I_ => (jX0_linesHoldAtO b a2 a3 a4 FU w5 w6 w7 I_ ∧ jX0_linesHoldAtI b a2 a3 a4 FU w5 w6 w7 I_ = (jX0_linesHoldAt I b a2 a3 a4)) ∧ I_ = I) (fun w5 w6 w7 I_ hw => uX0_linesHoldAt d hT b a2 a3 a4 hb  FU w5 w6 w7 I_ hw.2 hw.1.1 hw.1.2) I (by
    unfold fX0_linesHoldAt_0
    exact ⟨⟨hp, rfl⟩, rfl⟩))

def fX0_hostHolds_0 (T : Topo) (b : Nat) (i2 : Nat) (a3 : Int32) (a4 : Int32) (Q : Int32 → Topo → IM → Prop) (K22 : Int32 → Int32 → Int32 → IM → Prop) (I : IM) : Prop :=
  ((((jX5_workroomOfK (jHostOf a3))) ∧ K22 (jHostOf a3) ((jX5_workroomOf I (jHostOf a3)) - (I (17 + 4 * i2) 6)) 0 I))
def fX0_hostHolds_22 (T : Topo) (b : Nat) (i2 : Nat) (a3 : Int32) (a4 : Int32) (Q : Int32 → Topo → IM → Prop) (K22 : Int32 → Int32 → Int32 → IM → Prop) (v5 v6 v7 : Int32) (I : IM) : Prop :=
  ((((I b 4) ≤ v7) → Q 1 T I) ∧ ((¬ (I b 4) ≤ v7) → ((((¬ (hs a4 v7)) → K22 v5 v6 (v7 + 1) I) ∧ ((hs a4 v7) → (((jX0_worksAtK v5 v7)) ∧ ((((jX0_worksAt I b v5 v7) ≤ v6) → K22 v5 v6 (v7 + 1) I) ∧ ((¬ (jX0_worksAt I b v5 v7) ≤ v6) → Q 0 T I))))))))
set_option maxHeartbeats 4000000 in
set_option maxRecDepth 100000 in
theorem sX0_hostHolds_0 (d : Nat) {T : Topo} (hT : Lay T) (b : Nat) (i2 : Nat) (a3 : Int32) (a4 : Int32) (hb : isBk b) (hi2 : i2 < 8)   {Q : Int32 → Topo → IM → Prop} {K22 : Int32 → Int32 → Int32 → IM → Prop} (hK22 : ∀ (v5 v6 v7 : Int32) (I : IM), K22 v5 v6 v7 I → J (d + 1) mX0_hostHolds (PI Q) 0 0 22 [some (.ref b), none, none, none, some (.int a4), some (.int v5), some (.int v6), some (.int v7)] [] T I 0 0) (I : IM) (h : fX0_hostHolds_0 T b i2 a3 a4 Q K22 I) : J (d + 1) mX0_hostHolds (PI Q) 0 0 0 [some (.ref b), some (.ref 1), some (.ref (17 + 4 * i2)), some (.int a3), some (.int a4), none, none, none] [] T I 0 0 := by
  unfold fX0_hostHolds_0 at h
  refine J.iload_n dX0_hostHolds_0 rfl rfl ?_
  refine J.callSP (as := [.int a3]) (rest := []) dX0_hostHolds_1 kX11_hostOf vX11_hostOf lX0_60 rfl rfl rfl (by omega) (Nat.le_refl _) (Nat.le_refl _) (qX11_hostOf (d + 0) hT a3 ) ?_
  refine J.istore (ls' := [some (.ref b), some (.ref 1), some (.ref (17 + 4 * i2)), some (.int a3), some (.int a4), some (.int (jHostOf a3)), none, none]) dX0_hostHolds_4 rfl rfl ?_
  refine J.aload_n dX0_hostHolds_6 rfl rfl ?_
  refine J.iload dX0_hostHolds_7 rfl ?_
  obtain ⟨hp1, h⟩ := h
  refine J.callVP (k := 1) (as := [.int (jHostOf a3)]) (rest := []) dX0_hostHolds_9 kX5_workroomOf vX5_workroomOf lX0_64 (hT.k 1 rfl) rfl rfl rfl rfl rfl (by omega) (Nat.le_refl _) (Nat.le_refl _) (qX5_workroomOf (d + 0) hT (jHostOf a3) hp1) ?_
  refine J.aload_n dX0_hostHolds_12 rfl rfl ?_
  refine J.getI dX0_hostHolds_13 fX0_67 (hT.sliceK hi2) rfl ?_
  refine J.isub dX0_hostHolds_16 ?_
  refine J.istore (ls' := [some (.ref b), some (.ref 1), some (.ref (17 + 4 * i2)), some (.int a3), some (.int a4), some (.int (jHostOf a3)), some (.int ((jX5_workroomOf I (jHostOf a3)) - (I (17 + 4 * i2) 6))), none]) dX0_hostHolds_17 rfl rfl ?_
  refine J.iconst (v := 0) dX0_hostHolds_19 (by decide) ?_
  refine J.istore (ls' := [some (.ref b), some (.ref 1), some (.ref (17 + 4 * i2)), some (.int a3), some (.int a4), some (.int (jHostOf a3)), some (.int ((jX5_workroomOf I (jHostOf a3)) - (I (17 + 4 * i2) 6))), some (.int 0)]) dX0_hostHolds_20 rfl rfl ?_
  exact J.weaken (ls' := [some (.ref b), none, none, none, some (.int a4), some (.int (jHostOf a3)), some (.int ((jX5_workroomOf I (jHostOf a3)) - (I (17 + 4 * i2) 6))), some (.int 0)]) (And.intro rfl (And.intro rfl (And.intro rfl (And.intro rfl (And.intro rfl trivial))))) (hK22 (jHostOf a3) ((jX5_workroomOf I (jHostOf a3)) - (I (17 + 4 * i2) 6)) 0 I h)
set_option maxHeartbeats 4000000 in
set_option maxRecDepth 100000 in
theorem sX0_hostHolds_22 (d : Nat) {T : Topo} (hT : Lay T) (b : Nat) (i2 : Nat) (a3 : Int32) (a4 : Int32) (hb : isBk b) (hi2 : i2 < 8)   {Q : Int32 → Topo → IM → Prop} {K22 : Int32 → Int32 → Int32 → IM → Prop} (hK22 : ∀ (v5 v6 v7 : Int32) (I : IM), K22 v5 v6 v7 I → J (d + 1) mX0_hostHolds (PI Q) 0 0 22 [some (.ref b), none, none, none, some (.int a4), some (.int v5), some (.int v6), some (.int v7)] [] T I 0 0) (v5 v6 v7 : Int32) (I : IM) (h : fX0_hostHolds_22 T b i2 a3 a4 Q K22 v5 v6 v7 I) : J (d + 1) mX0_hostHolds (PI Q) 0 0 22 [some (.ref b), none, none, none, some (.int a4), some (.int v5), some (.int v6), some (.int v7)] [] T I 0 0 := by
  unfold fX0_hostHolds_22 at h
  refine J.iload dX0_hostHolds_22 rfl ?_
  refine J.aload_n dX0_hostHolds_24 rfl rfl ?_
  refine J.getI dX0_hostHolds_25 fX0_24 (hT.bookK hb) rfl ?_
  refine J.icmp_ge (tgt := 62) dX0_hostHolds_28 (by decide) (fun hc1 => ?_) (fun hc1 => ?_)
  · have h := h.1 hc1
    refine J.iconst (v := 1) dX0_hostHolds_62 (by decide) ?_
    exact J.zretQ dX0_hostHolds_63 rfl (Or.inr rfl) (Nat.le_refl _) (Nat.le_refl _) h
  · have h := h.2 hc1
    refine J.iload dX0_hostHolds_31 rfl ?_
    refine J.iload dX0_hostHolds_33 rfl ?_
    refine J.callSP (as := [.int a4, .int v7]) (rest := []) dX0_hostHolds_35 kX11_has vX11_has lX0_52 rfl rfl rfl (by omega) (Nat.le_refl _) (Nat.le_refl _) (qX11_has (d + 0) hT a4 v7 ) ?_
    refine J.bz_eq (tgt := 56) dX0_hostHolds_38 (by decide) (fun hc2 => ?_) (fun hc2 => ?_)
    · have h := h.1 hc2
      refine J.iinc (v := (v7 + 1)) (ls' := [some (.ref b), none, none, none, some (.int a4), some (.int v5), some (.int v6), some (.int (v7 + 1))]) dX0_hostHolds_56 rfl (by rfl) rfl ?_
      refine J.goto (tgt := 22) dX0_hostHolds_59 (by decide) ?_
      exact J.weaken (ls' := [some (.ref b), none, none, none, some (.int a4), some (.int v5), some (.int v6), some (.int (v7 + 1))]) (And.intro rfl (And.intro rfl (And.intro rfl (And.intro rfl (And.intro rfl trivial))))) (hK22 v5 v6 (v7 + 1) I h)
    · have h := h.2 hc2
      refine J.aload_n dX0_hostHolds_41 rfl rfl ?_
      refine J.iload dX0_hostHolds_42 rfl ?_
      refine J.iload dX0_hostHolds_44 rfl ?_
      obtain ⟨hp3, h⟩ := h
      refine J.callVP (k := b) (as := [.int v5, .int v7]) (rest := []) dX0_hostHolds_46 kX0_worksAt vX0_worksAt lX0_70 (hT.bookK hb) rfl rfl rfl rfl rfl (by omega) (Nat.le_refl _) (Nat.le_refl _) (qX0_worksAt (d + 0) hT b hb v5 v7 hp3) ?_
      refine J.iload dX0_hostHolds_49 rfl ?_
      refine J.icmp_le (tgt := 56) dX0_hostHolds_51 (by decide) (fun hc4 => ?_) (fun hc4 => ?_)
      · have h := h.1 hc4
        refine J.iinc (v := (v7 + 1)) (ls' := [some (.ref b), none, none, none, some (.int a4), some (.int v5), some (.int v6), some (.int (v7 + 1))]) dX0_hostHolds_56 rfl (by rfl) rfl ?_
        refine J.goto (tgt := 22) dX0_hostHolds_59 (by decide) ?_
        exact J.weaken (ls' := [some (.ref b), none, none, none, some (.int a4), some (.int v5), some (.int v6), some (.int (v7 + 1))]) (And.intro rfl (And.intro rfl (And.intro rfl (And.intro rfl (And.intro rfl trivial))))) (hK22 v5 v6 (v7 + 1) I h)
      · have h := h.2 hc4
        refine J.iconst (v := 0) dX0_hostHolds_54 (by decide) ?_
        exact J.zretQ dX0_hostHolds_55 rfl (Or.inl rfl) (Nat.le_refl _) (Nat.le_refl _) h
set_option maxHeartbeats 4000000 in
set_option maxRecDepth 100000 in
theorem wX0_hostHolds (d : Nat) {T : Topo} (hT : Lay T) (b : Nat) (i2 : Nat) (a3 : Int32) (a4 : Int32) (hb : isBk b) (hi2 : i2 < 8)  {Q : Int32 → Topo → IM → Prop} (V22 : Int32 → Int32 → Int32 → IM → Prop) (μ22 : Int32 → Int32 → Int32 → IM → Nat) (vc22 : ∀ (v5 v6 v7 : Int32) (I : IM), V22 v5 v6 v7 I → fX0_hostHolds_22 T b i2 a3 a4 Q (fun w5 w6 w7 I_ => V22 w5 w6 w7 I_ ∧ μ22 w5 w6 w7 I_ < μ22 v5 v6 v7 I) v5 v6 v7 I) {I : IM} (h : fX0_hostHolds_0 T b i2 a3 a4 Q V22 I) : Ct (d + 1) mX0_hostHolds [.ref b, .ref 1, .ref (17 + 4 * i2), .int a3, .int a4] T I 0 0 (PI Q) := by
  have all : ∀ n : Nat, (∀ (v5 v6 v7 : Int32) (I : IM), V22 v5 v6 v7 I → μ22 v5 v6 v7 I < n → J (d + 1) mX0_hostHolds (PI Q) 0 0 22 [some (.ref b), none, none, none, some (.int a4), some (.int v5), some (.int v6), some (.int v7)] [] T I 0 0) := by
    intro n
    induction n with
    | zero => exact fun _ _ _ _ _ hn => absurd hn (Nat.not_lt_zero _)
    | succ n ih =>
      exact fun v5 v6 v7 I hv hn => sX0_hostHolds_22 d hT b i2 a3 a4 hb hi2  (fun w5 w6 w7 I_ hw => ih w5 w6 w7 I_ hw.1 (by have := hw.2; omega)) v5 v6 v7 I (vc22 v5 v6 v7 I hv)
  exact Ct.ofJ (by decide +kernel) rfl (by intro v hv; revert v hv; simp [Value.category]) rfl (sX0_hostHolds_0 d hT b i2 a3 a4 hb hi2  (fun w5 w6 w7 I_ hw => (all (μ22 w5 w6 w7 I_ + 1)) w5 w6 w7 I_ hw (Nat.lt_succ_self _)) I h)

def jX0_hostHoldsI (b : Nat) (i2 : Nat) (a3 : Int32) (a4 : Int32) : Nat → Int32 → Int32 → Int32 → IM → Int32
  | 0 => fun _ _ _ I => 0
  | n + 1 => fun v5 v6 v7 I => (if (I b 4) ≤ v7 then 1 else (if hs a4 v7 then (if (jX0_worksAt I b v5 v7) ≤ v6 then (jX0_hostHoldsI b i2 a3 a4 n v5 v6 (v7 + 1) I) else 0) else (jX0_hostHoldsI b i2 a3 a4 n v5 v6 (v7 + 1) I)))
def jX0_hostHoldsO (b : Nat) (i2 : Nat) (a3 : Int32) (a4 : Int32) : Nat → Int32 → Int32 → Int32 → IM → Prop
  | 0 => fun _ _ _ _ => False
  | n + 1 => fun v5 v6 v7 I => ((((I b 4) ≤ v7) → True) ∧ ((¬ (I b 4) ≤ v7) → (((¬ (hs a4 v7)) → (jX0_hostHoldsO b i2 a3 a4 n v5 v6 (v7 + 1) I)) ∧ ((hs a4 v7) → (((jX0_worksAtK v5 v7)) ∧ ((((jX0_worksAt I b v5 v7) ≤ v6) → (jX0_hostHoldsO b i2 a3 a4 n v5 v6 (v7 + 1) I)) ∧ ((¬ (jX0_worksAt I b v5 v7) ≤ v6) → True)))))))
theorem jX0_hostHoldsI_22 (b : Nat) (i2 : Nat) (a3 : Int32) (a4 : Int32) (n : Nat) (v5 v6 v7 : Int32) (I : IM) : jX0_hostHoldsI b i2 a3 a4 (n + 1) v5 v6 v7 I = (if (I b 4) ≤ v7 then 1 else (if hs a4 v7 then (if (jX0_worksAt I b v5 v7) ≤ v6 then (jX0_hostHoldsI b i2 a3 a4 n v5 v6 (v7 + 1) I) else 0) else (jX0_hostHoldsI b i2 a3 a4 n v5 v6 (v7 + 1) I))) := rfl
theorem jX0_hostHoldsO_22 (b : Nat) (i2 : Nat) (a3 : Int32) (a4 : Int32) (n : Nat) (v5 v6 v7 : Int32) (I : IM) : jX0_hostHoldsO b i2 a3 a4 (n + 1) v5 v6 v7 I = ((((I b 4) ≤ v7) → True) ∧ ((¬ (I b 4) ≤ v7) → (((¬ (hs a4 v7)) → (jX0_hostHoldsO b i2 a3 a4 n v5 v6 (v7 + 1) I)) ∧ ((hs a4 v7) → (((jX0_worksAtK v5 v7)) ∧ ((((jX0_worksAt I b v5 v7) ≤ v6) → (jX0_hostHoldsO b i2 a3 a4 n v5 v6 (v7 + 1) I)) ∧ ((¬ (jX0_worksAt I b v5 v7) ≤ v6) → True))))))) := rfl
def jX0_hostHolds (I : IM) (b : Nat) (i2 : Nat) (a3 : Int32) (a4 : Int32) : Int32 := (jX0_hostHoldsI b i2 a3 a4 FU (jHostOf a3) ((jX5_workroomOf I (jHostOf a3)) - (I (17 + 4 * i2) 6)) 0 I)
def jX0_hostHoldsK (I : IM) (b : Nat) (i2 : Nat) (a3 : Int32) (a4 : Int32) : Prop := (((jX5_workroomOfK (jHostOf a3))) ∧ (jX0_hostHoldsO b i2 a3 a4 FU (jHostOf a3) ((jX5_workroomOf I (jHostOf a3)) - (I (17 + 4 * i2) 6)) 0 I))
set_option maxRecDepth 10000 in
set_option maxHeartbeats 1000000 in
theorem uX0_hostHolds (d : Nat) {T : Topo} (hT : Lay T) (b : Nat) (i2 : Nat) (a3 : Int32) (a4 : Int32) (hb : isBk b) (hi2 : i2 < 8)  {R : Int32} {I00 : IM} : ∀ n : Nat, (∀ (v5 v6 v7 : Int32) (I : IM), I = I00 → jX0_hostHoldsO b i2 a3 a4 n v5 v6 v7 I → jX0_hostHoldsI b i2 a3 a4 n v5 v6 v7 I = R → J (d + 1) mX0_hostHolds (PI (fun x T' I' => x = R ∧ T' = T ∧ I' = I00)) 0 0 22 [some (.ref b), none, none, none, some (.int a4), some (.int v5), some (.int v6), some (.int v7)] [] T I 0 0) := by
  intro n
  induction n with
  | zero => exact fun _ _ _ _ _ hz => hz.elim
  | succ n ih =>
    exact fun v5 v6 v7 I hI hok hit => by
        rw [jX0_hostHoldsO_22] at hok
        exact sX0_hostHolds_22 d hT b i2 a3 a4 hb hi2  (K22 := fun w5 w6 w7 I_ => (jX0_hostHoldsO b i2 a3 a4 n w5 w6 w7 I_ ∧ jX0_hostHoldsI b i2 a3 a4 n w5 w6 w7 I_ = R) ∧ I_ = I00) (fun w5 w6 w7 I_ hw => ih w5 w6 w7 I_ hw.2 hw.1.1 hw.1.2) v5 v6 v7 I (by
          unfold fX0_hostHolds_22
          exact ⟨fun hc1 => ⟨by rw [jX0_hostHoldsI_22, if_pos hc1] at hit; exact hit, rfl, hI⟩, fun hc1 => ⟨fun hc2 => ⟨⟨((hok).2 hc1).1 hc2, by rw [jX0_hostHoldsI_22, if_neg hc1, if_neg hc2] at hit; exact hit⟩, hI⟩, fun hc2 => ⟨(((hok).2 hc1).2 hc2).1, ⟨fun hc3 => ⟨⟨((((hok).2 hc1).2 hc2).2).1 hc3, by rw [jX0_hostHoldsI_22, if_neg hc1, if_pos hc2, if_pos hc3] at hit; exact hit⟩, hI⟩, fun hc3 => ⟨by rw [jX0_hostHoldsI_22, if_neg hc1, if_pos hc2, if_neg hc3] at hit; exact hit, rfl, hI⟩⟩⟩⟩⟩)
set_option maxRecDepth 10000 in
set_option maxHeartbeats 1000000 in
theorem qX0_hostHolds (d : Nat) {T : Topo} {I : IM} (hT : Lay T) (b : Nat) (hb : isBk b) (i2 : Nat) (hi2 : i2 < 8) (a3 : Int32) (a4 : Int32)  (hp : (jX0_hostHoldsK I b i2 a3 a4)) : CtP (d + 1) mX0_hostHolds [.ref b, .ref 1, .ref (17 + 4 * i2), .int a3, .int a4] T I (jX0_hostHolds I b i2 a3 a4) := by
  unfold jX0_hostHoldsK at hp
  exact Ct.ofJ (by decide +kernel) rfl (by intro v hv; revert v hv; simp [Value.category]) rfl (sX0_hostHolds_0 d hT b i2 a3 a4 hb hi2  (K22 := fun w5 w6 w7 I_ => (jX0_hostHoldsO b i2 a3 a4 FU w5 w6 w7 I_ ∧ jX0_hostHoldsI b i2 a3 a4 FU w5 w6 w7 I_ = (jX0_hostHolds I b i2 a3 a4)) ∧ I_ = I) (fun w5 w6 w7 I_ hw => uX0_hostHolds d hT b i2 a3 a4 hb hi2  FU w5 w6 w7 I_ hw.2 hw.1.1 hw.1.2) I (by
    unfold fX0_hostHolds_0
    exact ⟨(hp).1, ⟨⟨(hp).2, rfl⟩, rfl⟩⟩))

def fX0_enterLines_0 (T : Topo) (b : Nat) (a2 : Int32) (a3 : Int32) (a4 : Int32) (Q : Topo → IM → Prop) (K15 : Int32 → Int32 → Int32 → IM → Prop) (I : IM) : Prop :=
  ((K15 (jWayIn a2) (jSpareOf a2) 0 I))
def fX0_enterLines_15 (T : Topo) (b : Nat) (a2 : Int32) (a3 : Int32) (a4 : Int32) (Q : Topo → IM → Prop) (K15 : Int32 → Int32 → Int32 → IM → Prop) (v5 v6 v7 : Int32) (I : IM) : Prop :=
  ((((I 1 4) ≤ v7) → Q T I) ∧ ((¬ (I 1 4) ≤ v7) → ((((¬ (hs v5 v7)) → ((((¬ (hs v6 v7)) → K15 v5 v6 (v7 + 1) I) ∧ ((hs v6 v7) → (((jX0_enterFallsK I b v7 v5 a3 a4)) ∧ K15 v5 v6 (v7 + 1) (jX0_enterFalls I b v7 v5 a3 a4)))))) ∧ ((hs v5 v7) → (vp_in ((a4 * 9) + v7) 216 ∧ (vp_in ((a4 * 9) + v7) 216 ∧ ((((¬ (hs v6 v7)) → K15 v5 v6 (v7 + 1) (up2 I (b + 1 + 0) ((a4 * 9) + v7).toNatClampNeg ((I (b + 1 + 0) ((a4 * 9) + v7).toNatClampNeg) + a3))) ∧ ((hs v6 v7) → (((jX0_enterFallsK (up2 I (b + 1 + 0) ((a4 * 9) + v7).toNatClampNeg ((I (b + 1 + 0) ((a4 * 9) + v7).toNatClampNeg) + a3)) b v7 v5 a3 a4)) ∧ K15 v5 v6 (v7 + 1) (jX0_enterFalls (up2 I (b + 1 + 0) ((a4 * 9) + v7).toNatClampNeg ((I (b + 1 + 0) ((a4 * 9) + v7).toNatClampNeg) + a3)) b v7 v5 a3 a4))))))))))))
set_option maxHeartbeats 4000000 in
set_option maxRecDepth 100000 in
theorem sX0_enterLines_0 (d : Nat) {T : Topo} (hT : Lay T) (b : Nat) (a2 : Int32) (a3 : Int32) (a4 : Int32) (hb : isBk b)   {Q : Topo → IM → Prop} {K15 : Int32 → Int32 → Int32 → IM → Prop} (hK15 : ∀ (v5 v6 v7 : Int32) (I : IM), K15 v5 v6 v7 I → J (d + 2) mX0_enterLines (PV Q) 0 0 15 [some (.ref b), some (.ref 1), none, some (.int a3), some (.int a4), some (.int v5), some (.int v6), some (.int v7)] [] T I 0 0) (I : IM) (h : fX0_enterLines_0 T b a2 a3 a4 Q K15 I) : J (d + 2) mX0_enterLines (PV Q) 0 0 0 [some (.ref b), some (.ref 1), some (.int a2), some (.int a3), some (.int a4), none, none, none] [] T I 0 0 := by
  unfold fX0_enterLines_0 at h
  refine J.iload_n dX0_enterLines_0 rfl rfl ?_
  refine J.callSP (as := [.int a2]) (rest := []) dX0_enterLines_1 kX11_wayIn vX11_wayIn lX0_73 rfl rfl rfl (by omega) (Nat.le_refl _) (Nat.le_refl _) (qX11_wayIn (d + 1) hT a2 ) ?_
  refine J.istore (ls' := [some (.ref b), some (.ref 1), some (.int a2), some (.int a3), some (.int a4), some (.int (jWayIn a2)), none, none]) dX0_enterLines_4 rfl rfl ?_
  refine J.iload_n dX0_enterLines_6 rfl rfl ?_
  refine J.callSP (as := [.int a2]) (rest := []) dX0_enterLines_7 kX11_spareOf vX11_spareOf lX0_76 rfl rfl rfl (by omega) (Nat.le_refl _) (Nat.le_refl _) (qX11_spareOf (d + 1) hT a2 ) ?_
  refine J.istore (ls' := [some (.ref b), some (.ref 1), some (.int a2), some (.int a3), some (.int a4), some (.int (jWayIn a2)), some (.int (jSpareOf a2)), none]) dX0_enterLines_10 rfl rfl ?_
  refine J.iconst (v := 0) dX0_enterLines_12 (by decide) ?_
  refine J.istore (ls' := [some (.ref b), some (.ref 1), some (.int a2), some (.int a3), some (.int a4), some (.int (jWayIn a2)), some (.int (jSpareOf a2)), some (.int 0)]) dX0_enterLines_13 rfl rfl ?_
  exact J.weaken (ls' := [some (.ref b), some (.ref 1), none, some (.int a3), some (.int a4), some (.int (jWayIn a2)), some (.int (jSpareOf a2)), some (.int 0)]) (And.intro rfl (And.intro rfl (And.intro rfl (And.intro rfl (And.intro rfl (And.intro rfl (And.intro rfl trivial))))))) (hK15 (jWayIn a2) (jSpareOf a2) 0 I h)
set_option maxHeartbeats 4000000 in
set_option maxRecDepth 100000 in
theorem sX0_enterLines_15 (d : Nat) {T : Topo} (hT : Lay T) (b : Nat) (a2 : Int32) (a3 : Int32) (a4 : Int32) (hb : isBk b)   {Q : Topo → IM → Prop} {K15 : Int32 → Int32 → Int32 → IM → Prop} (hK15 : ∀ (v5 v6 v7 : Int32) (I : IM), K15 v5 v6 v7 I → J (d + 2) mX0_enterLines (PV Q) 0 0 15 [some (.ref b), some (.ref 1), none, some (.int a3), some (.int a4), some (.int v5), some (.int v6), some (.int v7)] [] T I 0 0) (v5 v6 v7 : Int32) (I : IM) (h : fX0_enterLines_15 T b a2 a3 a4 Q K15 v5 v6 v7 I) : J (d + 2) mX0_enterLines (PV Q) 0 0 15 [some (.ref b), some (.ref 1), none, some (.int a3), some (.int a4), some (.int v5), some (.int v6), some (.int v7)] [] T I 0 0 := by
  unfold fX0_enterLines_15 at h
  refine J.iload dX0_enterLines_15 rfl ?_
  refine J.aload_n dX0_enterLines_17 rfl rfl ?_
  refine J.getI dX0_enterLines_18 fX0_79 (hT.k 1 rfl) rfl ?_
  refine J.icmp_ge (tgt := 78) dX0_enterLines_21 (by decide) (fun hc1 => ?_) (fun hc1 => ?_)
  · have h := h.1 hc1
    exact J.vretQ dX0_enterLines_78 rfl (Nat.le_refl _) (Nat.le_refl _) h
  · have h := h.2 hc1
    refine J.iload dX0_enterLines_24 rfl ?_
    refine J.iload dX0_enterLines_26 rfl ?_
    refine J.callSP (as := [.int v5, .int v7]) (rest := []) dX0_enterLines_28 kX11_has vX11_has lX0_52 rfl rfl rfl (by omega) (Nat.le_refl _) (Nat.le_refl _) (qX11_has (d + 1) hT v5 v7 ) ?_
    refine J.bz_eq (tgt := 51) dX0_enterLines_31 (by decide) (fun hc2 => ?_) (fun hc2 => ?_)
    · have h := h.1 hc2
      refine J.iload dX0_enterLines_51 rfl ?_
      refine J.iload dX0_enterLines_53 rfl ?_
      refine J.callSP (as := [.int v6, .int v7]) (rest := []) dX0_enterLines_55 kX11_has vX11_has lX0_52 rfl rfl rfl (by omega) (Nat.le_refl _) (Nat.le_refl _) (qX11_has (d + 1) hT v6 v7 ) ?_
      refine J.bz_eq (tgt := 72) dX0_enterLines_58 (by decide) (fun hc3 => ?_) (fun hc3 => ?_)
      · have h := h.1 hc3
        refine J.iinc (v := (v7 + 1)) (ls' := [some (.ref b), some (.ref 1), none, some (.int a3), some (.int a4), some (.int v5), some (.int v6), some (.int (v7 + 1))]) dX0_enterLines_72 rfl (by rfl) rfl ?_
        refine J.goto (tgt := 15) dX0_enterLines_75 (by decide) ?_
        exact J.weaken (ls' := [some (.ref b), some (.ref 1), none, some (.int a3), some (.int a4), some (.int v5), some (.int v6), some (.int (v7 + 1))]) (And.intro rfl (And.intro rfl (And.intro rfl (And.intro rfl (And.intro rfl (And.intro rfl (And.intro rfl trivial))))))) (hK15 v5 v6 (v7 + 1) I h)
      · have h := h.2 hc3
        refine J.aload_n dX0_enterLines_61 rfl rfl ?_
        refine J.iload dX0_enterLines_62 rfl ?_
        refine J.iload dX0_enterLines_64 rfl ?_
        refine J.iload_n dX0_enterLines_66 rfl rfl ?_
        refine J.iload dX0_enterLines_67 rfl ?_
        obtain ⟨hp4, h⟩ := h
        refine J.callVD (k := b) (as := [.int v7, .int v5, .int a3, .int a4]) (rest := []) dX0_enterLines_69 kX0_enterFalls vX0_enterFalls lX0_95 (hT.bookK hb) rfl rfl rfl rfl rfl (by omega) (Nat.le_refl _) (Nat.le_refl _) (qX0_enterFalls (d + 0) hT b hb v7 v5 a3 a4 hp4) ?_
        refine J.iinc (v := (v7 + 1)) (ls' := [some (.ref b), some (.ref 1), none, some (.int a3), some (.int a4), some (.int v5), some (.int v6), some (.int (v7 + 1))]) dX0_enterLines_72 rfl (by rfl) rfl ?_
        refine J.goto (tgt := 15) dX0_enterLines_75 (by decide) ?_
        exact J.weaken (ls' := [some (.ref b), some (.ref 1), none, some (.int a3), some (.int a4), some (.int v5), some (.int v6), some (.int (v7 + 1))]) (And.intro rfl (And.intro rfl (And.intro rfl (And.intro rfl (And.intro rfl (And.intro rfl (And.intro rfl trivial))))))) (hK15 v5 v6 (v7 + 1) (jX0_enterFalls I b v7 v5 a3 a4) h)
    · have h := h.2 hc2
      refine J.aload_n dX0_enterLines_34 rfl rfl ?_
      refine J.getR (r := (b + 1 + 0)) dX0_enterLines_35 fX0_9 (hT.bookK hb) rfl (hT.bookR hb 0 rfl) ?_
      refine J.iload dX0_enterLines_38 rfl ?_
      refine J.bipush (v := 9) dX0_enterLines_40 (by decide) ?_
      refine J.imul dX0_enterLines_42 ?_
      refine J.iload dX0_enterLines_43 rfl ?_
      refine J.iadd dX0_enterLines_45 ?_
      refine J.atpc (pc' := 46) rfl ?_
      refine J.dup2 dX0_enterLines_46 rfl rfl ?_
      obtain ⟨hs5, h⟩ := h
      refine J.iald dX0_enterLines_47 (hT.bookA hb 0 rfl) (hT.bookL hb 0 rfl) hs5 ?_
      refine J.iload_n dX0_enterLines_48 rfl rfl ?_
      refine J.iadd dX0_enterLines_49 ?_
      obtain ⟨hs6, h⟩ := h
      refine J.iast dX0_enterLines_50 (hT.bookA hb 0 rfl) (hT.bookL hb 0 rfl) hs6 ?_
      refine J.iload dX0_enterLines_51 rfl ?_
      refine J.iload dX0_enterLines_53 rfl ?_
      refine J.callSP (as := [.int v6, .int v7]) (rest := []) dX0_enterLines_55 kX11_has vX11_has lX0_52 rfl rfl rfl (by omega) (Nat.le_refl _) (Nat.le_refl _) (qX11_has (d + 1) hT v6 v7 ) ?_
      refine J.bz_eq (tgt := 72) dX0_enterLines_58 (by decide) (fun hc7 => ?_) (fun hc7 => ?_)
      · have h := h.1 hc7
        refine J.iinc (v := (v7 + 1)) (ls' := [some (.ref b), some (.ref 1), none, some (.int a3), some (.int a4), some (.int v5), some (.int v6), some (.int (v7 + 1))]) dX0_enterLines_72 rfl (by rfl) rfl ?_
        refine J.goto (tgt := 15) dX0_enterLines_75 (by decide) ?_
        exact J.weaken (ls' := [some (.ref b), some (.ref 1), none, some (.int a3), some (.int a4), some (.int v5), some (.int v6), some (.int (v7 + 1))]) (And.intro rfl (And.intro rfl (And.intro rfl (And.intro rfl (And.intro rfl (And.intro rfl (And.intro rfl trivial))))))) (hK15 v5 v6 (v7 + 1) (up2 I (b + 1 + 0) ((a4 * 9) + v7).toNatClampNeg ((I (b + 1 + 0) ((a4 * 9) + v7).toNatClampNeg) + a3)) h)
      · have h := h.2 hc7
        refine J.aload_n dX0_enterLines_61 rfl rfl ?_
        refine J.iload dX0_enterLines_62 rfl ?_
        refine J.iload dX0_enterLines_64 rfl ?_
        refine J.iload_n dX0_enterLines_66 rfl rfl ?_
        refine J.iload dX0_enterLines_67 rfl ?_
        obtain ⟨hp8, h⟩ := h
        refine J.callVD (k := b) (as := [.int v7, .int v5, .int a3, .int a4]) (rest := []) dX0_enterLines_69 kX0_enterFalls vX0_enterFalls lX0_95 (hT.bookK hb) rfl rfl rfl rfl rfl (by omega) (Nat.le_refl _) (Nat.le_refl _) (qX0_enterFalls (d + 0) hT b hb v7 v5 a3 a4 hp8) ?_
        refine J.iinc (v := (v7 + 1)) (ls' := [some (.ref b), some (.ref 1), none, some (.int a3), some (.int a4), some (.int v5), some (.int v6), some (.int (v7 + 1))]) dX0_enterLines_72 rfl (by rfl) rfl ?_
        refine J.goto (tgt := 15) dX0_enterLines_75 (by decide) ?_
        exact J.weaken (ls' := [some (.ref b), some (.ref 1), none, some (.int a3), some (.int a4), some (.int v5), some (.int v6), some (.int (v7 + 1))]) (And.intro rfl (And.intro rfl (And.intro rfl (And.intro rfl (And.intro rfl (And.intro rfl (And.intro rfl trivial))))))) (hK15 v5 v6 (v7 + 1) (jX0_enterFalls (up2 I (b + 1 + 0) ((a4 * 9) + v7).toNatClampNeg ((I (b + 1 + 0) ((a4 * 9) + v7).toNatClampNeg) + a3)) b v7 v5 a3 a4) h)
set_option maxHeartbeats 4000000 in
set_option maxRecDepth 100000 in
theorem wX0_enterLines (d : Nat) {T : Topo} (hT : Lay T) (b : Nat) (a2 : Int32) (a3 : Int32) (a4 : Int32) (hb : isBk b)  {Q : Topo → IM → Prop} (V15 : Int32 → Int32 → Int32 → IM → Prop) (μ15 : Int32 → Int32 → Int32 → IM → Nat) (vc15 : ∀ (v5 v6 v7 : Int32) (I : IM), V15 v5 v6 v7 I → fX0_enterLines_15 T b a2 a3 a4 Q (fun w5 w6 w7 I_ => V15 w5 w6 w7 I_ ∧ μ15 w5 w6 w7 I_ < μ15 v5 v6 v7 I) v5 v6 v7 I) {I : IM} (h : fX0_enterLines_0 T b a2 a3 a4 Q V15 I) : Ct (d + 2) mX0_enterLines [.ref b, .ref 1, .int a2, .int a3, .int a4] T I 0 0 (PV Q) := by
  have all : ∀ n : Nat, (∀ (v5 v6 v7 : Int32) (I : IM), V15 v5 v6 v7 I → μ15 v5 v6 v7 I < n → J (d + 2) mX0_enterLines (PV Q) 0 0 15 [some (.ref b), some (.ref 1), none, some (.int a3), some (.int a4), some (.int v5), some (.int v6), some (.int v7)] [] T I 0 0) := by
    intro n
    induction n with
    | zero => exact fun _ _ _ _ _ hn => absurd hn (Nat.not_lt_zero _)
    | succ n ih =>
      exact fun v5 v6 v7 I hv hn => sX0_enterLines_15 d hT b a2 a3 a4 hb  (fun w5 w6 w7 I_ hw => ih w5 w6 w7 I_ hw.1 (by have := hw.2; omega)) v5 v6 v7 I (vc15 v5 v6 v7 I hv)
  exact Ct.ofJ (by decide +kernel) rfl (by intro v hv; revert v hv; simp [Value.category]) rfl (sX0_enterLines_0 d hT b a2 a3 a4 hb  (fun w5 w6 w7 I_ hw => (all (μ15 w5 w6 w7 I_ + 1)) w5 w6 w7 I_ hw (Nat.lt_succ_self _)) I h)

def jX0_enterLinesI (b : Nat) (a2 : Int32) (a3 : Int32) (a4 : Int32) : Nat → Int32 → Int32 → Int32 → IM → IM
  | 0 => fun _ _ _ I => I
  | n + 1 => fun v5 v6 v7 I => (if (I 1 4) ≤ v7 then I else (if hs v5 v7 then (if hs v6 v7 then (jX0_enterLinesI b a2 a3 a4 n v5 v6 (v7 + 1) (jX0_enterFalls (up2 I (b + 1 + 0) ((a4 * 9) + v7).toNatClampNeg ((I (b + 1 + 0) ((a4 * 9) + v7).toNatClampNeg) + a3)) b v7 v5 a3 a4)) else (jX0_enterLinesI b a2 a3 a4 n v5 v6 (v7 + 1) (up2 I (b + 1 + 0) ((a4 * 9) + v7).toNatClampNeg ((I (b + 1 + 0) ((a4 * 9) + v7).toNatClampNeg) + a3)))) else (if hs v6 v7 then (jX0_enterLinesI b a2 a3 a4 n v5 v6 (v7 + 1) (jX0_enterFalls I b v7 v5 a3 a4)) else (jX0_enterLinesI b a2 a3 a4 n v5 v6 (v7 + 1) I))))
def jX0_enterLinesO (b : Nat) (a2 : Int32) (a3 : Int32) (a4 : Int32) : Nat → Int32 → Int32 → Int32 → IM → Prop
  | 0 => fun _ _ _ _ => False
  | n + 1 => fun v5 v6 v7 I => ((((I 1 4) ≤ v7) → True) ∧ ((¬ (I 1 4) ≤ v7) → (((¬ (hs v5 v7)) → (((¬ (hs v6 v7)) → (jX0_enterLinesO b a2 a3 a4 n v5 v6 (v7 + 1) I)) ∧ ((hs v6 v7) → (((jX0_enterFallsK I b v7 v5 a3 a4)) ∧ (jX0_enterLinesO b a2 a3 a4 n v5 v6 (v7 + 1) (jX0_enterFalls I b v7 v5 a3 a4)))))) ∧ ((hs v5 v7) → (vp_in ((a4 * 9) + v7) 216 ∧ (vp_in ((a4 * 9) + v7) 216 ∧ (((¬ (hs v6 v7)) → (jX0_enterLinesO b a2 a3 a4 n v5 v6 (v7 + 1) (up2 I (b + 1 + 0) ((a4 * 9) + v7).toNatClampNeg ((I (b + 1 + 0) ((a4 * 9) + v7).toNatClampNeg) + a3)))) ∧ ((hs v6 v7) → (((jX0_enterFallsK (up2 I (b + 1 + 0) ((a4 * 9) + v7).toNatClampNeg ((I (b + 1 + 0) ((a4 * 9) + v7).toNatClampNeg) + a3)) b v7 v5 a3 a4)) ∧ (jX0_enterLinesO b a2 a3 a4 n v5 v6 (v7 + 1) (jX0_enterFalls (up2 I (b + 1 + 0) ((a4 * 9) + v7).toNatClampNeg ((I (b + 1 + 0) ((a4 * 9) + v7).toNatClampNeg) + a3)) b v7 v5 a3 a4)))))))))))
theorem jX0_enterLinesI_15 (b : Nat) (a2 : Int32) (a3 : Int32) (a4 : Int32) (n : Nat) (v5 v6 v7 : Int32) (I : IM) : jX0_enterLinesI b a2 a3 a4 (n + 1) v5 v6 v7 I = (if (I 1 4) ≤ v7 then I else (if hs v5 v7 then (if hs v6 v7 then (jX0_enterLinesI b a2 a3 a4 n v5 v6 (v7 + 1) (jX0_enterFalls (up2 I (b + 1 + 0) ((a4 * 9) + v7).toNatClampNeg ((I (b + 1 + 0) ((a4 * 9) + v7).toNatClampNeg) + a3)) b v7 v5 a3 a4)) else (jX0_enterLinesI b a2 a3 a4 n v5 v6 (v7 + 1) (up2 I (b + 1 + 0) ((a4 * 9) + v7).toNatClampNeg ((I (b + 1 + 0) ((a4 * 9) + v7).toNatClampNeg) + a3)))) else (if hs v6 v7 then (jX0_enterLinesI b a2 a3 a4 n v5 v6 (v7 + 1) (jX0_enterFalls I b v7 v5 a3 a4)) else (jX0_enterLinesI b a2 a3 a4 n v5 v6 (v7 + 1) I)))) := rfl
theorem jX0_enterLinesO_15 (b : Nat) (a2 : Int32) (a3 : Int32) (a4 : Int32) (n : Nat) (v5 v6 v7 : Int32) (I : IM) : jX0_enterLinesO b a2 a3 a4 (n + 1) v5 v6 v7 I = ((((I 1 4) ≤ v7) → True) ∧ ((¬ (I 1 4) ≤ v7) → (((¬ (hs v5 v7)) → (((¬ (hs v6 v7)) → (jX0_enterLinesO b a2 a3 a4 n v5 v6 (v7 + 1) I)) ∧ ((hs v6 v7) → (((jX0_enterFallsK I b v7 v5 a3 a4)) ∧ (jX0_enterLinesO b a2 a3 a4 n v5 v6 (v7 + 1) (jX0_enterFalls I b v7 v5 a3 a4)))))) ∧ ((hs v5 v7) → (vp_in ((a4 * 9) + v7) 216 ∧ (vp_in ((a4 * 9) + v7) 216 ∧ (((¬ (hs v6 v7)) → (jX0_enterLinesO b a2 a3 a4 n v5 v6 (v7 + 1) (up2 I (b + 1 + 0) ((a4 * 9) + v7).toNatClampNeg ((I (b + 1 + 0) ((a4 * 9) + v7).toNatClampNeg) + a3)))) ∧ ((hs v6 v7) → (((jX0_enterFallsK (up2 I (b + 1 + 0) ((a4 * 9) + v7).toNatClampNeg ((I (b + 1 + 0) ((a4 * 9) + v7).toNatClampNeg) + a3)) b v7 v5 a3 a4)) ∧ (jX0_enterLinesO b a2 a3 a4 n v5 v6 (v7 + 1) (jX0_enterFalls (up2 I (b + 1 + 0) ((a4 * 9) + v7).toNatClampNeg ((I (b + 1 + 0) ((a4 * 9) + v7).toNatClampNeg) + a3)) b v7 v5 a3 a4))))))))))) := rfl
def jX0_enterLines (I : IM) (b : Nat) (a2 : Int32) (a3 : Int32) (a4 : Int32) : IM := (jX0_enterLinesI b a2 a3 a4 FU (jWayIn a2) (jSpareOf a2) 0 I)
def jX0_enterLinesK (I : IM) (b : Nat) (a2 : Int32) (a3 : Int32) (a4 : Int32) : Prop := (jX0_enterLinesO b a2 a3 a4 FU (jWayIn a2) (jSpareOf a2) 0 I)
set_option maxRecDepth 10000 in
set_option maxHeartbeats 1000000 in
theorem uX0_enterLines (d : Nat) {T : Topo} (hT : Lay T) (b : Nat) (a2 : Int32) (a3 : Int32) (a4 : Int32) (hb : isBk b)  {R : IM} : ∀ n : Nat, (∀ (v5 v6 v7 : Int32) (I : IM), jX0_enterLinesO b a2 a3 a4 n v5 v6 v7 I → jX0_enterLinesI b a2 a3 a4 n v5 v6 v7 I = R → J (d + 2) mX0_enterLines (PV (fun T' I' => T' = T ∧ I' = R)) 0 0 15 [some (.ref b), some (.ref 1), none, some (.int a3), some (.int a4), some (.int v5), some (.int v6), some (.int v7)] [] T I 0 0) := by
  intro n
  induction n with
  | zero => exact fun _ _ _ _ hz => hz.elim
  | succ n ih =>
    exact fun v5 v6 v7 I hok hit => by
        rw [jX0_enterLinesO_15] at hok
        exact sX0_enterLines_15 d hT b a2 a3 a4 hb  (K15 := fun w5 w6 w7 I_ => (jX0_enterLinesO b a2 a3 a4 n w5 w6 w7 I_ ∧ jX0_enterLinesI b a2 a3 a4 n w5 w6 w7 I_ = R)) (fun w5 w6 w7 I_ hw => ih w5 w6 w7 I_ hw.1 hw.2) v5 v6 v7 I (by
          unfold fX0_enterLines_15
          exact ⟨fun hc1 => ⟨rfl, by rw [jX0_enterLinesI_15, if_pos hc1] at hit; exact hit⟩, fun hc1 => ⟨fun hc2 => ⟨fun hc3 => ⟨(((hok).2 hc1).1 hc2).1 hc3, by rw [jX0_enterLinesI_15, if_neg hc1, if_neg hc2, if_neg hc3] at hit; exact hit⟩, fun hc3 => ⟨((((hok).2 hc1).1 hc2).2 hc3).1, ⟨((((hok).2 hc1).1 hc2).2 hc3).2, by rw [jX0_enterLinesI_15, if_neg hc1, if_neg hc2, if_pos hc3] at hit; exact hit⟩⟩⟩, fun hc2 => ⟨(((hok).2 hc1).2 hc2).1, ⟨((((hok).2 hc1).2 hc2).2).1, ⟨fun hc4 => ⟨(((((hok).2 hc1).2 hc2).2).2).1 hc4, by rw [jX0_enterLinesI_15, if_neg hc1, if_pos hc2, if_neg hc4] at hit; exact hit⟩, fun hc4 => ⟨((((((hok).2 hc1).2 hc2).2).2).2 hc4).1, ⟨((((((hok).2 hc1).2 hc2).2).2).2 hc4).2, by rw [jX0_enterLinesI_15, if_neg hc1, if_pos hc2, if_pos hc4] at hit; exact hit⟩⟩⟩⟩⟩⟩⟩)
set_option maxRecDepth 10000 in
set_option maxHeartbeats 1000000 in
theorem qX0_enterLines (d : Nat) {T : Topo} {I : IM} (hT : Lay T) (b : Nat) (hb : isBk b) (a2 : Int32) (a3 : Int32) (a4 : Int32)  (hp : (jX0_enterLinesK I b a2 a3 a4)) : CtV (d + 2) mX0_enterLines [.ref b, .ref 1, .int a2, .int a3, .int a4] T I (fun J_ => J_ = (jX0_enterLines I b a2 a3 a4)) := by
  unfold jX0_enterLinesK at hp
  exact Ct.ofJ (by decide +kernel) rfl (by intro v hv; revert v hv; simp [Value.category]) rfl (sX0_enterLines_0 d hT b a2 a3 a4 hb  (K15 := fun w5 w6 w7 I_ => (jX0_enterLinesO b a2 a3 a4 FU w5 w6 w7 I_ ∧ jX0_enterLinesI b a2 a3 a4 FU w5 w6 w7 I_ = (jX0_enterLines I b a2 a3 a4))) (fun w5 w6 w7 I_ hw => uX0_enterLines d hT b a2 a3 a4 hb  FU w5 w6 w7 I_ hw.1 hw.2) I (by
    unfold fX0_enterLines_0
    exact ⟨hp, rfl⟩))

def fX0_linesHold_0 (T : Topo) (b : Nat) (i2 : Nat) (a3 : Int32) (a4 : Int32) (Q : Int32 → Topo → IM → Prop) (K9 : Int32 → Int32 → IM → Prop) (I : IM) : Prop :=
  (K9 (jX8_needed I i2) 0 I)
def fX0_linesHold_9 (T : Topo) (b : Nat) (i2 : Nat) (a3 : Int32) (a4 : Int32) (Q : Int32 → Topo → IM → Prop) (K9 : Int32 → Int32 → IM → Prop) (v5 v6 : Int32) (I : IM) : Prop :=
  ((((I b 4) ≤ v6) → Q 1 T I) ∧ ((¬ (I b 4) ≤ v6) → ((((¬ (hs a4 v6)) → K9 v5 (v6 + 1) I) ∧ ((hs a4 v6) → (((jX0_linesHoldAtK I b a3 v5 v6)) ∧ (((¬ (jX0_linesHoldAt I b a3 v5 v6) = 0) → K9 v5 (v6 + 1) I) ∧ (((jX0_linesHoldAt I b a3 v5 v6) = 0) → Q 0 T I))))))))
set_option maxHeartbeats 4000000 in
set_option maxRecDepth 100000 in
theorem sX0_linesHold_0 (d : Nat) {T : Topo} (hT : Lay T) (b : Nat) (i2 : Nat) (a3 : Int32) (a4 : Int32) (hb : isBk b) (hi2 : i2 < 8)   {Q : Int32 → Topo → IM → Prop} {K9 : Int32 → Int32 → IM → Prop} (hK9 : ∀ (v5 v6 : Int32) (I : IM), K9 v5 v6 I → J (d + 3) mX0_linesHold (PI Q) 0 0 9 [some (.ref b), some (.ref 1), none, some (.int a3), some (.int a4), some (.int v5), some (.int v6)] [] T I 0 0) (I : IM) (h : fX0_linesHold_0 T b i2 a3 a4 Q K9 I) : J (d + 3) mX0_linesHold (PI Q) 0 0 0 [some (.ref b), some (.ref 1), some (.ref (17 + 4 * i2)), some (.int a3), some (.int a4), none, none] [] T I 0 0 := by
  unfold fX0_linesHold_0 at h
  refine J.aload_n dX0_linesHold_0 rfl rfl ?_
  refine J.callVP (k := (17 + 4 * i2)) (as := []) (rest := []) dX0_linesHold_1 kX8_needed vX8_needed lX0_46 (hT.sliceK hi2) rfl rfl rfl rfl rfl (by omega) (Nat.le_refl _) (Nat.le_refl _) (qX8_needed (d + 2) hT i2 hi2 ) ?_
  refine J.istore (ls' := [some (.ref b), some (.ref 1), some (.ref (17 + 4 * i2)), some (.int a3), some (.int a4), some (.int (jX8_needed I i2)), none]) dX0_linesHold_4 rfl rfl ?_
  refine J.iconst (v := 0) dX0_linesHold_6 (by decide) ?_
  refine J.istore (ls' := [some (.ref b), some (.ref 1), some (.ref (17 + 4 * i2)), some (.int a3), some (.int a4), some (.int (jX8_needed I i2)), some (.int 0)]) dX0_linesHold_7 rfl rfl ?_
  exact J.weaken (ls' := [some (.ref b), some (.ref 1), none, some (.int a3), some (.int a4), some (.int (jX8_needed I i2)), some (.int 0)]) (And.intro rfl (And.intro rfl (And.intro rfl (And.intro rfl (And.intro rfl (And.intro rfl trivial)))))) (hK9 (jX8_needed I i2) 0 I h)
set_option maxHeartbeats 4000000 in
set_option maxRecDepth 100000 in
theorem sX0_linesHold_9 (d : Nat) {T : Topo} (hT : Lay T) (b : Nat) (i2 : Nat) (a3 : Int32) (a4 : Int32) (hb : isBk b) (hi2 : i2 < 8)   {Q : Int32 → Topo → IM → Prop} {K9 : Int32 → Int32 → IM → Prop} (hK9 : ∀ (v5 v6 : Int32) (I : IM), K9 v5 v6 I → J (d + 3) mX0_linesHold (PI Q) 0 0 9 [some (.ref b), some (.ref 1), none, some (.int a3), some (.int a4), some (.int v5), some (.int v6)] [] T I 0 0) (v5 v6 : Int32) (I : IM) (h : fX0_linesHold_9 T b i2 a3 a4 Q K9 v5 v6 I) : J (d + 3) mX0_linesHold (PI Q) 0 0 9 [some (.ref b), some (.ref 1), none, some (.int a3), some (.int a4), some (.int v5), some (.int v6)] [] T I 0 0 := by
  unfold fX0_linesHold_9 at h
  refine J.iload dX0_linesHold_9 rfl ?_
  refine J.aload_n dX0_linesHold_11 rfl rfl ?_
  refine J.getI dX0_linesHold_12 fX0_24 (hT.bookK hb) rfl ?_
  refine J.icmp_ge (tgt := 49) dX0_linesHold_15 (by decide) (fun hc1 => ?_) (fun hc1 => ?_)
  · have h := h.1 hc1
    refine J.iconst (v := 1) dX0_linesHold_49 (by decide) ?_
    exact J.zretQ dX0_linesHold_50 rfl (Or.inr rfl) (Nat.le_refl _) (Nat.le_refl _) h
  · have h := h.2 hc1
    refine J.iload dX0_linesHold_18 rfl ?_
    refine J.iload dX0_linesHold_20 rfl ?_
    refine J.callSP (as := [.int a4, .int v6]) (rest := []) dX0_linesHold_22 kX11_has vX11_has lX0_52 rfl rfl rfl (by omega) (Nat.le_refl _) (Nat.le_refl _) (qX11_has (d + 2) hT a4 v6 ) ?_
    refine J.bz_eq (tgt := 43) dX0_linesHold_25 (by decide) (fun hc2 => ?_) (fun hc2 => ?_)
    · have h := h.1 hc2
      refine J.iinc (v := (v6 + 1)) (ls' := [some (.ref b), some (.ref 1), none, some (.int a3), some (.int a4), some (.int v5), some (.int (v6 + 1))]) dX0_linesHold_43 rfl (by rfl) rfl ?_
      refine J.goto (tgt := 9) dX0_linesHold_46 (by decide) ?_
      exact J.weaken (ls' := [some (.ref b), some (.ref 1), none, some (.int a3), some (.int a4), some (.int v5), some (.int (v6 + 1))]) (And.intro rfl (And.intro rfl (And.intro rfl (And.intro rfl (And.intro rfl (And.intro rfl trivial)))))) (hK9 v5 (v6 + 1) I h)
    · have h := h.2 hc2
      refine J.aload_n dX0_linesHold_28 rfl rfl ?_
      refine J.aload_n dX0_linesHold_29 rfl rfl ?_
      refine J.iload_n dX0_linesHold_30 rfl rfl ?_
      refine J.iload dX0_linesHold_31 rfl ?_
      refine J.iload dX0_linesHold_33 rfl ?_
      obtain ⟨hp3, h⟩ := h
      refine J.callVP (k := b) (as := [.ref 1, .int a3, .int v5, .int v6]) (rest := []) dX0_linesHold_35 kX0_linesHoldAt vX0_linesHoldAt lX0_56 (hT.bookK hb) rfl rfl rfl rfl rfl (by omega) (Nat.le_refl _) (Nat.le_refl _) (qX0_linesHoldAt (d + 0) hT b hb a3 v5 v6 hp3) ?_
      refine J.if_ne (tgt := 43) dX0_linesHold_38 (by decide) (fun hc4 => ?_) (fun hc4 => ?_)
      · have h := h.1 hc4
        refine J.iinc (v := (v6 + 1)) (ls' := [some (.ref b), some (.ref 1), none, some (.int a3), some (.int a4), some (.int v5), some (.int (v6 + 1))]) dX0_linesHold_43 rfl (by rfl) rfl ?_
        refine J.goto (tgt := 9) dX0_linesHold_46 (by decide) ?_
        exact J.weaken (ls' := [some (.ref b), some (.ref 1), none, some (.int a3), some (.int a4), some (.int v5), some (.int (v6 + 1))]) (And.intro rfl (And.intro rfl (And.intro rfl (And.intro rfl (And.intro rfl (And.intro rfl trivial)))))) (hK9 v5 (v6 + 1) I h)
      · have h := h.2 hc4
        refine J.iconst (v := 0) dX0_linesHold_41 (by decide) ?_
        exact J.zretQ dX0_linesHold_42 rfl (Or.inl rfl) (Nat.le_refl _) (Nat.le_refl _) h
set_option maxHeartbeats 4000000 in
set_option maxRecDepth 100000 in
theorem wX0_linesHold (d : Nat) {T : Topo} (hT : Lay T) (b : Nat) (i2 : Nat) (a3 : Int32) (a4 : Int32) (hb : isBk b) (hi2 : i2 < 8)  {Q : Int32 → Topo → IM → Prop} (V9 : Int32 → Int32 → IM → Prop) (μ9 : Int32 → Int32 → IM → Nat) (vc9 : ∀ (v5 v6 : Int32) (I : IM), V9 v5 v6 I → fX0_linesHold_9 T b i2 a3 a4 Q (fun w5 w6 I_ => V9 w5 w6 I_ ∧ μ9 w5 w6 I_ < μ9 v5 v6 I) v5 v6 I) {I : IM} (h : fX0_linesHold_0 T b i2 a3 a4 Q V9 I) : Ct (d + 3) mX0_linesHold [.ref b, .ref 1, .ref (17 + 4 * i2), .int a3, .int a4] T I 0 0 (PI Q) := by
  have all : ∀ n : Nat, (∀ (v5 v6 : Int32) (I : IM), V9 v5 v6 I → μ9 v5 v6 I < n → J (d + 3) mX0_linesHold (PI Q) 0 0 9 [some (.ref b), some (.ref 1), none, some (.int a3), some (.int a4), some (.int v5), some (.int v6)] [] T I 0 0) := by
    intro n
    induction n with
    | zero => exact fun _ _ _ _ hn => absurd hn (Nat.not_lt_zero _)
    | succ n ih =>
      exact fun v5 v6 I hv hn => sX0_linesHold_9 d hT b i2 a3 a4 hb hi2  (fun w5 w6 I_ hw => ih w5 w6 I_ hw.1 (by have := hw.2; omega)) v5 v6 I (vc9 v5 v6 I hv)
  exact Ct.ofJ (by decide +kernel) rfl (by intro v hv; revert v hv; simp [Value.category]) rfl (sX0_linesHold_0 d hT b i2 a3 a4 hb hi2  (fun w5 w6 I_ hw => (all (μ9 w5 w6 I_ + 1)) w5 w6 I_ hw (Nat.lt_succ_self _)) I h)

def jX0_linesHoldI (b : Nat) (i2 : Nat) (a3 : Int32) (a4 : Int32) : Nat → Int32 → Int32 → IM → Int32
  | 0 => fun _ _ I => 0
  | n + 1 => fun v5 v6 I => (if (I b 4) ≤ v6 then 1 else (if hs a4 v6 then (if (jX0_linesHoldAt I b a3 v5 v6) = 0 then 0 else (jX0_linesHoldI b i2 a3 a4 n v5 (v6 + 1) I)) else (jX0_linesHoldI b i2 a3 a4 n v5 (v6 + 1) I)))
def jX0_linesHoldO (b : Nat) (i2 : Nat) (a3 : Int32) (a4 : Int32) : Nat → Int32 → Int32 → IM → Prop
  | 0 => fun _ _ _ => False
  | n + 1 => fun v5 v6 I => ((((I b 4) ≤ v6) → True) ∧ ((¬ (I b 4) ≤ v6) → (((¬ (hs a4 v6)) → (jX0_linesHoldO b i2 a3 a4 n v5 (v6 + 1) I)) ∧ ((hs a4 v6) → (((jX0_linesHoldAtK I b a3 v5 v6)) ∧ (((¬ (jX0_linesHoldAt I b a3 v5 v6) = 0) → (jX0_linesHoldO b i2 a3 a4 n v5 (v6 + 1) I)) ∧ (((jX0_linesHoldAt I b a3 v5 v6) = 0) → True)))))))
theorem jX0_linesHoldI_9 (b : Nat) (i2 : Nat) (a3 : Int32) (a4 : Int32) (n : Nat) (v5 v6 : Int32) (I : IM) : jX0_linesHoldI b i2 a3 a4 (n + 1) v5 v6 I = (if (I b 4) ≤ v6 then 1 else (if hs a4 v6 then (if (jX0_linesHoldAt I b a3 v5 v6) = 0 then 0 else (jX0_linesHoldI b i2 a3 a4 n v5 (v6 + 1) I)) else (jX0_linesHoldI b i2 a3 a4 n v5 (v6 + 1) I))) := rfl
theorem jX0_linesHoldO_9 (b : Nat) (i2 : Nat) (a3 : Int32) (a4 : Int32) (n : Nat) (v5 v6 : Int32) (I : IM) : jX0_linesHoldO b i2 a3 a4 (n + 1) v5 v6 I = ((((I b 4) ≤ v6) → True) ∧ ((¬ (I b 4) ≤ v6) → (((¬ (hs a4 v6)) → (jX0_linesHoldO b i2 a3 a4 n v5 (v6 + 1) I)) ∧ ((hs a4 v6) → (((jX0_linesHoldAtK I b a3 v5 v6)) ∧ (((¬ (jX0_linesHoldAt I b a3 v5 v6) = 0) → (jX0_linesHoldO b i2 a3 a4 n v5 (v6 + 1) I)) ∧ (((jX0_linesHoldAt I b a3 v5 v6) = 0) → True))))))) := rfl
def jX0_linesHold (I : IM) (b : Nat) (i2 : Nat) (a3 : Int32) (a4 : Int32) : Int32 := (jX0_linesHoldI b i2 a3 a4 FU (jX8_needed I i2) 0 I)
def jX0_linesHoldK (I : IM) (b : Nat) (i2 : Nat) (a3 : Int32) (a4 : Int32) : Prop := (jX0_linesHoldO b i2 a3 a4 FU (jX8_needed I i2) 0 I)
set_option maxRecDepth 10000 in
set_option maxHeartbeats 1000000 in
theorem uX0_linesHold (d : Nat) {T : Topo} (hT : Lay T) (b : Nat) (i2 : Nat) (a3 : Int32) (a4 : Int32) (hb : isBk b) (hi2 : i2 < 8)  {R : Int32} {I00 : IM} : ∀ n : Nat, (∀ (v5 v6 : Int32) (I : IM), I = I00 → jX0_linesHoldO b i2 a3 a4 n v5 v6 I → jX0_linesHoldI b i2 a3 a4 n v5 v6 I = R → J (d + 3) mX0_linesHold (PI (fun x T' I' => x = R ∧ T' = T ∧ I' = I00)) 0 0 9 [some (.ref b), some (.ref 1), none, some (.int a3), some (.int a4), some (.int v5), some (.int v6)] [] T I 0 0) := by
  intro n
  induction n with
  | zero => exact fun _ _ _ _ hz => hz.elim
  | succ n ih =>
    exact fun v5 v6 I hI hok hit => by
        rw [jX0_linesHoldO_9] at hok
        exact sX0_linesHold_9 d hT b i2 a3 a4 hb hi2  (K9 := fun w5 w6 I_ => (jX0_linesHoldO b i2 a3 a4 n w5 w6 I_ ∧ jX0_linesHoldI b i2 a3 a4 n w5 w6 I_ = R) ∧ I_ = I00) (fun w5 w6 I_ hw => ih w5 w6 I_ hw.2 hw.1.1 hw.1.2) v5 v6 I (by
          unfold fX0_linesHold_9
          exact ⟨fun hc1 => ⟨by rw [jX0_linesHoldI_9, if_pos hc1] at hit; exact hit, rfl, hI⟩, fun hc1 => ⟨fun hc2 => ⟨⟨((hok).2 hc1).1 hc2, by rw [jX0_linesHoldI_9, if_neg hc1, if_neg hc2] at hit; exact hit⟩, hI⟩, fun hc2 => ⟨(((hok).2 hc1).2 hc2).1, ⟨fun hc3 => ⟨⟨((((hok).2 hc1).2 hc2).2).1 hc3, by rw [jX0_linesHoldI_9, if_neg hc1, if_pos hc2, if_neg hc3] at hit; exact hit⟩, hI⟩, fun hc3 => ⟨by rw [jX0_linesHoldI_9, if_neg hc1, if_pos hc2, if_pos hc3] at hit; exact hit, rfl, hI⟩⟩⟩⟩⟩)
set_option maxRecDepth 10000 in
set_option maxHeartbeats 1000000 in
theorem qX0_linesHold (d : Nat) {T : Topo} {I : IM} (hT : Lay T) (b : Nat) (hb : isBk b) (i2 : Nat) (hi2 : i2 < 8) (a3 : Int32) (a4 : Int32)  (hp : (jX0_linesHoldK I b i2 a3 a4)) : CtP (d + 3) mX0_linesHold [.ref b, .ref 1, .ref (17 + 4 * i2), .int a3, .int a4] T I (jX0_linesHold I b i2 a3 a4) := by
  unfold jX0_linesHoldK at hp
  exact Ct.ofJ (by decide +kernel) rfl (by intro v hv; revert v hv; simp [Value.category]) rfl (sX0_linesHold_0 d hT b i2 a3 a4 hb hi2  (K9 := fun w5 w6 I_ => (jX0_linesHoldO b i2 a3 a4 FU w5 w6 I_ ∧ jX0_linesHoldI b i2 a3 a4 FU w5 w6 I_ = (jX0_linesHold I b i2 a3 a4)) ∧ I_ = I) (fun w5 w6 I_ hw => uX0_linesHold d hT b i2 a3 a4 hb hi2  FU w5 w6 I_ hw.2 hw.1.1 hw.1.2) I (by
    unfold fX0_linesHold_0
    exact ⟨⟨hp, rfl⟩, rfl⟩))

def fX0_enter_0 (T : Topo) (b : Nat) (i2 : Nat) (a3 : Int32) (a4 : Int32) (a5 : Int32) (Q : Topo → IM → Prop) (K18 : Int32 → Int32 → Int32 → IM → Prop) (I : IM) : Prop :=
  ((K18 ((jX8_needed I i2) * a5) (jHostOf a3) 0 I))
def fX0_enter_18 (T : Topo) (b : Nat) (i2 : Nat) (a3 : Int32) (a4 : Int32) (a5 : Int32) (Q : Topo → IM → Prop) (K18 : Int32 → Int32 → Int32 → IM → Prop) (v6 v7 v8 : Int32) (I : IM) : Prop :=
  ((((I b 4) ≤ v8) → Q T I) ∧ ((¬ (I b 4) ≤ v8) → ((((¬ (hs a4 v8)) → K18 v6 v7 (v8 + 1) I) ∧ ((hs a4 v8) → (((jX0_enterLinesK I b a3 v6 v8)) ∧ (vp_in ((v8 * 6) + v7) 144 ∧ (vp_in ((v8 * 6) + v7) 144 ∧ K18 v6 v7 (v8 + 1) (up2 (jX0_enterLines I b a3 v6 v8) (b + 1 + 3) ((v8 * 6) + v7).toNatClampNeg (((jX0_enterLines I b a3 v6 v8) (b + 1 + 3) ((v8 * 6) + v7).toNatClampNeg) + (((jX0_enterLines I b a3 v6 v8) (17 + 4 * i2) 6) * a5)))))))))))
set_option maxHeartbeats 4000000 in
set_option maxRecDepth 100000 in
theorem sX0_enter_0 (d : Nat) {T : Topo} (hT : Lay T) (b : Nat) (i2 : Nat) (a3 : Int32) (a4 : Int32) (a5 : Int32) (hb : isBk b) (hi2 : i2 < 8)   {Q : Topo → IM → Prop} {K18 : Int32 → Int32 → Int32 → IM → Prop} (hK18 : ∀ (v6 v7 v8 : Int32) (I : IM), K18 v6 v7 v8 I → J (d + 3) mX0_enter (PV Q) 0 0 18 [some (.ref b), some (.ref 1), some (.ref (17 + 4 * i2)), some (.int a3), some (.int a4), some (.int a5), some (.int v6), some (.int v7), some (.int v8)] [] T I 0 0) (I : IM) (h : fX0_enter_0 T b i2 a3 a4 a5 Q K18 I) : J (d + 3) mX0_enter (PV Q) 0 0 0 [some (.ref b), some (.ref 1), some (.ref (17 + 4 * i2)), some (.int a3), some (.int a4), some (.int a5), none, none, none] [] T I 0 0 := by
  unfold fX0_enter_0 at h
  refine J.aload_n dX0_enter_0 rfl rfl ?_
  refine J.callVP (k := (17 + 4 * i2)) (as := []) (rest := []) dX0_enter_1 kX8_needed vX8_needed lX0_46 (hT.sliceK hi2) rfl rfl rfl rfl rfl (by omega) (Nat.le_refl _) (Nat.le_refl _) (qX8_needed (d + 2) hT i2 hi2 ) ?_
  refine J.iload dX0_enter_4 rfl ?_
  refine J.imul dX0_enter_6 ?_
  refine J.istore (ls' := [some (.ref b), some (.ref 1), some (.ref (17 + 4 * i2)), some (.int a3), some (.int a4), some (.int a5), some (.int ((jX8_needed I i2) * a5)), none, none]) dX0_enter_7 rfl rfl ?_
  refine J.iload_n dX0_enter_9 rfl rfl ?_
  refine J.callSP (as := [.int a3]) (rest := []) dX0_enter_10 kX11_hostOf vX11_hostOf lX0_60 rfl rfl rfl (by omega) (Nat.le_refl _) (Nat.le_refl _) (qX11_hostOf (d + 2) hT a3 ) ?_
  refine J.istore (ls' := [some (.ref b), some (.ref 1), some (.ref (17 + 4 * i2)), some (.int a3), some (.int a4), some (.int a5), some (.int ((jX8_needed I i2) * a5)), some (.int (jHostOf a3)), none]) dX0_enter_13 rfl rfl ?_
  refine J.iconst (v := 0) dX0_enter_15 (by decide) ?_
  refine J.istore (ls' := [some (.ref b), some (.ref 1), some (.ref (17 + 4 * i2)), some (.int a3), some (.int a4), some (.int a5), some (.int ((jX8_needed I i2) * a5)), some (.int (jHostOf a3)), some (.int 0)]) dX0_enter_16 rfl rfl ?_
  exact J.weaken (ls' := [some (.ref b), some (.ref 1), some (.ref (17 + 4 * i2)), some (.int a3), some (.int a4), some (.int a5), some (.int ((jX8_needed I i2) * a5)), some (.int (jHostOf a3)), some (.int 0)]) (And.intro rfl (And.intro rfl (And.intro rfl (And.intro rfl (And.intro rfl (And.intro rfl (And.intro rfl (And.intro rfl (And.intro rfl trivial))))))))) (hK18 ((jX8_needed I i2) * a5) (jHostOf a3) 0 I h)
set_option maxHeartbeats 4000000 in
set_option maxRecDepth 100000 in
theorem sX0_enter_18 (d : Nat) {T : Topo} (hT : Lay T) (b : Nat) (i2 : Nat) (a3 : Int32) (a4 : Int32) (a5 : Int32) (hb : isBk b) (hi2 : i2 < 8)   {Q : Topo → IM → Prop} {K18 : Int32 → Int32 → Int32 → IM → Prop} (hK18 : ∀ (v6 v7 v8 : Int32) (I : IM), K18 v6 v7 v8 I → J (d + 3) mX0_enter (PV Q) 0 0 18 [some (.ref b), some (.ref 1), some (.ref (17 + 4 * i2)), some (.int a3), some (.int a4), some (.int a5), some (.int v6), some (.int v7), some (.int v8)] [] T I 0 0) (v6 v7 v8 : Int32) (I : IM) (h : fX0_enter_18 T b i2 a3 a4 a5 Q K18 v6 v7 v8 I) : J (d + 3) mX0_enter (PV Q) 0 0 18 [some (.ref b), some (.ref 1), some (.ref (17 + 4 * i2)), some (.int a3), some (.int a4), some (.int a5), some (.int v6), some (.int v7), some (.int v8)] [] T I 0 0 := by
  unfold fX0_enter_18 at h
  refine J.iload dX0_enter_18 rfl ?_
  refine J.aload_n dX0_enter_20 rfl rfl ?_
  refine J.getI dX0_enter_21 fX0_24 (hT.bookK hb) rfl ?_
  refine J.icmp_ge (tgt := 76) dX0_enter_24 (by decide) (fun hc1 => ?_) (fun hc1 => ?_)
  · have h := h.1 hc1
    exact J.vretQ dX0_enter_76 rfl (Nat.le_refl _) (Nat.le_refl _) h
  · have h := h.2 hc1
    refine J.iload dX0_enter_27 rfl ?_
    refine J.iload dX0_enter_29 rfl ?_
    refine J.callSP (as := [.int a4, .int v8]) (rest := []) dX0_enter_31 kX11_has vX11_has lX0_52 rfl rfl rfl (by omega) (Nat.le_refl _) (Nat.le_refl _) (qX11_has (d + 2) hT a4 v8 ) ?_
    refine J.bz_eq (tgt := 70) dX0_enter_34 (by decide) (fun hc2 => ?_) (fun hc2 => ?_)
    · have h := h.1 hc2
      refine J.iinc (v := (v8 + 1)) (ls' := [some (.ref b), some (.ref 1), some (.ref (17 + 4 * i2)), some (.int a3), some (.int a4), some (.int a5), some (.int v6), some (.int v7), some (.int (v8 + 1))]) dX0_enter_70 rfl (by rfl) rfl ?_
      refine J.goto (tgt := 18) dX0_enter_73 (by decide) ?_
      exact J.weaken (ls' := [some (.ref b), some (.ref 1), some (.ref (17 + 4 * i2)), some (.int a3), some (.int a4), some (.int a5), some (.int v6), some (.int v7), some (.int (v8 + 1))]) (And.intro rfl (And.intro rfl (And.intro rfl (And.intro rfl (And.intro rfl (And.intro rfl (And.intro rfl (And.intro rfl (And.intro rfl trivial))))))))) (hK18 v6 v7 (v8 + 1) I h)
    · have h := h.2 hc2
      refine J.aload_n dX0_enter_37 rfl rfl ?_
      refine J.aload_n dX0_enter_38 rfl rfl ?_
      refine J.iload_n dX0_enter_39 rfl rfl ?_
      refine J.iload dX0_enter_40 rfl ?_
      refine J.iload dX0_enter_42 rfl ?_
      obtain ⟨hp3, h⟩ := h
      refine J.callVD (k := b) (as := [.ref 1, .int a3, .int v6, .int v8]) (rest := []) dX0_enter_44 kX0_enterLines vX0_enterLines lX0_91 (hT.bookK hb) rfl rfl rfl rfl rfl (by omega) (Nat.le_refl _) (Nat.le_refl _) (qX0_enterLines (d + 0) hT b hb a3 v6 v8 hp3) ?_
      refine J.aload_n dX0_enter_47 rfl rfl ?_
      refine J.getR (r := (b + 1 + 3)) dX0_enter_48 fX0_21 (hT.bookK hb) rfl (hT.bookR hb 3 rfl) ?_
      refine J.iload dX0_enter_51 rfl ?_
      refine J.bipush (v := 6) dX0_enter_53 (by decide) ?_
      refine J.imul dX0_enter_55 ?_
      refine J.iload dX0_enter_56 rfl ?_
      refine J.iadd dX0_enter_58 ?_
      refine J.atpc (pc' := 59) rfl ?_
      refine J.dup2 dX0_enter_59 rfl rfl ?_
      obtain ⟨hs4, h⟩ := h
      refine J.iald dX0_enter_60 (hT.bookA hb 3 rfl) (hT.bookL hb 3 rfl) hs4 ?_
      refine J.aload_n dX0_enter_61 rfl rfl ?_
      refine J.getI dX0_enter_62 fX0_67 (hT.sliceK hi2) rfl ?_
      refine J.iload dX0_enter_65 rfl ?_
      refine J.imul dX0_enter_67 ?_
      refine J.iadd dX0_enter_68 ?_
      obtain ⟨hs5, h⟩ := h
      refine J.iast dX0_enter_69 (hT.bookA hb 3 rfl) (hT.bookL hb 3 rfl) hs5 ?_
      refine J.iinc (v := (v8 + 1)) (ls' := [some (.ref b), some (.ref 1), some (.ref (17 + 4 * i2)), some (.int a3), some (.int a4), some (.int a5), some (.int v6), some (.int v7), some (.int (v8 + 1))]) dX0_enter_70 rfl (by rfl) rfl ?_
      refine J.goto (tgt := 18) dX0_enter_73 (by decide) ?_
      exact J.weaken (ls' := [some (.ref b), some (.ref 1), some (.ref (17 + 4 * i2)), some (.int a3), some (.int a4), some (.int a5), some (.int v6), some (.int v7), some (.int (v8 + 1))]) (And.intro rfl (And.intro rfl (And.intro rfl (And.intro rfl (And.intro rfl (And.intro rfl (And.intro rfl (And.intro rfl (And.intro rfl trivial))))))))) (hK18 v6 v7 (v8 + 1) (up2 (jX0_enterLines I b a3 v6 v8) (b + 1 + 3) ((v8 * 6) + v7).toNatClampNeg (((jX0_enterLines I b a3 v6 v8) (b + 1 + 3) ((v8 * 6) + v7).toNatClampNeg) + (((jX0_enterLines I b a3 v6 v8) (17 + 4 * i2) 6) * a5))) h)
set_option maxHeartbeats 4000000 in
set_option maxRecDepth 100000 in
theorem wX0_enter (d : Nat) {T : Topo} (hT : Lay T) (b : Nat) (i2 : Nat) (a3 : Int32) (a4 : Int32) (a5 : Int32) (hb : isBk b) (hi2 : i2 < 8)  {Q : Topo → IM → Prop} (V18 : Int32 → Int32 → Int32 → IM → Prop) (μ18 : Int32 → Int32 → Int32 → IM → Nat) (vc18 : ∀ (v6 v7 v8 : Int32) (I : IM), V18 v6 v7 v8 I → fX0_enter_18 T b i2 a3 a4 a5 Q (fun w6 w7 w8 I_ => V18 w6 w7 w8 I_ ∧ μ18 w6 w7 w8 I_ < μ18 v6 v7 v8 I) v6 v7 v8 I) {I : IM} (h : fX0_enter_0 T b i2 a3 a4 a5 Q V18 I) : Ct (d + 3) mX0_enter [.ref b, .ref 1, .ref (17 + 4 * i2), .int a3, .int a4, .int a5] T I 0 0 (PV Q) := by
  have all : ∀ n : Nat, (∀ (v6 v7 v8 : Int32) (I : IM), V18 v6 v7 v8 I → μ18 v6 v7 v8 I < n → J (d + 3) mX0_enter (PV Q) 0 0 18 [some (.ref b), some (.ref 1), some (.ref (17 + 4 * i2)), some (.int a3), some (.int a4), some (.int a5), some (.int v6), some (.int v7), some (.int v8)] [] T I 0 0) := by
    intro n
    induction n with
    | zero => exact fun _ _ _ _ _ hn => absurd hn (Nat.not_lt_zero _)
    | succ n ih =>
      exact fun v6 v7 v8 I hv hn => sX0_enter_18 d hT b i2 a3 a4 a5 hb hi2  (fun w6 w7 w8 I_ hw => ih w6 w7 w8 I_ hw.1 (by have := hw.2; omega)) v6 v7 v8 I (vc18 v6 v7 v8 I hv)
  exact Ct.ofJ (by decide +kernel) rfl (by intro v hv; revert v hv; simp [Value.category]) rfl (sX0_enter_0 d hT b i2 a3 a4 a5 hb hi2  (fun w6 w7 w8 I_ hw => (all (μ18 w6 w7 w8 I_ + 1)) w6 w7 w8 I_ hw (Nat.lt_succ_self _)) I h)

def jX0_enterI (b : Nat) (i2 : Nat) (a3 : Int32) (a4 : Int32) (a5 : Int32) : Nat → Int32 → Int32 → Int32 → IM → IM
  | 0 => fun _ _ _ I => I
  | n + 1 => fun v6 v7 v8 I => (if (I b 4) ≤ v8 then I else (if hs a4 v8 then (jX0_enterI b i2 a3 a4 a5 n v6 v7 (v8 + 1) (up2 (jX0_enterLines I b a3 v6 v8) (b + 1 + 3) ((v8 * 6) + v7).toNatClampNeg (((jX0_enterLines I b a3 v6 v8) (b + 1 + 3) ((v8 * 6) + v7).toNatClampNeg) + (((jX0_enterLines I b a3 v6 v8) (17 + 4 * i2) 6) * a5)))) else (jX0_enterI b i2 a3 a4 a5 n v6 v7 (v8 + 1) I)))
def jX0_enterO (b : Nat) (i2 : Nat) (a3 : Int32) (a4 : Int32) (a5 : Int32) : Nat → Int32 → Int32 → Int32 → IM → Prop
  | 0 => fun _ _ _ _ => False
  | n + 1 => fun v6 v7 v8 I => ((((I b 4) ≤ v8) → True) ∧ ((¬ (I b 4) ≤ v8) → (((¬ (hs a4 v8)) → (jX0_enterO b i2 a3 a4 a5 n v6 v7 (v8 + 1) I)) ∧ ((hs a4 v8) → (((jX0_enterLinesK I b a3 v6 v8)) ∧ (vp_in ((v8 * 6) + v7) 144 ∧ (vp_in ((v8 * 6) + v7) 144 ∧ (jX0_enterO b i2 a3 a4 a5 n v6 v7 (v8 + 1) (up2 (jX0_enterLines I b a3 v6 v8) (b + 1 + 3) ((v8 * 6) + v7).toNatClampNeg (((jX0_enterLines I b a3 v6 v8) (b + 1 + 3) ((v8 * 6) + v7).toNatClampNeg) + (((jX0_enterLines I b a3 v6 v8) (17 + 4 * i2) 6) * a5)))))))))))
theorem jX0_enterI_18 (b : Nat) (i2 : Nat) (a3 : Int32) (a4 : Int32) (a5 : Int32) (n : Nat) (v6 v7 v8 : Int32) (I : IM) : jX0_enterI b i2 a3 a4 a5 (n + 1) v6 v7 v8 I = (if (I b 4) ≤ v8 then I else (if hs a4 v8 then (jX0_enterI b i2 a3 a4 a5 n v6 v7 (v8 + 1) (up2 (jX0_enterLines I b a3 v6 v8) (b + 1 + 3) ((v8 * 6) + v7).toNatClampNeg (((jX0_enterLines I b a3 v6 v8) (b + 1 + 3) ((v8 * 6) + v7).toNatClampNeg) + (((jX0_enterLines I b a3 v6 v8) (17 + 4 * i2) 6) * a5)))) else (jX0_enterI b i2 a3 a4 a5 n v6 v7 (v8 + 1) I))) := rfl
theorem jX0_enterO_18 (b : Nat) (i2 : Nat) (a3 : Int32) (a4 : Int32) (a5 : Int32) (n : Nat) (v6 v7 v8 : Int32) (I : IM) : jX0_enterO b i2 a3 a4 a5 (n + 1) v6 v7 v8 I = ((((I b 4) ≤ v8) → True) ∧ ((¬ (I b 4) ≤ v8) → (((¬ (hs a4 v8)) → (jX0_enterO b i2 a3 a4 a5 n v6 v7 (v8 + 1) I)) ∧ ((hs a4 v8) → (((jX0_enterLinesK I b a3 v6 v8)) ∧ (vp_in ((v8 * 6) + v7) 144 ∧ (vp_in ((v8 * 6) + v7) 144 ∧ (jX0_enterO b i2 a3 a4 a5 n v6 v7 (v8 + 1) (up2 (jX0_enterLines I b a3 v6 v8) (b + 1 + 3) ((v8 * 6) + v7).toNatClampNeg (((jX0_enterLines I b a3 v6 v8) (b + 1 + 3) ((v8 * 6) + v7).toNatClampNeg) + (((jX0_enterLines I b a3 v6 v8) (17 + 4 * i2) 6) * a5))))))))))) := rfl
def jX0_enter (I : IM) (b : Nat) (i2 : Nat) (a3 : Int32) (a4 : Int32) (a5 : Int32) : IM := (jX0_enterI b i2 a3 a4 a5 FU ((jX8_needed I i2) * a5) (jHostOf a3) 0 I)
def jX0_enterK (I : IM) (b : Nat) (i2 : Nat) (a3 : Int32) (a4 : Int32) (a5 : Int32) : Prop := (jX0_enterO b i2 a3 a4 a5 FU ((jX8_needed I i2) * a5) (jHostOf a3) 0 I)
set_option maxRecDepth 10000 in
set_option maxHeartbeats 1000000 in
theorem uX0_enter (d : Nat) {T : Topo} (hT : Lay T) (b : Nat) (i2 : Nat) (a3 : Int32) (a4 : Int32) (a5 : Int32) (hb : isBk b) (hi2 : i2 < 8)  {R : IM} : ∀ n : Nat, (∀ (v6 v7 v8 : Int32) (I : IM), jX0_enterO b i2 a3 a4 a5 n v6 v7 v8 I → jX0_enterI b i2 a3 a4 a5 n v6 v7 v8 I = R → J (d + 3) mX0_enter (PV (fun T' I' => T' = T ∧ I' = R)) 0 0 18 [some (.ref b), some (.ref 1), some (.ref (17 + 4 * i2)), some (.int a3), some (.int a4), some (.int a5), some (.int v6), some (.int v7), some (.int v8)] [] T I 0 0) := by
  intro n
  induction n with
  | zero => exact fun _ _ _ _ hz => hz.elim
  | succ n ih =>
    exact fun v6 v7 v8 I hok hit => by
        rw [jX0_enterO_18] at hok
        exact sX0_enter_18 d hT b i2 a3 a4 a5 hb hi2  (K18 := fun w6 w7 w8 I_ => (jX0_enterO b i2 a3 a4 a5 n w6 w7 w8 I_ ∧ jX0_enterI b i2 a3 a4 a5 n w6 w7 w8 I_ = R)) (fun w6 w7 w8 I_ hw => ih w6 w7 w8 I_ hw.1 hw.2) v6 v7 v8 I (by
          unfold fX0_enter_18
          exact ⟨fun hc1 => ⟨rfl, by rw [jX0_enterI_18, if_pos hc1] at hit; exact hit⟩, fun hc1 => ⟨fun hc2 => ⟨((hok).2 hc1).1 hc2, by rw [jX0_enterI_18, if_neg hc1, if_neg hc2] at hit; exact hit⟩, fun hc2 => ⟨(((hok).2 hc1).2 hc2).1, ⟨((((hok).2 hc1).2 hc2).2).1, ⟨(((((hok).2 hc1).2 hc2).2).2).1, ⟨(((((hok).2 hc1).2 hc2).2).2).2, by rw [jX0_enterI_18, if_neg hc1, if_pos hc2] at hit; exact hit⟩⟩⟩⟩⟩⟩)
set_option maxRecDepth 10000 in
set_option maxHeartbeats 1000000 in
theorem qX0_enter (d : Nat) {T : Topo} {I : IM} (hT : Lay T) (b : Nat) (hb : isBk b) (i2 : Nat) (hi2 : i2 < 8) (a3 : Int32) (a4 : Int32) (a5 : Int32)  (hp : (jX0_enterK I b i2 a3 a4 a5)) : CtV (d + 3) mX0_enter [.ref b, .ref 1, .ref (17 + 4 * i2), .int a3, .int a4, .int a5] T I (fun J_ => J_ = (jX0_enter I b i2 a3 a4 a5)) := by
  unfold jX0_enterK at hp
  exact Ct.ofJ (by decide +kernel) rfl (by intro v hv; revert v hv; simp [Value.category]) rfl (sX0_enter_0 d hT b i2 a3 a4 a5 hb hi2  (K18 := fun w6 w7 w8 I_ => (jX0_enterO b i2 a3 a4 a5 FU w6 w7 w8 I_ ∧ jX0_enterI b i2 a3 a4 a5 FU w6 w7 w8 I_ = (jX0_enter I b i2 a3 a4 a5))) (fun w6 w7 w8 I_ hw => uX0_enter d hT b i2 a3 a4 a5 hb hi2  FU w6 w7 w8 I_ hw.1 hw.2) I (by
    unfold fX0_enter_0
    exact ⟨hp, rfl⟩))

end
