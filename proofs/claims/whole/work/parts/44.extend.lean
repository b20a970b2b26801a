noncomputable section
def fX10_extend_0 (T : Topo) (a2 : Int32) (a3 : Int32) (a4 : Int32) (a5 : Int32) (E : IM → Int32 → Int32 → Int32 → Int32 → IM) (EK : IM → Int32 → Int32 → Int32 → Int32 → Prop) (Q : Topo → IM → Prop) (K25 : Int32 → IM → Prop) (I : IM) : Prop :=
  (((¬ a2 = (I 4 2)) → (((a5 < 5) → K25 0 I) ∧ ((¬ a5 < 5) → Q T I))) ∧ ((a2 = (I 4 2)) → (((jInsertK I a4)) ∧ Q T (jInsert I a4))))
def fX10_extend_25 (T : Topo) (a2 : Int32) (a3 : Int32) (a4 : Int32) (a5 : Int32) (E : IM → Int32 → Int32 → Int32 → Int32 → IM) (EK : IM → Int32 → Int32 → Int32 → Int32 → Prop) (Q : Topo → IM → Prop) (K25 : Int32 → IM → Prop) (v6 : Int32) (I : IM) : Prop :=
  ((((I 1 4) ≤ v6) → Q T I) ∧ ((¬ (I 1 4) ≤ v6) → ((vp_in v6 9) ∧ (((((jOther I (v6).toNatClampNeg a2) < 0) → K25 (v6 + 1) I) ∧ ((¬ (jOther I (v6).toNatClampNeg a2) < 0) → ((((hs a3 (jOther I (v6).toNatClampNeg a2)) → K25 (v6 + 1) I) ∧ ((¬ (hs a3 (jOther I (v6).toNatClampNeg a2))) → ((((EK I (jOther I (v6).toNatClampNeg a2) (a3 ||| ((1 : Int32) <<< ((jOther I (v6).toNatClampNeg a2) &&& 31))) (jLonger a4 v6 (I (6 + (v6).toNatClampNeg) 3)) (a5 + 1))) ∧ K25 (v6 + 1) (E I (jOther I (v6).toNatClampNeg a2) (a3 ||| ((1 : Int32) <<< ((jOther I (v6).toNatClampNeg a2) &&& 31))) (jLonger a4 v6 (I (6 + (v6).toNatClampNeg) 3)) (a5 + 1)))))))))))))
set_option maxHeartbeats 4000000 in
set_option maxRecDepth 100000 in
theorem sX10_extend_0 (d : Nat) {T : Topo} (hT : Lay T) (a2 : Int32) (a3 : Int32) (a4 : Int32) (a5 : Int32) (E : IM → Int32 → Int32 → Int32 → Int32 → IM) (EK : IM → Int32 → Int32 → Int32 → Int32 → Prop) (dE : Nat) (hdE : dE + 1 ≤ d + 1) (hE : ∀ (I : IM) (b2 b3 b4 b5 : Int32), EK I b2 b3 b4 b5 → CtV dE mX10_extend [.ref 4, .ref 1, .int b2, .int b3, .int b4, .int b5] T I (fun J_ => J_ = E I b2 b3 b4 b5))   {Q : Topo → IM → Prop} {K25 : Int32 → IM → Prop} (hK25 : ∀ (v6 : Int32) (I : IM), K25 v6 I → J (d + 1) mX10_extend (PV Q) 0 0 25 [some (.ref 4), some (.ref 1), some (.int a2), some (.int a3), some (.int a4), some (.int a5), some (.int v6), none, none] [] T I 0 0) (I : IM) (h : fX10_extend_0 T a2 a3 a4 a5 E EK Q K25 I) : J (d + 1) mX10_extend (PV Q) 0 0 0 [some (.ref 4), some (.ref 1), some (.int a2), some (.int a3), some (.int a4), some (.int a5), none, none, none] [] T I 0 0 := by
  unfold fX10_extend_0 at h
  refine J.iload_n dX10_extend_0 rfl rfl ?_
  refine J.aload_n dX10_extend_1 rfl rfl ?_
  refine J.getI dX10_extend_2 fX10_19 (hT.k 4 rfl) rfl ?_
  refine J.icmp_ne (tgt := 15) dX10_extend_5 (by decide) (fun hc1 => ?_) (fun hc1 => ?_)
  · have h := h.1 hc1
    refine J.iload dX10_extend_15 rfl ?_
    refine J.iconst (v := 5) dX10_extend_17 (by decide) ?_
    refine J.icmp_lt (tgt := 22) dX10_extend_18 (by decide) (fun hc2 => ?_) (fun hc2 => ?_)
    · have h := h.1 hc2
      refine J.iconst (v := 0) dX10_extend_22 (by decide) ?_
      refine J.istore (ls' := [some (.ref 4), some (.ref 1), some (.int a2), some (.int a3), some (.int a4), some (.int a5), some (.int 0), none, none]) dX10_extend_23 rfl rfl ?_
      exact J.weaken (ls' := [some (.ref 4), some (.ref 1), some (.int a2), some (.int a3), some (.int a4), some (.int a5), some (.int 0), none, none]) (And.intro rfl (And.intro rfl (And.intro rfl (And.intro rfl (And.intro rfl (And.intro rfl (And.intro rfl trivial))))))) (hK25 0 I h)
    · have h := h.2 hc2
      exact J.vretQ dX10_extend_21 rfl (Nat.le_refl _) (Nat.le_refl _) h
  · have h := h.2 hc1
    refine J.aload_n dX10_extend_8 rfl rfl ?_
    refine J.iload dX10_extend_9 rfl ?_
    obtain ⟨hp3, h⟩ := h
    refine J.callVD (k := 4) (as := [.int a4]) (rest := []) dX10_extend_11 kX10_insert vX10_insert lX10_43 (hT.k 4 rfl) rfl rfl rfl rfl rfl (by omega) (Nat.le_refl _) (Nat.le_refl _) (qX10_insert (d + 0) hT a4 hp3) ?_
    exact J.vretQ dX10_extend_14 rfl (Nat.le_refl _) (Nat.le_refl _) h
set_option maxHeartbeats 4000000 in
set_option maxRecDepth 100000 in
theorem sX10_extend_25 (d : Nat) {T : Topo} (hT : Lay T) (a2 : Int32) (a3 : Int32) (a4 : Int32) (a5 : Int32) (E : IM → Int32 → Int32 → Int32 → Int32 → IM) (EK : IM → Int32 → Int32 → Int32 → Int32 → Prop) (dE : Nat) (hdE : dE + 1 ≤ d + 1) (hE : ∀ (I : IM) (b2 b3 b4 b5 : Int32), EK I b2 b3 b4 b5 → CtV dE mX10_extend [.ref 4, .ref 1, .int b2, .int b3, .int b4, .int b5] T I (fun J_ => J_ = E I b2 b3 b4 b5))   {Q : Topo → IM → Prop} {K25 : Int32 → IM → Prop} (hK25 : ∀ (v6 : Int32) (I : IM), K25 v6 I → J (d + 1) mX10_extend (PV Q) 0 0 25 [some (.ref 4), some (.ref 1), some (.int a2), some (.int a3), some (.int a4), some (.int a5), some (.int v6), none, none] [] T I 0 0) (v6 : Int32) (I : IM) (h : fX10_extend_25 T a2 a3 a4 a5 E EK Q K25 v6 I) : J (d + 1) mX10_extend (PV Q) 0 0 25 [some (.ref 4), some (.ref 1), some (.int a2), some (.int a3), some (.int a4), some (.int a5), some (.int v6), none, none] [] T I 0 0 := by
  unfold fX10_extend_25 at h
  refine J.iload dX10_extend_25 rfl ?_
  refine J.aload_n dX10_extend_27 rfl rfl ?_
  refine J.getI dX10_extend_28 fX10_31 (hT.k 1 rfl) rfl ?_
  refine J.icmp_ge (tgt := 99) dX10_extend_31 (by decide) (fun hc1 => ?_) (fun hc1 => ?_)
  · have h := h.1 hc1
    exact J.vretQ dX10_extend_99 rfl (Nat.le_refl _) (Nat.le_refl _) h
  · have h := h.2 hc1
    refine J.aload_n dX10_extend_34 rfl rfl ?_
    refine J.iload dX10_extend_35 rfl ?_
    obtain ⟨hp2, h⟩ := h
    refine J.callVF (r := (6 + (v6).toNatClampNeg)) (k := 1) (as := [.int v6]) (rest := []) dX10_extend_37 kX5_lineAt vX5_lineAt lX10_47 (hT.k 1 rfl) rfl rfl rfl rfl rfl (by omega) (Nat.le_refl _) (Nat.le_refl _) (qX5_lineAt (d + 0) hT v6 hp2) ?_
    refine J.astore (ls' := [some (.ref 4), some (.ref 1), some (.int a2), some (.int a3), some (.int a4), some (.int a5), some (.int v6), some (.ref (6 + (v6).toNatClampNeg)), none]) dX10_extend_40 rfl rfl ?_
    refine J.aload dX10_extend_42 rfl ?_
    refine J.iload_n dX10_extend_44 rfl rfl ?_
    refine J.callVP (k := (6 + (v6).toNatClampNeg)) (as := [.int a2]) (rest := []) dX10_extend_45 kX4_otherEnd vX4_otherEnd lX10_51 (hT.lineK (vp_lt hp2)) rfl rfl rfl rfl rfl (by omega) (Nat.le_refl _) (Nat.le_refl _) (qX4_otherEnd (d + 0) hT (v6).toNatClampNeg (vp_lt hp2) a2 ) ?_
    refine J.istore (ls' := [some (.ref 4), some (.ref 1), some (.int a2), some (.int a3), some (.int a4), some (.int a5), some (.int v6), some (.ref (6 + (v6).toNatClampNeg)), some (.int (jOther I (v6).toNatClampNeg a2))]) dX10_extend_48 rfl rfl ?_
    refine J.iload dX10_extend_50 rfl ?_
    refine J.if_lt (tgt := 93) dX10_extend_52 (by decide) (fun hc3 => ?_) (fun hc3 => ?_)
    · have h := h.1 hc3
      refine J.iinc (v := (v6 + 1)) (ls' := [some (.ref 4), some (.ref 1), some (.int a2), some (.int a3), some (.int a4), some (.int a5), some (.int (v6 + 1)), some (.ref (6 + (v6).toNatClampNeg)), some (.int (jOther I (v6).toNatClampNeg a2))]) dX10_extend_93 rfl (by rfl) rfl ?_
      refine J.goto (tgt := 25) dX10_extend_96 (by decide) ?_
      exact J.weaken (ls' := [some (.ref 4), some (.ref 1), some (.int a2), some (.int a3), some (.int a4), some (.int a5), some (.int (v6 + 1)), none, none]) (And.intro rfl (And.intro rfl (And.intro rfl (And.intro rfl (And.intro rfl (And.intro rfl (And.intro rfl trivial))))))) (hK25 (v6 + 1) I h)
    · have h := h.2 hc3
      refine J.iload_n dX10_extend_55 rfl rfl ?_
      refine J.iload dX10_extend_56 rfl ?_
      refine J.callSP (as := [.int a3, .int (jOther I (v6).toNatClampNeg a2)]) (rest := []) dX10_extend_58 kX11_has vX11_has lX10_56 rfl rfl rfl (by omega) (Nat.le_refl _) (Nat.le_refl _) (qX11_has (d + 0) hT a3 (jOther I (v6).toNatClampNeg a2) ) ?_
      refine J.bz_ne (tgt := 93) dX10_extend_61 (by decide) (fun hc4 => ?_) (fun hc4 => ?_)
      · have h := h.1 hc4
        refine J.iinc (v := (v6 + 1)) (ls' := [some (.ref 4), some (.ref 1), some (.int a2), some (.int a3), some (.int a4), some (.int a5), some (.int (v6 + 1)), some (.ref (6 + (v6).toNatClampNeg)), some (.int (jOther I (v6).toNatClampNeg a2))]) dX10_extend_93 rfl (by rfl) rfl ?_
        refine J.goto (tgt := 25) dX10_extend_96 (by decide) ?_
        exact J.weaken (ls' := [some (.ref 4), some (.ref 1), some (.int a2), some (.int a3), some (.int a4), some (.int a5), some (.int (v6 + 1)), none, none]) (And.intro rfl (And.intro rfl (And.intro rfl (And.intro rfl (And.intro rfl (And.intro rfl (And.intro rfl trivial))))))) (hK25 (v6 + 1) I h)
      · have h := h.2 hc4
        refine J.aload_n dX10_extend_64 rfl rfl ?_
        refine J.aload_n dX10_extend_65 rfl rfl ?_
        refine J.iload dX10_extend_66 rfl ?_
        refine J.iload_n dX10_extend_68 rfl rfl ?_
        refine J.iconst (v := 1) dX10_extend_69 (by decide) ?_
        refine J.iload dX10_extend_70 rfl ?_
        refine J.ishl dX10_extend_72 ?_
        refine J.atpc (pc' := 73) rfl ?_
        refine J.ior dX10_extend_73 ?_
        refine J.iload dX10_extend_74 rfl ?_
        refine J.iload dX10_extend_76 rfl ?_
        refine J.aload dX10_extend_78 rfl ?_
        refine J.getI dX10_extend_80 fX10_60 (hT.lineK (vp_lt hp2)) rfl ?_
        refine J.callSP (as := [.int a4, .int v6, .int (I (6 + (v6).toNatClampNeg) 3)]) (rest := [.int (a3 ||| ((1 : Int32) <<< ((jOther I (v6).toNatClampNeg a2) &&& 31))), .int (jOther I (v6).toNatClampNeg a2), .ref 1, .ref 4]) dX10_extend_83 kX10_longer vX10_longer lX10_63 rfl rfl rfl (by omega) (Nat.le_refl _) (Nat.le_refl _) (qX10_longer (d + 0) hT a4 v6 (I (6 + (v6).toNatClampNeg) 3) ) ?_
        refine J.iload dX10_extend_86 rfl ?_
        refine J.iconst (v := 1) dX10_extend_88 (by decide) ?_
        refine J.iadd dX10_extend_89 ?_
        obtain ⟨hp5, h⟩ := h
        refine J.callSD (as := [.ref 4, .ref 1, .int (jOther I (v6).toNatClampNeg a2), .int (a3 ||| ((1 : Int32) <<< ((jOther I (v6).toNatClampNeg a2) &&& 31))), .int (jLonger a4 v6 (I (6 + (v6).toNatClampNeg) 3)), .int (a5 + 1)]) (rest := []) dX10_extend_90 kX10_extend vX10_extend lX10_39 rfl rfl rfl (by omega) (Nat.le_refl _) (Nat.le_refl _) (hE I (jOther I (v6).toNatClampNeg a2) (a3 ||| ((1 : Int32) <<< ((jOther I (v6).toNatClampNeg a2) &&& 31))) (jLonger a4 v6 (I (6 + (v6).toNatClampNeg) 3)) (a5 + 1) hp5) ?_
        refine J.iinc (v := (v6 + 1)) (ls' := [some (.ref 4), some (.ref 1), some (.int a2), some (.int a3), some (.int a4), some (.int a5), some (.int (v6 + 1)), some (.ref (6 + (v6).toNatClampNeg)), some (.int (jOther I (v6).toNatClampNeg a2))]) dX10_extend_93 rfl (by rfl) rfl ?_
        refine J.goto (tgt := 25) dX10_extend_96 (by decide) ?_
        exact J.weaken (ls' := [some (.ref 4), some (.ref 1), some (.int a2), some (.int a3), some (.int a4), some (.int a5), some (.int (v6 + 1)), none, none]) (And.intro rfl (And.intro rfl (And.intro rfl (And.intro rfl (And.intro rfl (And.intro rfl (And.intro rfl trivial))))))) (hK25 (v6 + 1) (E I (jOther I (v6).toNatClampNeg a2) (a3 ||| ((1 : Int32) <<< ((jOther I (v6).toNatClampNeg a2) &&& 31))) (jLonger a4 v6 (I (6 + (v6).toNatClampNeg) 3)) (a5 + 1)) h)
set_option maxHeartbeats 4000000 in
set_option maxRecDepth 100000 in
theorem wX10_extend (d : Nat) {T : Topo} (hT : Lay T) (a2 : Int32) (a3 : Int32) (a4 : Int32) (a5 : Int32) (E : IM → Int32 → Int32 → Int32 → Int32 → IM) (EK : IM → Int32 → Int32 → Int32 → Int32 → Prop) (dE : Nat) (hdE : dE + 1 ≤ d + 1) (hE : ∀ (I : IM) (b2 b3 b4 b5 : Int32), EK I b2 b3 b4 b5 → CtV dE mX10_extend [.ref 4, .ref 1, .int b2, .int b3, .int b4, .int b5] T I (fun J_ => J_ = E I b2 b3 b4 b5))  {Q : Topo → IM → Prop} (V25 : Int32 → IM → Prop) (μ25 : Int32 → IM → Nat) (vc25 : ∀ (v6 : Int32) (I : IM), V25 v6 I → fX10_extend_25 T a2 a3 a4 a5 E EK Q (fun w6 I_ => V25 w6 I_ ∧ μ25 w6 I_ < μ25 v6 I) v6 I) {I : IM} (h : fX10_extend_0 T a2 a3 a4 a5 E EK Q V25 I) : Ct (d + 1) mX10_extend [.ref 4, .ref 1, .int a2, .int a3, .int a4, .int a5] T I 0 0 (PV Q) := by
  have all : ∀ n : Nat, (∀ (v6 : Int32) (I : IM), V25 v6 I → μ25 v6 I < n → J (d + 1) mX10_extend (PV Q) 0 0 25 [some (.ref 4), some (.ref 1), some (.int a2), some (.int a3), some (.int a4), some (.int a5), some (.int v6), none, none] [] T I 0 0) := by
    intro n
    induction n with
    | zero => exact fun _ _ _ hn => absurd hn (Nat.not_lt_zero _)
    | succ n ih =>
      exact fun v6 I hv hn => sX10_extend_25 d hT a2 a3 a4 a5 E EK dE hdE hE  (fun w6 I_ hw => ih w6 I_ hw.1 (by have := hw.2; omega)) v6 I (vc25 v6 I hv)
  exact Ct.ofJ (by decide +kernel) rfl (by intro v hv; revert v hv; simp [Value.category]) rfl (sX10_extend_0 d hT a2 a3 a4 a5 E EK dE hdE hE  (fun w6 I_ hw => (all (μ25 w6 I_ + 1)) w6 I_ hw (Nat.lt_succ_self _)) I h)

def jExtSI (a2 : Int32) (a3 : Int32) (a4 : Int32) (a5 : Int32) (E : IM → Int32 → Int32 → Int32 → Int32 → IM) (EK : IM → Int32 → Int32 → Int32 → Int32 → Prop) : Nat → Int32 → IM → IM
  | 0 => fun _ I => I
  | n + 1 => fun v6 I => (if (I 1 4) ≤ v6 then I else (if (jOther I (v6).toNatClampNeg a2) < 0 then (jExtSI a2 a3 a4 a5 E EK n (v6 + 1) I) else (if hs a3 (jOther I (v6).toNatClampNeg a2) then (jExtSI a2 a3 a4 a5 E EK n (v6 + 1) I) else (jExtSI a2 a3 a4 a5 E EK n (v6 + 1) (E I (jOther I (v6).toNatClampNeg a2) (a3 ||| ((1 : Int32) <<< ((jOther I (v6).toNatClampNeg a2) &&& 31))) (jLonger a4 v6 (I (6 + (v6).toNatClampNeg) 3)) (a5 + 1))))))
def jExtSO (a2 : Int32) (a3 : Int32) (a4 : Int32) (a5 : Int32) (E : IM → Int32 → Int32 → Int32 → Int32 → IM) (EK : IM → Int32 → Int32 → Int32 → Int32 → Prop) : Nat → Int32 → IM → Prop
  | 0 => fun _ _ => False
  | n + 1 => fun v6 I => ((((I 1 4) ≤ v6) → True) ∧ ((¬ (I 1 4) ≤ v6) → ((vp_in v6 9) ∧ ((((jOther I (v6).toNatClampNeg a2) < 0) → (jExtSO a2 a3 a4 a5 E EK n (v6 + 1) I)) ∧ ((¬ (jOther I (v6).toNatClampNeg a2) < 0) → (((hs a3 (jOther I (v6).toNatClampNeg a2)) → (jExtSO a2 a3 a4 a5 E EK n (v6 + 1) I)) ∧ ((¬ (hs a3 (jOther I (v6).toNatClampNeg a2))) → (((EK I (jOther I (v6).toNatClampNeg a2) (a3 ||| ((1 : Int32) <<< ((jOther I (v6).toNatClampNeg a2) &&& 31))) (jLonger a4 v6 (I (6 + (v6).toNatClampNeg) 3)) (a5 + 1))) ∧ (jExtSO a2 a3 a4 a5 E EK n (v6 + 1) (E I (jOther I (v6).toNatClampNeg a2) (a3 ||| ((1 : Int32) <<< ((jOther I (v6).toNatClampNeg a2) &&& 31))) (jLonger a4 v6 (I (6 + (v6).toNatClampNeg) 3)) (a5 + 1)))))))))))
theorem jExtSI_25 (a2 : Int32) (a3 : Int32) (a4 : Int32) (a5 : Int32) (E : IM → Int32 → Int32 → Int32 → Int32 → IM) (EK : IM → Int32 → Int32 → Int32 → Int32 → Prop) (n : Nat) (v6 : Int32) (I : IM) : jExtSI a2 a3 a4 a5 E EK (n + 1) v6 I = (if (I 1 4) ≤ v6 then I else (if (jOther I (v6).toNatClampNeg a2) < 0 then (jExtSI a2 a3 a4 a5 E EK n (v6 + 1) I) else (if hs a3 (jOther I (v6).toNatClampNeg a2) then (jExtSI a2 a3 a4 a5 E EK n (v6 + 1) I) else (jExtSI a2 a3 a4 a5 E EK n (v6 + 1) (E I (jOther I (v6).toNatClampNeg a2) (a3 ||| ((1 : Int32) <<< ((jOther I (v6).toNatClampNeg a2) &&& 31))) (jLonger a4 v6 (I (6 + (v6).toNatClampNeg) 3)) (a5 + 1)))))) := rfl
theorem jExtSO_25 (a2 : Int32) (a3 : Int32) (a4 : Int32) (a5 : Int32) (E : IM → Int32 → Int32 → Int32 → Int32 → IM) (EK : IM → Int32 → Int32 → Int32 → Int32 → Prop) (n : Nat) (v6 : Int32) (I : IM) : jExtSO a2 a3 a4 a5 E EK (n + 1) v6 I = ((((I 1 4) ≤ v6) → True) ∧ ((¬ (I 1 4) ≤ v6) → ((vp_in v6 9) ∧ ((((jOther I (v6).toNatClampNeg a2) < 0) → (jExtSO a2 a3 a4 a5 E EK n (v6 + 1) I)) ∧ ((¬ (jOther I (v6).toNatClampNeg a2) < 0) → (((hs a3 (jOther I (v6).toNatClampNeg a2)) → (jExtSO a2 a3 a4 a5 E EK n (v6 + 1) I)) ∧ ((¬ (hs a3 (jOther I (v6).toNatClampNeg a2))) → (((EK I (jOther I (v6).toNatClampNeg a2) (a3 ||| ((1 : Int32) <<< ((jOther I (v6).toNatClampNeg a2) &&& 31))) (jLonger a4 v6 (I (6 + (v6).toNatClampNeg) 3)) (a5 + 1))) ∧ (jExtSO a2 a3 a4 a5 E EK n (v6 + 1) (E I (jOther I (v6).toNatClampNeg a2) (a3 ||| ((1 : Int32) <<< ((jOther I (v6).toNatClampNeg a2) &&& 31))) (jLonger a4 v6 (I (6 + (v6).toNatClampNeg) 3)) (a5 + 1))))))))))) := rfl
def jExtS (I : IM) (a2 : Int32) (a3 : Int32) (a4 : Int32) (a5 : Int32) (E : IM → Int32 → Int32 → Int32 → Int32 → IM) (EK : IM → Int32 → Int32 → Int32 → Int32 → Prop) : IM := (if a2 = (I 4 2) then (jInsert I a4) else (if a5 < 5 then (jExtSI a2 a3 a4 a5 E EK FU 0 I) else I))
def jExtSK (I : IM) (a2 : Int32) (a3 : Int32) (a4 : Int32) (a5 : Int32) (E : IM → Int32 → Int32 → Int32 → Int32 → IM) (EK : IM → Int32 → Int32 → Int32 → Int32 → Prop) : Prop := (((¬ a2 = (I 4 2)) → (((a5 < 5) → (jExtSO a2 a3 a4 a5 E EK FU 0 I)) ∧ ((¬ a5 < 5) → True))) ∧ ((a2 = (I 4 2)) → ((jInsertK I a4))))
set_option maxRecDepth 10000 in
set_option maxHeartbeats 1000000 in
theorem uX10_extend (d : Nat) {T : Topo} (hT : Lay T) (a2 : Int32) (a3 : Int32) (a4 : Int32) (a5 : Int32) (E : IM → Int32 → Int32 → Int32 → Int32 → IM) (EK : IM → Int32 → Int32 → Int32 → Int32 → Prop) (dE : Nat) (hdE : dE + 1 ≤ d + 1) (hE : ∀ (I : IM) (b2 b3 b4 b5 : Int32), EK I b2 b3 b4 b5 → CtV dE mX10_extend [.ref 4, .ref 1, .int b2, .int b3, .int b4, .int b5] T I (fun J_ => J_ = E I b2 b3 b4 b5))  {R : IM} : ∀ n : Nat, (∀ (v6 : Int32) (I : IM), jExtSO a2 a3 a4 a5 E EK n v6 I → jExtSI a2 a3 a4 a5 E EK n v6 I = R → J (d + 1) mX10_extend (PV (fun T' I' => T' = T ∧ I' = R)) 0 0 25 [some (.ref 4), some (.ref 1), some (.int a2), some (.int a3), some (.int a4), some (.int a5), some (.int v6), none, none] [] T I 0 0) := by
  intro n
  induction n with
  | zero => exact fun _ _ hz => hz.elim
  | succ n ih =>
    exact fun v6 I hok hit => by
        rw [jExtSO_25] at hok
        exact sX10_extend_25 d hT a2 a3 a4 a5 E EK dE hdE hE  (K25 := fun w6 I_ => (jExtSO a2 a3 a4 a5 E EK n w6 I_ ∧ jExtSI a2 a3 a4 a5 E EK n w6 I_ = R)) (fun w6 I_ hw => ih w6 I_ hw.1 hw.2) v6 I (by
          unfold fX10_extend_25
          exact ⟨fun hc1 => ⟨rfl, by rw [jExtSI_25, if_pos hc1] at hit; exact hit⟩, fun hc1 => ⟨((hok).2 hc1).1, ⟨fun hc2 => ⟨(((hok).2 hc1).2).1 hc2, by rw [jExtSI_25, if_neg hc1, if_pos hc2] at hit; exact hit⟩, fun hc2 => ⟨fun hc3 => ⟨((((hok).2 hc1).2).2 hc2).1 hc3, by rw [jExtSI_25, if_neg hc1, if_neg hc2, if_pos hc3] at hit; exact hit⟩, fun hc3 => ⟨(((((hok).2 hc1).2).2 hc2).2 hc3).1, ⟨(((((hok).2 hc1).2).2 hc2).2 hc3).2, by rw [jExtSI_25, if_neg hc1, if_neg hc2, if_neg hc3] at hit; exact hit⟩⟩⟩⟩⟩⟩)
set_option maxRecDepth 10000 in
set_option maxHeartbeats 1000000 in
theorem qX10_extend (d : Nat) {T : Topo} {I : IM} (hT : Lay T) (a2 : Int32) (a3 : Int32) (a4 : Int32) (a5 : Int32) (E : IM → Int32 → Int32 → Int32 → Int32 → IM) (EK : IM → Int32 → Int32 → Int32 → Int32 → Prop) (dE : Nat) (hdE : dE + 1 ≤ d + 1) (hE : ∀ (I : IM) (b2 b3 b4 b5 : Int32), EK I b2 b3 b4 b5 → CtV dE mX10_extend [.ref 4, .ref 1, .int b2, .int b3, .int b4, .int b5] T I (fun J_ => J_ = E I b2 b3 b4 b5))  (hp : (jExtSK I a2 a3 a4 a5 E EK)) : CtV (d + 1) mX10_extend [.ref 4, .ref 1, .int a2, .int a3, .int a4, .int a5] T I (fun J_ => J_ = (jExtS I a2 a3 a4 a5 E EK)) := by
  unfold jExtSK at hp
  exact Ct.ofJ (by decide +kernel) rfl (by intro v hv; revert v hv; simp [Value.category]) rfl (sX10_extend_0 d hT a2 a3 a4 a5 E EK dE hdE hE  (K25 := fun w6 I_ => (jExtSO a2 a3 a4 a5 E EK FU w6 I_ ∧ jExtSI a2 a3 a4 a5 E EK FU w6 I_ = (jExtS I a2 a3 a4 a5 E EK))) (fun w6 I_ hw => uX10_extend d hT a2 a3 a4 a5 E EK dE hdE hE  FU w6 I_ hw.1 hw.2) I (by
    unfold fX10_extend_0
    exact ⟨fun hc1 => ⟨fun hc2 => ⟨((hp).1 hc1).1 hc2, by unfold jExtS; rw [if_neg hc1, if_pos hc2]⟩, fun hc2 => ⟨rfl, by unfold jExtS; rw [if_neg hc1, if_neg hc2]⟩⟩, fun hc1 => ⟨(hp).2 hc1, ⟨rfl, by unfold jExtS; rw [if_pos hc1]⟩⟩⟩))

def jExtP : Nat → (IM → Int32 → Int32 → Int32 → Int32 → IM) × (IM → Int32 → Int32 → Int32 → Int32 → Prop)
  | 0 => (fun I _ _ _ _ => I, fun _ _ _ _ _ => False)
  | r + 1 => (fun I b2 b3 b4 b5 => jExtS I b2 b3 b4 b5 (jExtP r).1 (jExtP r).2, fun I b2 b3 b4 b5 => jExtSK I b2 b3 b4 b5 (jExtP r).1 (jExtP r).2)
theorem qExt : ∀ (r d : Nat) {T : Topo} (hT : Lay T) (I : IM) (b2 b3 b4 b5 : Int32), (jExtP r).2 I b2 b3 b4 b5 → CtV (d + 1 + r) mX10_extend [.ref 4, .ref 1, .int b2, .int b3, .int b4, .int b5] T I (fun J_ => J_ = (jExtP r).1 I b2 b3 b4 b5) := by
  intro r
  induction r with
  | zero => intro d T hT I b2 b3 b4 b5 h; exact h.elim
  | succ r ih =>
    intro d T hT I b2 b3 b4 b5 h
    have e : d + 1 + (r + 1) = (d + 1 + r) + 1 := by omega
    rw [e]
    exact qX10_extend (d + 1 + r) hT b2 b3 b4 b5 (jExtP r).1 (jExtP r).2 (d + 1 + r) (Nat.le_refl _) (fun I c2 c3 c4 c5 hh => ih d hT I c2 c3 c4 c5 hh) h
theorem qExt6 (d : Nat) {T : Topo} {I : IM} (hT : Lay T) (b2 b3 b4 b5 : Int32) (hp : (jExtP 6).2 I b2 b3 b4 b5) : CtV (d + 7) mX10_extend [.ref 4, .ref 1, .int b2, .int b3, .int b4, .int b5] T I (fun J_ => J_ = (jExtP 6).1 I b2 b3 b4 b5) := qExt 6 d hT I b2 b3 b4 b5 hp

def fX10_find_0 (T : Topo) (a2 : Int32) (a3 : Int32) (Q : Topo → IM → Prop)  (I : IM) : Prop :=
  (((¬ a2 = (I 4 1)) → ((((jExtP 6).2 (up2 (up2 (up2 (up2 I 4 1 a2) 4 2 a3) 4 3 (I 1 4)) 4 4 0) a2 ((1 : Int32) <<< (a2 &&& 31)) 0 0)) ∧ Q T ((jExtP 6).1 (up2 (up2 (up2 (up2 I 4 1 a2) 4 2 a3) 4 3 (I 1 4)) 4 4 0) a2 ((1 : Int32) <<< (a2 &&& 31)) 0 0))) ∧ ((a2 = (I 4 1)) → (((¬ a3 = (I 4 2)) → ((((jExtP 6).2 (up2 (up2 (up2 (up2 I 4 1 a2) 4 2 a3) 4 3 (I 1 4)) 4 4 0) a2 ((1 : Int32) <<< (a2 &&& 31)) 0 0)) ∧ Q T ((jExtP 6).1 (up2 (up2 (up2 (up2 I 4 1 a2) 4 2 a3) 4 3 (I 1 4)) 4 4 0) a2 ((1 : Int32) <<< (a2 &&& 31)) 0 0))) ∧ ((a3 = (I 4 2)) → (((¬ (I 1 4) = (I 4 3)) → ((((jExtP 6).2 (up2 (up2 (up2 (up2 I 4 1 a2) 4 2 a3) 4 3 (I 1 4)) 4 4 0) a2 ((1 : Int32) <<< (a2 &&& 31)) 0 0)) ∧ Q T ((jExtP 6).1 (up2 (up2 (up2 (up2 I 4 1 a2) 4 2 a3) 4 3 (I 1 4)) 4 4 0) a2 ((1 : Int32) <<< (a2 &&& 31)) 0 0))) ∧ (((I 1 4) = (I 4 3)) → Q T I))))))
set_option maxHeartbeats 4000000 in
set_option maxRecDepth 100000 in
theorem sX10_find_0 (d : Nat) {T : Topo} (hT : Lay T) (a2 : Int32) (a3 : Int32)    {Q : Topo → IM → Prop}   (I : IM) (h : fX10_find_0 T a2 a3 Q  I) : J (d + 8) mX10_find (PV Q) 0 0 0 [some (.ref 4), some (.ref 1), some (.int a2), some (.int a3)] [] T I 0 0 := by
  unfold fX10_find_0 at h
  refine J.iload_n dX10_find_0 rfl rfl ?_
  refine J.aload_n dX10_find_1 rfl rfl ?_
  refine J.getI dX10_find_2 fX10_15 (hT.k 4 rfl) rfl ?_
  refine J.icmp_ne (tgt := 28) dX10_find_5 (by decide) (fun hc1 => ?_) (fun hc1 => ?_)
  · have h := h.1 hc1
    refine J.aload_n dX10_find_28 rfl rfl ?_
    refine J.iload_n dX10_find_29 rfl rfl ?_
    refine J.putI dX10_find_30 fX10_15 (hT.k 4 rfl) rfl ?_
    refine J.aload_n dX10_find_33 rfl rfl ?_
    refine J.iload_n dX10_find_34 rfl rfl ?_
    refine J.putI dX10_find_35 fX10_19 (hT.k 4 rfl) rfl ?_
    refine J.aload_n dX10_find_38 rfl rfl ?_
    refine J.atpc (pc' := 39) rfl ?_
    refine J.aload_n dX10_find_39 rfl rfl ?_
    refine J.getI dX10_find_40 fX10_31 (hT.k 1 rfl) rfl ?_
    refine J.topEq (y := (I 1 4)) (Eq.trans (up2_o _ _ _ _ (by decide)) (up2_o _ _ _ _ (by decide))) ?_
    refine J.putI dX10_find_43 fX10_22 (hT.k 4 rfl) rfl ?_
    refine J.aload_n dX10_find_46 rfl rfl ?_
    refine J.iconst (v := 0) dX10_find_47 (by decide) ?_
    refine J.putI dX10_find_48 fX10_36 (hT.k 4 rfl) rfl ?_
    refine J.aload_n dX10_find_51 rfl rfl ?_
    refine J.aload_n dX10_find_52 rfl rfl ?_
    refine J.atpc (pc' := 53) rfl ?_
    refine J.iload_n dX10_find_53 rfl rfl ?_
    refine J.iconst (v := 1) dX10_find_54 (by decide) ?_
    refine J.iload_n dX10_find_55 rfl rfl ?_
    refine J.ishl dX10_find_56 ?_
    refine J.iconst (v := 0) dX10_find_57 (by decide) ?_
    refine J.iconst (v := 0) dX10_find_58 (by decide) ?_
    obtain ⟨hp2, h⟩ := h
    refine J.callSD (as := [.ref 4, .ref 1, .int a2, .int ((1 : Int32) <<< (a2 &&& 31)), .int 0, .int 0]) (rest := []) dX10_find_59 kX10_extend vX10_extend lX10_39 rfl rfl rfl (by omega) (Nat.le_refl _) (Nat.le_refl _) (qExt6 (d + 0) hT a2 ((1 : Int32) <<< (a2 &&& 31)) 0 0 hp2) ?_
    exact J.vretQ dX10_find_62 rfl (Nat.le_refl _) (Nat.le_refl _) h
  · have h := h.2 hc1
    refine J.iload_n dX10_find_8 rfl rfl ?_
    refine J.aload_n dX10_find_9 rfl rfl ?_
    refine J.getI dX10_find_10 fX10_19 (hT.k 4 rfl) rfl ?_
    refine J.icmp_ne (tgt := 28) dX10_find_13 (by decide) (fun hc3 => ?_) (fun hc3 => ?_)
    · have h := h.1 hc3
      refine J.aload_n dX10_find_28 rfl rfl ?_
      refine J.iload_n dX10_find_29 rfl rfl ?_
      refine J.putI dX10_find_30 fX10_15 (hT.k 4 rfl) rfl ?_
      refine J.aload_n dX10_find_33 rfl rfl ?_
      refine J.iload_n dX10_find_34 rfl rfl ?_
      refine J.putI dX10_find_35 fX10_19 (hT.k 4 rfl) rfl ?_
      refine J.aload_n dX10_find_38 rfl rfl ?_
      refine J.atpc (pc' := 39) rfl ?_
      refine J.aload_n dX10_find_39 rfl rfl ?_
      refine J.getI dX10_find_40 fX10_31 (hT.k 1 rfl) rfl ?_
      refine J.topEq (y := (I 1 4)) (Eq.trans (up2_o _ _ _ _ (by decide)) (up2_o _ _ _ _ (by decide))) ?_
      refine J.putI dX10_find_43 fX10_22 (hT.k 4 rfl) rfl ?_
      refine J.aload_n dX10_find_46 rfl rfl ?_
      refine J.iconst (v := 0) dX10_find_47 (by decide) ?_
      refine J.putI dX10_find_48 fX10_36 (hT.k 4 rfl) rfl ?_
      refine J.aload_n dX10_find_51 rfl rfl ?_
      refine J.aload_n dX10_find_52 rfl rfl ?_
      refine J.atpc (pc' := 53) rfl ?_
      refine J.iload_n dX10_find_53 rfl rfl ?_
      refine J.iconst (v := 1) dX10_find_54 (by decide) ?_
      refine J.iload_n dX10_find_55 rfl rfl ?_
      refine J.ishl dX10_find_56 ?_
      refine J.iconst (v := 0) dX10_find_57 (by decide) ?_
      refine J.iconst (v := 0) dX10_find_58 (by decide) ?_
      obtain ⟨hp4, h⟩ := h
      refine J.callSD (as := [.ref 4, .ref 1, .int a2, .int ((1 : Int32) <<< (a2 &&& 31)), .int 0, .int 0]) (rest := []) dX10_find_59 kX10_extend vX10_extend lX10_39 rfl rfl rfl (by omega) (Nat.le_refl _) (Nat.le_refl _) (qExt6 (d + 0) hT a2 ((1 : Int32) <<< (a2 &&& 31)) 0 0 hp4) ?_
      exact J.vretQ dX10_find_62 rfl (Nat.le_refl _) (Nat.le_refl _) h
    · have h := h.2 hc3
      refine J.aload_n dX10_find_16 rfl rfl ?_
      refine J.getI dX10_find_17 fX10_31 (hT.k 1 rfl) rfl ?_
      refine J.aload_n dX10_find_20 rfl rfl ?_
      refine J.getI dX10_find_21 fX10_22 (hT.k 4 rfl) rfl ?_
      refine J.icmp_ne (tgt := 28) dX10_find_24 (by decide) (fun hc5 => ?_) (fun hc5 => ?_)
      · have h := h.1 hc5
        refine J.aload_n dX10_find_28 rfl rfl ?_
        refine J.iload_n dX10_find_29 rfl rfl ?_
        refine J.putI dX10_find_30 fX10_15 (hT.k 4 rfl) rfl ?_
        refine J.aload_n dX10_find_33 rfl rfl ?_
        refine J.iload_n dX10_find_34 rfl rfl ?_
        refine J.putI dX10_find_35 fX10_19 (hT.k 4 rfl) rfl ?_
        refine J.aload_n dX10_find_38 rfl rfl ?_
        refine J.atpc (pc' := 39) rfl ?_
        refine J.aload_n dX10_find_39 rfl rfl ?_
        refine J.getI dX10_find_40 fX10_31 (hT.k 1 rfl) rfl ?_
        refine J.topEq (y := (I 1 4)) (Eq.trans (up2_o _ _ _ _ (by decide)) (up2_o _ _ _ _ (by decide))) ?_
        refine J.putI dX10_find_43 fX10_22 (hT.k 4 rfl) rfl ?_
        refine J.aload_n dX10_find_46 rfl rfl ?_
        refine J.iconst (v := 0) dX10_find_47 (by decide) ?_
        refine J.putI dX10_find_48 fX10_36 (hT.k 4 rfl) rfl ?_
        refine J.aload_n dX10_find_51 rfl rfl ?_
        refine J.aload_n dX10_find_52 rfl rfl ?_
        refine J.atpc (pc' := 53) rfl ?_
        refine J.iload_n dX10_find_53 rfl rfl ?_
        refine J.iconst (v := 1) dX10_find_54 (by decide) ?_
        refine J.iload_n dX10_find_55 rfl rfl ?_
        refine J.ishl dX10_find_56 ?_
        refine J.iconst (v := 0) dX10_find_57 (by decide) ?_
        refine J.iconst (v := 0) dX10_find_58 (by decide) ?_
        obtain ⟨hp6, h⟩ := h
        refine J.callSD (as := [.ref 4, .ref 1, .int a2, .int ((1 : Int32) <<< (a2 &&& 31)), .int 0, .int 0]) (rest := []) dX10_find_59 kX10_extend vX10_extend lX10_39 rfl rfl rfl (by omega) (Nat.le_refl _) (Nat.le_refl _) (qExt6 (d + 0) hT a2 ((1 : Int32) <<< (a2 &&& 31)) 0 0 hp6) ?_
        exact J.vretQ dX10_find_62 rfl (Nat.le_refl _) (Nat.le_refl _) h
      · have h := h.2 hc5
        exact J.vretQ dX10_find_27 rfl (Nat.le_refl _) (Nat.le_refl _) h
set_option maxHeartbeats 4000000 in
set_option maxRecDepth 100000 in
theorem wX10_find (d : Nat) {T : Topo} (hT : Lay T) (a2 : Int32) (a3 : Int32)   {Q : Topo → IM → Prop} {I : IM} (h : fX10_find_0 T a2 a3 Q I) : Ct (d + 8) mX10_find [.ref 4, .ref 1, .int a2, .int a3] T I 0 0 (PV Q) :=
  Ct.ofJ (by decide +kernel) rfl (by intro v hv; revert v hv; simp [Value.category]) rfl (sX10_find_0 d hT a2 a3   I h)

def jFindM (I : IM) (a2 : Int32) (a3 : Int32) : IM := (if a2 = (I 4 1) then (if a3 = (I 4 2) then (if (I 1 4) = (I 4 3) then I else ((jExtP 6).1 (up2 (up2 (up2 (up2 I 4 1 a2) 4 2 a3) 4 3 (I 1 4)) 4 4 0) a2 ((1 : Int32) <<< (a2 &&& 31)) 0 0)) else ((jExtP 6).1 (up2 (up2 (up2 (up2 I 4 1 a2) 4 2 a3) 4 3 (I 1 4)) 4 4 0) a2 ((1 : Int32) <<< (a2 &&& 31)) 0 0)) else ((jExtP 6).1 (up2 (up2 (up2 (up2 I 4 1 a2) 4 2 a3) 4 3 (I 1 4)) 4 4 0) a2 ((1 : Int32) <<< (a2 &&& 31)) 0 0))
def jFindK (I : IM) (a2 : Int32) (a3 : Int32) : Prop := (((¬ a2 = (I 4 1)) → (((jExtP 6).2 (up2 (up2 (up2 (up2 I 4 1 a2) 4 2 a3) 4 3 (I 1 4)) 4 4 0) a2 ((1 : Int32) <<< (a2 &&& 31)) 0 0))) ∧ ((a2 = (I 4 1)) → (((¬ a3 = (I 4 2)) → (((jExtP 6).2 (up2 (up2 (up2 (up2 I 4 1 a2) 4 2 a3) 4 3 (I 1 4)) 4 4 0) a2 ((1 : Int32) <<< (a2 &&& 31)) 0 0))) ∧ ((a3 = (I 4 2)) → (((¬ (I 1 4) = (I 4 3)) → (((jExtP 6).2 (up2 (up2 (up2 (up2 I 4 1 a2) 4 2 a3) 4 3 (I 1 4)) 4 4 0) a2 ((1 : Int32) <<< (a2 &&& 31)) 0 0))) ∧ (((I 1 4) = (I 4 3)) → True))))))
set_option maxRecDepth 10000 in
theorem qX10_find (d : Nat) {T : Topo} {I : IM} (hT : Lay T) (a2 : Int32) (a3 : Int32)  (hp : (jFindK I a2 a3)) : CtV (d + 8) mX10_find [.ref 4, .ref 1, .int a2, .int a3] T I (fun J_ => J_ = (jFindM I a2 a3)) :=
  wX10_find d hT a2 a3   (by
  unfold fX10_find_0
  exact ⟨fun hc1 => ⟨(hp).1 hc1, ⟨rfl, by unfold jFindM; rw [if_neg hc1]⟩⟩, fun hc1 => ⟨fun hc2 => ⟨((hp).2 hc1).1 hc2, ⟨rfl, by unfold jFindM; rw [if_pos hc1, if_neg hc2]⟩⟩, fun hc2 => ⟨fun hc3 => ⟨(((hp).2 hc1).2 hc2).1 hc3, ⟨rfl, by unfold jFindM; rw [if_pos hc1, if_pos hc2, if_neg hc3]⟩⟩, fun hc3 => ⟨rfl, by unfold jFindM; rw [if_pos hc1, if_pos hc2, if_pos hc3]⟩⟩⟩⟩)

def fX5_waysBetween_0 (T : Topo) (a1 : Int32) (a2 : Int32) (Q : Nat → Topo → IM → Prop)  (I : IM) : Prop :=
  (((jFindK I a1 a2)) ∧ Q 4 T (jFindM I a1 a2))
set_option maxHeartbeats 4000000 in
set_option maxRecDepth 100000 in
theorem sX5_waysBetween_0 (d : Nat) {T : Topo} (hT : Lay T) (a1 : Int32) (a2 : Int32)    {Q : Nat → Topo → IM → Prop}   (I : IM) (h : fX5_waysBetween_0 T a1 a2 Q  I) : J (d + 9) mX5_waysBetween (PR Q) 0 0 0 [some (.ref 1), some (.int a1), some (.int a2)] [] T I 0 0 := by
  unfold fX5_waysBetween_0 at h
  refine J.aload_n dX5_waysBetween_0 rfl rfl ?_
  refine J.getR (r := 4) dX5_waysBetween_1 fX5_24 (hT.k 1 rfl) rfl (hT.r 1 2 rfl rfl) ?_
  refine J.aload_n dX5_waysBetween_4 rfl rfl ?_
  refine J.iload_n dX5_waysBetween_5 rfl rfl ?_
  refine J.iload_n dX5_waysBetween_6 rfl rfl ?_
  obtain ⟨hp1, h⟩ := h
  refine J.callVD (k := 4) (as := [.ref 1, .int a1, .int a2]) (rest := []) dX5_waysBetween_7 kX10_find vX10_find lX5_61 (hT.k 4 rfl) rfl rfl rfl rfl rfl (by omega) (Nat.le_refl _) (Nat.le_refl _) (qX10_find (d + 0) hT a1 a2 hp1) ?_
  refine J.aload_n dX5_waysBetween_10 rfl rfl ?_
  refine J.getR (r := 4) dX5_waysBetween_11 fX5_24 (hT.k 1 rfl) rfl (hT.r 1 2 rfl rfl) ?_
  exact J.aretQ dX5_waysBetween_14 rfl (Or.inl ⟨_, rfl⟩) (Nat.le_refl _) (Nat.le_refl _) h
set_option maxHeartbeats 4000000 in
set_option maxRecDepth 100000 in
theorem wX5_waysBetween (d : Nat) {T : Topo} (hT : Lay T) (a1 : Int32) (a2 : Int32)   {Q : Nat → Topo → IM → Prop} {I : IM} (h : fX5_waysBetween_0 T a1 a2 Q I) : Ct (d + 9) mX5_waysBetween [.ref 1, .int a1, .int a2] T I 0 0 (PR Q) :=
  Ct.ofJ (by decide +kernel) rfl (by intro v hv; revert v hv; simp [Value.category]) rfl (sX5_waysBetween_0 d hT a1 a2   I h)

theorem qX5_waysBetween (d : Nat) {T : Topo} {I : IM} (hT : Lay T) (a1 : Int32) (a2 : Int32) (hp : (jFindK I a1 a2)) : Ct (d + 9) mX5_waysBetween [.ref 1, .int a1, .int a2] T I 0 0 (PR fun x_ T_ J_ => x_ = 4 ∧ T_ = T ∧ J_ = (jFindM I a1 a2)) :=
  wX5_waysBetween d hT a1 a2  (by
  unfold fX5_waysBetween_0
  exact ⟨by exact hp, ⟨rfl, rfl, by rfl⟩⟩)

end
