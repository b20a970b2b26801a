noncomputable section
def fX12_read_0 (T : Topo) (a1 : Int32) (Q : Int32 → Topo → IM → Prop) (K53 : Int32 → IM → Prop) (K94 : Int32 → IM → Prop) (K159 : Int32 → Int32 → IM → Prop) (I : IM) : Prop :=
  ((((wi a1 0 3) → (vp_in a1 4 ∧ (((¬ (I 112 a1.toNatClampNeg) = 0) → (vp_in a1 4 ∧ ((((I 113 a1.toNatClampNeg) ≤ (I 79 2)) → K53 0 I) ∧ ((¬ (I 113 a1.toNatClampNeg) ≤ (I 79 2)) → (Q (jX12_finds (-1000001)) T (jX12_findsM I)))))) ∧ (((I 112 a1.toNatClampNeg) = 0) → (Q (jX12_finds (-1000007)) T (jX12_findsM I)))))) ∧ ((¬ (wi a1 0 3)) → (Q (jX12_finds (-1000001)) T (jX12_findsM I)))))
def fX12_read_53 (T : Topo) (a1 : Int32) (Q : Int32 → Topo → IM → Prop) (K53 : Int32 → IM → Prop) (K94 : Int32 → IM → Prop) (K159 : Int32 → Int32 → IM → Prop) (v2 : Int32) (I : IM) : Prop :=
  (vp_in a1 4 ∧ ((((I 113 a1.toNatClampNeg) ≤ v2) → K94 0 I) ∧ ((¬ (I 113 a1.toNatClampNeg) ≤ v2) → (vp_in ((8 * a1) + v2) 32 ∧ ((((I 114 ((8 * a1) + v2).toNatClampNeg) ≤ 100) → K53 (v2 + 1) I) ∧ ((¬ (I 114 ((8 * a1) + v2).toNatClampNeg) ≤ 100) → (Q (jX12_finds (-1000001)) T (jX12_findsM I))))))))
def fX12_read_94 (T : Topo) (a1 : Int32) (Q : Int32 → Topo → IM → Prop) (K53 : Int32 → IM → Prop) (K94 : Int32 → IM → Prop) (K159 : Int32 → Int32 → IM → Prop) (v2 : Int32) (I : IM) : Prop :=
  (vp_in a1 4 ∧ ((((I 113 a1.toNatClampNeg) ≤ v2) → K159 0 0 I) ∧ ((¬ (I 113 a1.toNatClampNeg) ≤ v2) → (vp_in ((8 * a1) + v2) 32 ∧ ((((I 114 ((8 * a1) + v2).toNatClampNeg) ≤ 0) → K94 (v2 + 1) I) ∧ ((¬ (I 114 ((8 * a1) + v2).toNatClampNeg) ≤ 0) → (vp_in v2 8 ∧ (vp_in ((8 * a1) + v2) 32 ∧ (((((I 101 v2.toNatClampNeg) + (I 114 ((8 * a1) + v2).toNatClampNeg)) ≤ 1000) → K94 (v2 + 1) I) ∧ ((¬ ((I 101 v2.toNatClampNeg) + (I 114 ((8 * a1) + v2).toNatClampNeg)) ≤ 1000) → (Q (jX12_finds (-1000002)) T (jX12_findsM I))))))))))))
def fX12_read_159 (T : Topo) (a1 : Int32) (Q : Int32 → Topo → IM → Prop) (K53 : Int32 → IM → Prop) (K94 : Int32 → IM → Prop) (K159 : Int32 → Int32 → IM → Prop) (v2 v3 : Int32) (I : IM) : Prop :=
  (vp_in a1 4 ∧ ((((I 113 a1.toNatClampNeg) ≤ v3) → Q v2 T I) ∧ ((¬ (I 113 a1.toNatClampNeg) ≤ v3) → (vp_in ((8 * a1) + v3) 32 ∧ ((((I 114 ((8 * a1) + v3).toNatClampNeg) ≤ 0) → (vp_in v3 8 ∧ (vp_in v3 8 ∧ K159 (v2 + 0) (v3 + 1) (up2 I 101 v3.toNatClampNeg ((I 101 v3.toNatClampNeg) + 0))))) ∧ ((¬ (I 114 ((8 * a1) + v3).toNatClampNeg) ≤ 0) → (vp_in ((8 * a1) + v3) 32 ∧ (vp_in v3 8 ∧ (vp_in v3 8 ∧ K159 (v2 + (I 114 ((8 * a1) + v3).toNatClampNeg)) (v3 + 1) (up2 I 101 v3.toNatClampNeg ((I 101 v3.toNatClampNeg) + (I 114 ((8 * a1) + v3).toNatClampNeg))))))))))))
set_option maxHeartbeats 4000000 in
set_option maxRecDepth 100000 in
theorem sX12_read_0 (d : Nat) {T : Topo} (hT : Lay T) (a1 : Int32)    {Q : Int32 → Topo → IM → Prop} {K53 : Int32 → IM → Prop} {K94 : Int32 → IM → Prop} {K159 : Int32 → Int32 → IM → Prop} (hK53 : ∀ (v2 : Int32) (I : IM), K53 v2 I → J (d + 2) mX12_read (PI Q) 0 0 53 [some (.ref 79), some (.int a1), some (.int v2), none, none] [] T I 0 0) (hK94 : ∀ (v2 : Int32) (I : IM), K94 v2 I → J (d + 2) mX12_read (PI Q) 0 0 94 [some (.ref 79), some (.int a1), some (.int v2), none, none] [] T I 0 0) (hK159 : ∀ (v2 v3 : Int32) (I : IM), K159 v2 v3 I → J (d + 2) mX12_read (PI Q) 0 0 159 [some (.ref 79), some (.int a1), some (.int v2), some (.int v3), none] [] T I 0 0) (I : IM) (h : fX12_read_0 T a1 Q K53 K94 K159 I) : J (d + 2) mX12_read (PI Q) 0 0 0 [some (.ref 79), some (.int a1), none, none, none] [] T I 0 0 := by
  unfold fX12_read_0 at h
  refine J.iload_n dX12_read_0 rfl rfl ?_
  refine J.callSP (as := [.int a1]) (rest := []) dX12_read_1 kX12_isSheet vX12_isSheet lX12_347 rfl rfl rfl (by omega) (Nat.le_refl _) (Nat.le_refl _) (qX12_isSheet (d + 0) hT a1 ) ?_
  refine J.bz_ne (tgt := 14) dX12_read_4 (by decide) (fun hc1 => ?_) (fun hc1 => ?_)
  · have h := h.1 hc1
    refine J.aload_n dX12_read_14 rfl rfl ?_
    refine J.getR (r := 112) dX12_read_15 fX12_111 (hT.k 79 rfl) rfl (hT.r 79 41 rfl rfl) ?_
    refine J.iload_n dX12_read_18 rfl rfl ?_
    obtain ⟨hs2, h⟩ := h
    refine J.iald dX12_read_19 (hT.k 112 rfl) (hT.l 112 rfl) hs2 ?_
    refine J.if_ne (tgt := 31) dX12_read_20 (by decide) (fun hc3 => ?_) (fun hc3 => ?_)
    · have h := h.1 hc3
      refine J.aload_n dX12_read_31 rfl rfl ?_
      refine J.getR (r := 113) dX12_read_32 fX12_114 (hT.k 79 rfl) rfl (hT.r 79 42 rfl rfl) ?_
      refine J.iload_n dX12_read_35 rfl rfl ?_
      obtain ⟨hs4, h⟩ := h
      refine J.iald dX12_read_36 (hT.k 113 rfl) (hT.l 113 rfl) hs4 ?_
      refine J.aload_n dX12_read_37 rfl rfl ?_
      refine J.getI dX12_read_38 fX12_196 (hT.k 79 rfl) rfl ?_
      refine J.icmp_le (tgt := 51) dX12_read_41 (by decide) (fun hc5 => ?_) (fun hc5 => ?_)
      · have h := h.1 hc5
        refine J.iconst (v := 0) dX12_read_51 (by decide) ?_
        refine J.istore_n (ls' := [some (.ref 79), some (.int a1), some (.int 0), none, none]) dX12_read_52 rfl rfl rfl ?_
        exact J.weaken (ls' := [some (.ref 79), some (.int a1), some (.int 0), none, none]) (And.intro rfl (And.intro rfl (And.intro rfl trivial))) (hK53 0 I h)
      · have h := h.2 hc5
        refine J.aload_n dX12_read_44 rfl rfl ?_
        refine J.ldc (v := (-1000001)) dX12_read_45 kcX12_199 ?_
        refine J.callVE (k := 79) (as := [.int (-1000001)]) (rest := []) dX12_read_47 kX12_finds vX12_finds lX12_200 (hT.k 79 rfl) rfl rfl rfl rfl rfl (by omega) (Nat.le_refl _) (Nat.le_refl _) (qX12_finds (d + 1) hT (-1000001) ) ?_
        exact J.iretQ dX12_read_50 rfl (Nat.le_refl _) (Nat.le_refl _) h
    · have h := h.2 hc3
      refine J.aload_n dX12_read_23 rfl rfl ?_
      refine J.ldcw (v := (-1000007)) dX12_read_24 kcX12_351 ?_
      refine J.callVE (k := 79) (as := [.int (-1000007)]) (rest := []) dX12_read_27 kX12_finds vX12_finds lX12_200 (hT.k 79 rfl) rfl rfl rfl rfl rfl (by omega) (Nat.le_refl _) (Nat.le_refl _) (qX12_finds (d + 1) hT (-1000007) ) ?_
      exact J.iretQ dX12_read_30 rfl (Nat.le_refl _) (Nat.le_refl _) h
  · have h := h.2 hc1
    refine J.aload_n dX12_read_7 rfl rfl ?_
    refine J.ldc (v := (-1000001)) dX12_read_8 kcX12_199 ?_
    refine J.callVE (k := 79) (as := [.int (-1000001)]) (rest := []) dX12_read_10 kX12_finds vX12_finds lX12_200 (hT.k 79 rfl) rfl rfl rfl rfl rfl (by omega) (Nat.le_refl _) (Nat.le_refl _) (qX12_finds (d + 1) hT (-1000001) ) ?_
    exact J.iretQ dX12_read_13 rfl (Nat.le_refl _) (Nat.le_refl _) h
set_option maxHeartbeats 4000000 in
set_option maxRecDepth 100000 in
theorem sX12_read_53 (d : Nat) {T : Topo} (hT : Lay T) (a1 : Int32)    {Q : Int32 → Topo → IM → Prop} {K53 : Int32 → IM → Prop} {K94 : Int32 → IM → Prop} {K159 : Int32 → Int32 → IM → Prop} (hK53 : ∀ (v2 : Int32) (I : IM), K53 v2 I → J (d + 2) mX12_read (PI Q) 0 0 53 [some (.ref 79), some (.int a1), some (.int v2), none, none] [] T I 0 0) (hK94 : ∀ (v2 : Int32) (I : IM), K94 v2 I → J (d + 2) mX12_read (PI Q) 0 0 94 [some (.ref 79), some (.int a1), some (.int v2), none, none] [] T I 0 0) (hK159 : ∀ (v2 v3 : Int32) (I : IM), K159 v2 v3 I → J (d + 2) mX12_read (PI Q) 0 0 159 [some (.ref 79), some (.int a1), some (.int v2), some (.int v3), none] [] T I 0 0) (v2 : Int32) (I : IM) (h : fX12_read_53 T a1 Q K53 K94 K159 v2 I) : J (d + 2) mX12_read (PI Q) 0 0 53 [some (.ref 79), some (.int a1), some (.int v2), none, none] [] T I 0 0 := by
  unfold fX12_read_53 at h
  refine J.iload_n dX12_read_53 rfl rfl ?_
  refine J.aload_n dX12_read_54 rfl rfl ?_
  refine J.getR (r := 113) dX12_read_55 fX12_114 (hT.k 79 rfl) rfl (hT.r 79 42 rfl rfl) ?_
  refine J.iload_n dX12_read_58 rfl rfl ?_
  obtain ⟨hs1, h⟩ := h
  refine J.iald dX12_read_59 (hT.k 113 rfl) (hT.l 113 rfl) hs1 ?_
  refine J.icmp_ge (tgt := 92) dX12_read_60 (by decide) (fun hc2 => ?_) (fun hc2 => ?_)
  · have h := h.1 hc2
    refine J.iconst (v := 0) dX12_read_92 (by decide) ?_
    refine J.istore_n (ls' := [some (.ref 79), some (.int a1), some (.int 0), none, none]) dX12_read_93 rfl rfl rfl ?_
    exact J.weaken (ls' := [some (.ref 79), some (.int a1), some (.int 0), none, none]) (And.intro rfl (And.intro rfl (And.intro rfl trivial))) (hK94 0 I h)
  · have h := h.2 hc2
    refine J.aload_n dX12_read_63 rfl rfl ?_
    refine J.getR (r := 114) dX12_read_64 fX12_117 (hT.k 79 rfl) rfl (hT.r 79 43 rfl rfl) ?_
    refine J.bipush (v := 8) dX12_read_67 (by decide) ?_
    refine J.iload_n dX12_read_69 rfl rfl ?_
    refine J.imul dX12_read_70 ?_
    refine J.iload_n dX12_read_71 rfl rfl ?_
    refine J.iadd dX12_read_72 ?_
    refine J.atpc (pc' := 73) rfl ?_
    obtain ⟨hs3, h⟩ := h
    refine J.iald dX12_read_73 (hT.k 114 rfl) (hT.l 114 rfl) hs3 ?_
    refine J.bipush (v := 100) dX12_read_74 (by decide) ?_
    refine J.icmp_le (tgt := 86) dX12_read_76 (by decide) (fun hc4 => ?_) (fun hc4 => ?_)
    · have h := h.1 hc4
      refine J.iinc (v := (v2 + 1)) (ls' := [some (.ref 79), some (.int a1), some (.int (v2 + 1)), none, none]) dX12_read_86 rfl (by rfl) rfl ?_
      refine J.goto (tgt := 53) dX12_read_89 (by decide) ?_
      exact J.weaken (ls' := [some (.ref 79), some (.int a1), some (.int (v2 + 1)), none, none]) (And.intro rfl (And.intro rfl (And.intro rfl trivial))) (hK53 (v2 + 1) I h)
    · have h := h.2 hc4
      refine J.aload_n dX12_read_79 rfl rfl ?_
      refine J.ldc (v := (-1000001)) dX12_read_80 kcX12_199 ?_
      refine J.callVE (k := 79) (as := [.int (-1000001)]) (rest := []) dX12_read_82 kX12_finds vX12_finds lX12_200 (hT.k 79 rfl) rfl rfl rfl rfl rfl (by omega) (Nat.le_refl _) (Nat.le_refl _) (qX12_finds (d + 1) hT (-1000001) ) ?_
      exact J.iretQ dX12_read_85 rfl (Nat.le_refl _) (Nat.le_refl _) h
set_option maxHeartbeats 4000000 in
set_option maxRecDepth 100000 in
theorem sX12_read_94 (d : Nat) {T : Topo} (hT : Lay T) (a1 : Int32)    {Q : Int32 → Topo → IM → Prop} {K53 : Int32 → IM → Prop} {K94 : Int32 → IM → Prop} {K159 : Int32 → Int32 → IM → Prop} (hK53 : ∀ (v2 : Int32) (I : IM), K53 v2 I → J (d + 2) mX12_read (PI Q) 0 0 53 [some (.ref 79), some (.int a1), some (.int v2), none, none] [] T I 0 0) (hK94 : ∀ (v2 : Int32) (I : IM), K94 v2 I → J (d + 2) mX12_read (PI Q) 0 0 94 [some (.ref 79), some (.int a1), some (.int v2), none, none] [] T I 0 0) (hK159 : ∀ (v2 v3 : Int32) (I : IM), K159 v2 v3 I → J (d + 2) mX12_read (PI Q) 0 0 159 [some (.ref 79), some (.int a1), some (.int v2), some (.int v3), none] [] T I 0 0) (v2 : Int32) (I : IM) (h : fX12_read_94 T a1 Q K53 K94 K159 v2 I) : J (d + 2) mX12_read (PI Q) 0 0 94 [some (.ref 79), some (.int a1), some (.int v2), none, none] [] T I 0 0 := by
  unfold fX12_read_94 at h
  refine J.iload_n dX12_read_94 rfl rfl ?_
  refine J.aload_n dX12_read_95 rfl rfl ?_
  refine J.getR (r := 113) dX12_read_96 fX12_114 (hT.k 79 rfl) rfl (hT.r 79 42 rfl rfl) ?_
  refine J.iload_n dX12_read_99 rfl rfl ?_
  obtain ⟨hs1, h⟩ := h
  refine J.iald dX12_read_100 (hT.k 113 rfl) (hT.l 113 rfl) hs1 ?_
  refine J.icmp_ge (tgt := 155) dX12_read_101 (by decide) (fun hc2 => ?_) (fun hc2 => ?_)
  · have h := h.1 hc2
    refine J.iconst (v := 0) dX12_read_155 (by decide) ?_
    refine J.istore_n (ls' := [some (.ref 79), some (.int a1), some (.int 0), none, none]) dX12_read_156 rfl rfl rfl ?_
    refine J.iconst (v := 0) dX12_read_157 (by decide) ?_
    refine J.istore_n (ls' := [some (.ref 79), some (.int a1), some (.int 0), some (.int 0), none]) dX12_read_158 rfl rfl rfl ?_
    exact J.weaken (ls' := [some (.ref 79), some (.int a1), some (.int 0), some (.int 0), none]) (And.intro rfl (And.intro rfl (And.intro rfl (And.intro rfl trivial)))) (hK159 0 0 I h)
  · have h := h.2 hc2
    refine J.aload_n dX12_read_104 rfl rfl ?_
    refine J.getR (r := 114) dX12_read_105 fX12_117 (hT.k 79 rfl) rfl (hT.r 79 43 rfl rfl) ?_
    refine J.bipush (v := 8) dX12_read_108 (by decide) ?_
    refine J.iload_n dX12_read_110 rfl rfl ?_
    refine J.imul dX12_read_111 ?_
    refine J.iload_n dX12_read_112 rfl rfl ?_
    refine J.iadd dX12_read_113 ?_
    refine J.atpc (pc' := 114) rfl ?_
    obtain ⟨hs3, h⟩ := h
    refine J.iald dX12_read_114 (hT.k 114 rfl) (hT.l 114 rfl) hs3 ?_
    refine J.if_le (tgt := 149) dX12_read_115 (by decide) (fun hc4 => ?_) (fun hc4 => ?_)
    · have h := h.1 hc4
      refine J.iinc (v := (v2 + 1)) (ls' := [some (.ref 79), some (.int a1), some (.int (v2 + 1)), none, none]) dX12_read_149 rfl (by rfl) rfl ?_
      refine J.goto (tgt := 94) dX12_read_152 (by decide) ?_
      exact J.weaken (ls' := [some (.ref 79), some (.int a1), some (.int (v2 + 1)), none, none]) (And.intro rfl (And.intro rfl (And.intro rfl trivial))) (hK94 (v2 + 1) I h)
    · have h := h.2 hc4
      refine J.aload_n dX12_read_118 rfl rfl ?_
      refine J.getR (r := 101) dX12_read_119 fX12_78 (hT.k 79 rfl) rfl (hT.r 79 30 rfl rfl) ?_
      refine J.iload_n dX12_read_122 rfl rfl ?_
      obtain ⟨hs5, h⟩ := h
      refine J.iald dX12_read_123 (hT.k 101 rfl) (hT.l 101 rfl) hs5 ?_
      refine J.aload_n dX12_read_124 rfl rfl ?_
      refine J.getR (r := 114) dX12_read_125 fX12_117 (hT.k 79 rfl) rfl (hT.r 79 43 rfl rfl) ?_
      refine J.bipush (v := 8) dX12_read_128 (by decide) ?_
      refine J.iload_n dX12_read_130 rfl rfl ?_
      refine J.imul dX12_read_131 ?_
      refine J.iload_n dX12_read_132 rfl rfl ?_
      refine J.iadd dX12_read_133 ?_
      refine J.atpc (pc' := 134) rfl ?_
      obtain ⟨hs6, h⟩ := h
      refine J.iald dX12_read_134 (hT.k 114 rfl) (hT.l 114 rfl) hs6 ?_
      refine J.iadd dX12_read_135 ?_
      refine J.sipush (v := 1000) dX12_read_136 (by decide) ?_
      refine J.icmp_le (tgt := 149) dX12_read_139 (by decide) (fun hc7 => ?_) (fun hc7 => ?_)
      · have h := h.1 hc7
        refine J.iinc (v := (v2 + 1)) (ls' := [some (.ref 79), some (.int a1), some (.int (v2 + 1)), none, none]) dX12_read_149 rfl (by rfl) rfl ?_
        refine J.goto (tgt := 94) dX12_read_152 (by decide) ?_
        exact J.weaken (ls' := [some (.ref 79), some (.int a1), some (.int (v2 + 1)), none, none]) (And.intro rfl (And.intro rfl (And.intro rfl trivial))) (hK94 (v2 + 1) I h)
      · have h := h.2 hc7
        refine J.aload_n dX12_read_142 rfl rfl ?_
        refine J.ldc (v := (-1000002)) dX12_read_143 kcX12_204 ?_
        refine J.callVE (k := 79) (as := [.int (-1000002)]) (rest := []) dX12_read_145 kX12_finds vX12_finds lX12_200 (hT.k 79 rfl) rfl rfl rfl rfl rfl (by omega) (Nat.le_refl _) (Nat.le_refl _) (qX12_finds (d + 1) hT (-1000002) ) ?_
        exact J.iretQ dX12_read_148 rfl (Nat.le_refl _) (Nat.le_refl _) h
set_option maxHeartbeats 4000000 in
set_option maxRecDepth 100000 in
theorem sX12_read_159 (d : Nat) {T : Topo} (hT : Lay T) (a1 : Int32)    {Q : Int32 → Topo → IM → Prop} {K53 : Int32 → IM → Prop} {K94 : Int32 → IM → Prop} {K159 : Int32 → Int32 → IM → Prop} (hK53 : ∀ (v2 : Int32) (I : IM), K53 v2 I → J (d + 2) mX12_read (PI Q) 0 0 53 [some (.ref 79), some (.int a1), some (.int v2), none, none] [] T I 0 0) (hK94 : ∀ (v2 : Int32) (I : IM), K94 v2 I → J (d + 2) mX12_read (PI Q) 0 0 94 [some (.ref 79), some (.int a1), some (.int v2), none, none] [] T I 0 0) (hK159 : ∀ (v2 v3 : Int32) (I : IM), K159 v2 v3 I → J (d + 2) mX12_read (PI Q) 0 0 159 [some (.ref 79), some (.int a1), some (.int v2), some (.int v3), none] [] T I 0 0) (v2 v3 : Int32) (I : IM) (h : fX12_read_159 T a1 Q K53 K94 K159 v2 v3 I) : J (d + 2) mX12_read (PI Q) 0 0 159 [some (.ref 79), some (.int a1), some (.int v2), some (.int v3), none] [] T I 0 0 := by
  unfold fX12_read_159 at h
  refine J.iload_n dX12_read_159 rfl rfl ?_
  refine J.aload_n dX12_read_160 rfl rfl ?_
  refine J.getR (r := 113) dX12_read_161 fX12_114 (hT.k 79 rfl) rfl (hT.r 79 42 rfl rfl) ?_
  refine J.iload_n dX12_read_164 rfl rfl ?_
  obtain ⟨hs1, h⟩ := h
  refine J.iald dX12_read_165 (hT.k 113 rfl) (hT.l 113 rfl) hs1 ?_
  refine J.icmp_ge (tgt := 222) dX12_read_166 (by decide) (fun hc2 => ?_) (fun hc2 => ?_)
  · have h := h.1 hc2
    refine J.iload_n dX12_read_222 rfl rfl ?_
    exact J.iretQ dX12_read_223 rfl (Nat.le_refl _) (Nat.le_refl _) h
  · have h := h.2 hc2
    refine J.aload_n dX12_read_169 rfl rfl ?_
    refine J.getR (r := 114) dX12_read_170 fX12_117 (hT.k 79 rfl) rfl (hT.r 79 43 rfl rfl) ?_
    refine J.bipush (v := 8) dX12_read_173 (by decide) ?_
    refine J.iload_n dX12_read_175 rfl rfl ?_
    refine J.imul dX12_read_176 ?_
    refine J.iload_n dX12_read_177 rfl rfl ?_
    refine J.iadd dX12_read_178 ?_
    refine J.atpc (pc' := 179) rfl ?_
    obtain ⟨hs3, h⟩ := h
    refine J.iald dX12_read_179 (hT.k 114 rfl) (hT.l 114 rfl) hs3 ?_
    refine J.if_le (tgt := 197) dX12_read_180 (by decide) (fun hc4 => ?_) (fun hc4 => ?_)
    · have h := h.1 hc4
      refine J.iconst (v := 0) dX12_read_197 (by decide) ?_
      refine J.istore (ls' := [some (.ref 79), some (.int a1), some (.int v2), some (.int v3), some (.int 0)]) dX12_read_198 rfl rfl ?_
      refine J.aload_n dX12_read_200 rfl rfl ?_
      refine J.getR (r := 101) dX12_read_201 fX12_78 (hT.k 79 rfl) rfl (hT.r 79 30 rfl rfl) ?_
      refine J.iload_n dX12_read_204 rfl rfl ?_
      refine J.dup2 dX12_read_205 rfl rfl ?_
      obtain ⟨hs5, h⟩ := h
      refine J.iald dX12_read_206 (hT.k 101 rfl) (hT.l 101 rfl) hs5 ?_
      refine J.iload dX12_read_207 rfl ?_
      refine J.iadd dX12_read_209 ?_
      obtain ⟨hs6, h⟩ := h
      refine J.iast dX12_read_210 (hT.k 101 rfl) (hT.l 101 rfl) hs6 ?_
      refine J.iload_n dX12_read_211 rfl rfl ?_
      refine J.iload dX12_read_212 rfl ?_
      refine J.iadd dX12_read_214 ?_
      refine J.istore_n (ls' := [some (.ref 79), some (.int a1), some (.int (v2 + 0)), some (.int v3), some (.int 0)]) dX12_read_215 rfl rfl rfl ?_
      refine J.iinc (v := (v3 + 1)) (ls' := [some (.ref 79), some (.int a1), some (.int (v2 + 0)), some (.int (v3 + 1)), some (.int 0)]) dX12_read_216 rfl (by rfl) rfl ?_
      refine J.goto (tgt := 159) dX12_read_219 (by decide) ?_
      exact J.weaken (ls' := [some (.ref 79), some (.int a1), some (.int (v2 + 0)), some (.int (v3 + 1)), none]) (And.intro rfl (And.intro rfl (And.intro rfl (And.intro rfl trivial)))) (hK159 (v2 + 0) (v3 + 1) (up2 I 101 v3.toNatClampNeg ((I 101 v3.toNatClampNeg) + 0)) h)
    · have h := h.2 hc4
      refine J.aload_n dX12_read_183 rfl rfl ?_
      refine J.getR (r := 114) dX12_read_184 fX12_117 (hT.k 79 rfl) rfl (hT.r 79 43 rfl rfl) ?_
      refine J.bipush (v := 8) dX12_read_187 (by decide) ?_
      refine J.iload_n dX12_read_189 rfl rfl ?_
      refine J.imul dX12_read_190 ?_
      refine J.iload_n dX12_read_191 rfl rfl ?_
      refine J.iadd dX12_read_192 ?_
      refine J.atpc (pc' := 193) rfl ?_
      obtain ⟨hs7, h⟩ := h
      refine J.iald dX12_read_193 (hT.k 114 rfl) (hT.l 114 rfl) hs7 ?_
      refine J.goto (tgt := 198) dX12_read_194 (by decide) ?_
      refine J.istore (ls' := [some (.ref 79), some (.int a1), some (.int v2), some (.int v3), some (.int (I 114 ((8 * a1) + v3).toNatClampNeg))]) dX12_read_198 rfl rfl ?_
      refine J.aload_n dX12_read_200 rfl rfl ?_
      refine J.getR (r := 101) dX12_read_201 fX12_78 (hT.k 79 rfl) rfl (hT.r 79 30 rfl rfl) ?_
      refine J.iload_n dX12_read_204 rfl rfl ?_
      refine J.dup2 dX12_read_205 rfl rfl ?_
      obtain ⟨hs8, h⟩ := h
      refine J.iald dX12_read_206 (hT.k 101 rfl) (hT.l 101 rfl) hs8 ?_
      refine J.iload dX12_read_207 rfl ?_
      refine J.iadd dX12_read_209 ?_
      obtain ⟨hs9, h⟩ := h
      refine J.iast dX12_read_210 (hT.k 101 rfl) (hT.l 101 rfl) hs9 ?_
      refine J.iload_n dX12_read_211 rfl rfl ?_
      refine J.iload dX12_read_212 rfl ?_
      refine J.iadd dX12_read_214 ?_
      refine J.istore_n (ls' := [some (.ref 79), some (.int a1), some (.int (v2 + (I 114 ((8 * a1) + v3).toNatClampNeg))), some (.int v3), some (.int (I 114 ((8 * a1) + v3).toNatClampNeg))]) dX12_read_215 rfl rfl rfl ?_
      refine J.iinc (v := (v3 + 1)) (ls' := [some (.ref 79), some (.int a1), some (.int (v2 + (I 114 ((8 * a1) + v3).toNatClampNeg))), some (.int (v3 + 1)), some (.int (I 114 ((8 * a1) + v3).toNatClampNeg))]) dX12_read_216 rfl (by rfl) rfl ?_
      refine J.goto (tgt := 159) dX12_read_219 (by decide) ?_
      exact J.weaken (ls' := [some (.ref 79), some (.int a1), some (.int (v2 + (I 114 ((8 * a1) + v3).toNatClampNeg))), some (.int (v3 + 1)), none]) (And.intro rfl (And.intro rfl (And.intro rfl (And.intro rfl trivial)))) (hK159 (v2 + (I 114 ((8 * a1) + v3).toNatClampNeg)) (v3 + 1) (up2 I 101 v3.toNatClampNeg ((I 101 v3.toNatClampNeg) + (I 114 ((8 * a1) + v3).toNatClampNeg))) h)
set_option maxHeartbeats 4000000 in
set_option maxRecDepth 100000 in
theorem wX12_read (d : Nat) {T : Topo} (hT : Lay T) (a1 : Int32)   {Q : Int32 → Topo → IM → Prop} (V53 : Int32 → IM → Prop) (μ53 : Int32 → IM → Nat) (V94 : Int32 → IM → Prop) (μ94 : Int32 → IM → Nat) (V159 : Int32 → Int32 → IM → Prop) (μ159 : Int32 → Int32 → IM → Nat) (vc53 : ∀ (v2 : Int32) (I : IM), V53 v2 I → fX12_read_53 T a1 Q (fun w2 I_ => V53 w2 I_ ∧ μ53 w2 I_ < μ53 v2 I) (fun w2 I_ => V94 w2 I_ ∧ μ94 w2 I_ < μ53 v2 I) (fun w2 w3 I_ => V159 w2 w3 I_ ∧ μ159 w2 w3 I_ < μ53 v2 I) v2 I) (vc94 : ∀ (v2 : Int32) (I : IM), V94 v2 I → fX12_read_94 T a1 Q (fun w2 I_ => V53 w2 I_ ∧ μ53 w2 I_ < μ94 v2 I) (fun w2 I_ => V94 w2 I_ ∧ μ94 w2 I_ < μ94 v2 I) (fun w2 w3 I_ => V159 w2 w3 I_ ∧ μ159 w2 w3 I_ < μ94 v2 I) v2 I) (vc159 : ∀ (v2 v3 : Int32) (I : IM), V159 v2 v3 I → fX12_read_159 T a1 Q (fun w2 I_ => V53 w2 I_ ∧ μ53 w2 I_ < μ159 v2 v3 I) (fun w2 I_ => V94 w2 I_ ∧ μ94 w2 I_ < μ159 v2 v3 I) (fun w2 w3 I_ => V159 w2 w3 I_ ∧ μ159 w2 w3 I_ < μ159 v2 v3 I) v2 v3 I) {I : IM} (h : fX12_read_0 T a1 Q V53 V94 V159 I) : Ct (d + 2) mX12_read [.ref 79, .int a1] T I 0 0 (PI Q) := by
  have all : ∀ n : Nat, (∀ (v2 : Int32) (I : IM), V53 v2 I → μ53 v2 I < n → J (d + 2) mX12_read (PI Q) 0 0 53 [some (.ref 79), some (.int a1), some (.int v2), none, none] [] T I 0 0) ∧ (∀ (v2 : Int32) (I : IM), V94 v2 I → μ94 v2 I < n → J (d + 2) mX12_read (PI Q) 0 0 94 [some (.ref 79), some (.int a1), some (.int v2), none, none] [] T I 0 0) ∧ (∀ (v2 v3 : Int32) (I : IM), V159 v2 v3 I → μ159 v2 v3 I < n → J (d + 2) mX12_read (PI Q) 0 0 159 [some (.ref 79), some (.int a1), some (.int v2), some (.int v3), none] [] T I 0 0) := by
    intro n
    induction n with
    | zero => exact ⟨fun _ _ _ hn => absurd hn (Nat.not_lt_zero _), fun _ _ _ hn => absurd hn (Nat.not_lt_zero _), fun _ _ _ _ hn => absurd hn (Nat.not_lt_zero _)⟩
    | succ n ih =>
      exact ⟨fun v2 I hv hn => sX12_read_53 d hT a1   (fun w2 I_ hw => ih.1 w2 I_ hw.1 (by have := hw.2; omega)) (fun w2 I_ hw => ih.2.1 w2 I_ hw.1 (by have := hw.2; omega)) (fun w2 w3 I_ hw => ih.2.2 w2 w3 I_ hw.1 (by have := hw.2; omega)) v2 I (vc53 v2 I hv), fun v2 I hv hn => sX12_read_94 d hT a1   (fun w2 I_ hw => ih.1 w2 I_ hw.1 (by have := hw.2; omega)) (fun w2 I_ hw => ih.2.1 w2 I_ hw.1 (by have := hw.2; omega)) (fun w2 w3 I_ hw => ih.2.2 w2 w3 I_ hw.1 (by have := hw.2; omega)) v2 I (vc94 v2 I hv), fun v2 v3 I hv hn => sX12_read_159 d hT a1   (fun w2 I_ hw => ih.1 w2 I_ hw.1 (by have := hw.2; omega)) (fun w2 I_ hw => ih.2.1 w2 I_ hw.1 (by have := hw.2; omega)) (fun w2 w3 I_ hw => ih.2.2 w2 w3 I_ hw.1 (by have := hw.2; omega)) v2 v3 I (vc159 v2 v3 I hv)⟩
  exact Ct.ofJ (by decide +kernel) rfl (by intro v hv; revert v hv; simp [Value.category]) rfl (sX12_read_0 d hT a1   (fun w2 I_ hw => (all (μ53 w2 I_ + 1)).1 w2 I_ hw (Nat.lt_succ_self _)) (fun w2 I_ hw => (all (μ94 w2 I_ + 1)).2.1 w2 I_ hw (Nat.lt_succ_self _)) (fun w2 w3 I_ hw => (all (μ159 w2 w3 I_ + 1)).2.2 w2 w3 I_ hw (Nat.lt_succ_self _)) I h)

def jX12_readB53 (a1 : Int32) (F : (Nat → Int32 → Int32 → IM → Int32 × IM)) (v2 v3 : Int32) (I : IM) : Int32 × IM := (if (I 113 a1.toNatClampNeg) ≤ v2 then (F 1 0 0 I) else (if (I 114 ((8 * a1) + v2).toNatClampNeg) ≤ 100 then (F 0 (v2 + 1) 0 I) else ((jX12_finds (-1000001)), (jX12_findsM I))))
def jX12_readC53 (a1 : Int32) (F : (Nat → Int32 → Int32 → IM → Prop)) (v2 v3 : Int32) (I : IM) : Prop := (vp_in a1 4 ∧ ((((I 113 a1.toNatClampNeg) ≤ v2) → (F 1 0 0 I)) ∧ ((¬ (I 113 a1.toNatClampNeg) ≤ v2) → (vp_in ((8 * a1) + v2) 32 ∧ ((((I 114 ((8 * a1) + v2).toNatClampNeg) ≤ 100) → (F 0 (v2 + 1) 0 I)) ∧ ((¬ (I 114 ((8 * a1) + v2).toNatClampNeg) ≤ 100) → True))))))
def jX12_readB94 (a1 : Int32) (F : (Nat → Int32 → Int32 → IM → Int32 × IM)) (v2 v3 : Int32) (I : IM) : Int32 × IM := (if (I 113 a1.toNatClampNeg) ≤ v2 then (F 2 0 0 I) else (if (I 114 ((8 * a1) + v2).toNatClampNeg) ≤ 0 then (F 1 (v2 + 1) 0 I) else (if ((I 101 v2.toNatClampNeg) + (I 114 ((8 * a1) + v2).toNatClampNeg)) ≤ 1000 then (F 1 (v2 + 1) 0 I) else ((jX12_finds (-1000002)), (jX12_findsM I)))))
def jX12_readC94 (a1 : Int32) (F : (Nat → Int32 → Int32 → IM → Prop)) (v2 v3 : Int32) (I : IM) : Prop := (vp_in a1 4 ∧ ((((I 113 a1.toNatClampNeg) ≤ v2) → (F 2 0 0 I)) ∧ ((¬ (I 113 a1.toNatClampNeg) ≤ v2) → (vp_in ((8 * a1) + v2) 32 ∧ ((((I 114 ((8 * a1) + v2).toNatClampNeg) ≤ 0) → (F 1 (v2 + 1) 0 I)) ∧ ((¬ (I 114 ((8 * a1) + v2).toNatClampNeg) ≤ 0) → (vp_in v2 8 ∧ (vp_in ((8 * a1) + v2) 32 ∧ (((((I 101 v2.toNatClampNeg) + (I 114 ((8 * a1) + v2).toNatClampNeg)) ≤ 1000) → (F 1 (v2 + 1) 0 I)) ∧ ((¬ ((I 101 v2.toNatClampNeg) + (I 114 ((8 * a1) + v2).toNatClampNeg)) ≤ 1000) → True))))))))))
def jX12_readB159 (a1 : Int32) (F : (Nat → Int32 → Int32 → IM → Int32 × IM)) (v2 v3 : Int32) (I : IM) : Int32 × IM := (if (I 113 a1.toNatClampNeg) ≤ v3 then (v2, I) else (if (I 114 ((8 * a1) + v3).toNatClampNeg) ≤ 0 then (F 2 (v2 + 0) (v3 + 1) (up2 I 101 v3.toNatClampNeg ((I 101 v3.toNatClampNeg) + 0))) else (F 2 (v2 + (I 114 ((8 * a1) + v3).toNatClampNeg)) (v3 + 1) (up2 I 101 v3.toNatClampNeg ((I 101 v3.toNatClampNeg) + (I 114 ((8 * a1) + v3).toNatClampNeg))))))
def jX12_readC159 (a1 : Int32) (F : (Nat → Int32 → Int32 → IM → Prop)) (v2 v3 : Int32) (I : IM) : Prop := (vp_in a1 4 ∧ ((((I 113 a1.toNatClampNeg) ≤ v3) → True) ∧ ((¬ (I 113 a1.toNatClampNeg) ≤ v3) → (vp_in ((8 * a1) + v3) 32 ∧ ((((I 114 ((8 * a1) + v3).toNatClampNeg) ≤ 0) → (vp_in v3 8 ∧ (vp_in v3 8 ∧ (F 2 (v2 + 0) (v3 + 1) (up2 I 101 v3.toNatClampNeg ((I 101 v3.toNatClampNeg) + 0)))))) ∧ ((¬ (I 114 ((8 * a1) + v3).toNatClampNeg) ≤ 0) → (vp_in ((8 * a1) + v3) 32 ∧ (vp_in v3 8 ∧ (vp_in v3 8 ∧ (F 2 (v2 + (I 114 ((8 * a1) + v3).toNatClampNeg)) (v3 + 1) (up2 I 101 v3.toNatClampNeg ((I 101 v3.toNatClampNeg) + (I 114 ((8 * a1) + v3).toNatClampNeg)))))))))))))
def jX12_readI (a1 : Int32) : Nat → Nat → Int32 → Int32 → IM → Int32 × IM
  | 0 => fun _ _ _ I => (0, I)
  | n + 1 => fun tg v2 v3 I => (if tg = 0 then jX12_readB53 a1 (jX12_readI a1 n) v2 v3 I else (if tg = 1 then jX12_readB94 a1 (jX12_readI a1 n) v2 v3 I else (if tg = 2 then jX12_readB159 a1 (jX12_readI a1 n) v2 v3 I else (0, I))))
def jX12_readO (a1 : Int32) : Nat → Nat → Int32 → Int32 → IM → Prop
  | 0 => fun _ _ _ _ => False
  | n + 1 => fun tg v2 v3 I => (if tg = 0 then jX12_readC53 a1 (jX12_readO a1 n) v2 v3 I else (if tg = 1 then jX12_readC94 a1 (jX12_readO a1 n) v2 v3 I else (if tg = 2 then jX12_readC159 a1 (jX12_readO a1 n) v2 v3 I else True)))
theorem jX12_readI_53 (a1 : Int32) (n : Nat) (v2 v3 : Int32) (I : IM) : jX12_readI a1 (n + 1) 0 v2 v3 I = (if (I 113 a1.toNatClampNeg) ≤ v2 then (jX12_readI a1 n 1 0 0 I) else (if (I 114 ((8 * a1) + v2).toNatClampNeg) ≤ 100 then (jX12_readI a1 n 0 (v2 + 1) 0 I) else ((jX12_finds (-1000001)), (jX12_findsM I)))) := by
  show (if (0 : Nat) = 0 then jX12_readB53 a1 (jX12_readI a1 n) v2 v3 I else (if (0 : Nat) = 1 then jX12_readB94 a1 (jX12_readI a1 n) v2 v3 I else (if (0 : Nat) = 2 then jX12_readB159 a1 (jX12_readI a1 n) v2 v3 I else (0, I)))) = _
  rw [if_pos rfl]; rfl
theorem jX12_readO_53 (a1 : Int32) (n : Nat) (v2 v3 : Int32) (I : IM) : jX12_readO a1 (n + 1) 0 v2 v3 I = (vp_in a1 4 ∧ ((((I 113 a1.toNatClampNeg) ≤ v2) → (jX12_readO a1 n 1 0 0 I)) ∧ ((¬ (I 113 a1.toNatClampNeg) ≤ v2) → (vp_in ((8 * a1) + v2) 32 ∧ ((((I 114 ((8 * a1) + v2).toNatClampNeg) ≤ 100) → (jX12_readO a1 n 0 (v2 + 1) 0 I)) ∧ ((¬ (I 114 ((8 * a1) + v2).toNatClampNeg) ≤ 100) → True)))))) := by
  show (if (0 : Nat) = 0 then jX12_readC53 a1 (jX12_readO a1 n) v2 v3 I else (if (0 : Nat) = 1 then jX12_readC94 a1 (jX12_readO a1 n) v2 v3 I else (if (0 : Nat) = 2 then jX12_readC159 a1 (jX12_readO a1 n) v2 v3 I else True))) = _
  rw [if_pos rfl]; rfl
theorem jX12_readI_94 (a1 : Int32) (n : Nat) (v2 v3 : Int32) (I : IM) : jX12_readI a1 (n + 1) 1 v2 v3 I = (if (I 113 a1.toNatClampNeg) ≤ v2 then (jX12_readI a1 n 2 0 0 I) else (if (I 114 ((8 * a1) + v2).toNatClampNeg) ≤ 0 then (jX12_readI a1 n 1 (v2 + 1) 0 I) else (if ((I 101 v2.toNatClampNeg) + (I 114 ((8 * a1) + v2).toNatClampNeg)) ≤ 1000 then (jX12_readI a1 n 1 (v2 + 1) 0 I) else ((jX12_finds (-1000002)), (jX12_findsM I))))) := by
  show (if (1 : Nat) = 0 then jX12_readB53 a1 (jX12_readI a1 n) v2 v3 I else (if (1 : Nat) = 1 then jX12_readB94 a1 (jX12_readI a1 n) v2 v3 I else (if (1 : Nat) = 2 then jX12_readB159 a1 (jX12_readI a1 n) v2 v3 I else (0, I)))) = _
  rw [if_neg (by decide), if_pos rfl]; rfl
theorem jX12_readO_94 (a1 : Int32) (n : Nat) (v2 v3 : Int32) (I : IM) : jX12_readO a1 (n + 1) 1 v2 v3 I = (vp_in a1 4 ∧ ((((I 113 a1.toNatClampNeg) ≤ v2) → (jX12_readO a1 n 2 0 0 I)) ∧ ((¬ (I 113 a1.toNatClampNeg) ≤ v2) → (vp_in ((8 * a1) + v2) 32 ∧ ((((I 114 ((8 * a1) + v2).toNatClampNeg) ≤ 0) → (jX12_readO a1 n 1 (v2 + 1) 0 I)) ∧ ((¬ (I 114 ((8 * a1) + v2).toNatClampNeg) ≤ 0) → (vp_in v2 8 ∧ (vp_in ((8 * a1) + v2) 32 ∧ (((((I 101 v2.toNatClampNeg) + (I 114 ((8 * a1) + v2).toNatClampNeg)) ≤ 1000) → (jX12_readO a1 n 1 (v2 + 1) 0 I)) ∧ ((¬ ((I 101 v2.toNatClampNeg) + (I 114 ((8 * a1) + v2).toNatClampNeg)) ≤ 1000) → True)))))))))) := by
  show (if (1 : Nat) = 0 then jX12_readC53 a1 (jX12_readO a1 n) v2 v3 I else (if (1 : Nat) = 1 then jX12_readC94 a1 (jX12_readO a1 n) v2 v3 I else (if (1 : Nat) = 2 then jX12_readC159 a1 (jX12_readO a1 n) v2 v3 I else True))) = _
  rw [if_neg (by decide), if_pos rfl]; rfl
theorem jX12_readI_159 (a1 : Int32) (n : Nat) (v2 v3 : Int32) (I : IM) : jX12_readI a1 (n + 1) 2 v2 v3 I = (if (I 113 a1.toNatClampNeg) ≤ v3 then (v2, I) else (if (I 114 ((8 * a1) + v3).toNatClampNeg) ≤ 0 then (jX12_readI a1 n 2 (v2 + 0) (v3 + 1) (up2 I 101 v3.toNatClampNeg ((I 101 v3.toNatClampNeg) + 0))) else (jX12_readI a1 n 2 (v2 + (I 114 ((8 * a1) + v3).toNatClampNeg)) (v3 + 1) (up2 I 101 v3.toNatClampNeg ((I 101 v3.toNatClampNeg) + (I 114 ((8 * a1) + v3).toNatClampNeg)))))) := by
  show (if (2 : Nat) = 0 then jX12_readB53 a1 (jX12_readI a1 n) v2 v3 I else (if (2 : Nat) = 1 then jX12_readB94 a1 (jX12_readI a1 n) v2 v3 I else (if (2 : Nat) = 2 then jX12_readB159 a1 (jX12_readI a1 n) v2 v3 I else (0, I)))) = _
  rw [if_neg (by decide), if_neg (by decide), if_pos rfl]; rfl
theorem jX12_readO_159 (a1 : Int32) (n : Nat) (v2 v3 : Int32) (I : IM) : jX12_readO a1 (n + 1) 2 v2 v3 I = (vp_in a1 4 ∧ ((((I 113 a1.toNatClampNeg) ≤ v3) → True) ∧ ((¬ (I 113 a1.toNatClampNeg) ≤ v3) → (vp_in ((8 * a1) + v3) 32 ∧ ((((I 114 ((8 * a1) + v3).toNatClampNeg) ≤ 0) → (vp_in v3 8 ∧ (vp_in v3 8 ∧ (jX12_readO a1 n 2 (v2 + 0) (v3 + 1) (up2 I 101 v3.toNatClampNeg ((I 101 v3.toNatClampNeg) + 0)))))) ∧ ((¬ (I 114 ((8 * a1) + v3).toNatClampNeg) ≤ 0) → (vp_in ((8 * a1) + v3) 32 ∧ (vp_in v3 8 ∧ (vp_in v3 8 ∧ (jX12_readO a1 n 2 (v2 + (I 114 ((8 * a1) + v3).toNatClampNeg)) (v3 + 1) (up2 I 101 v3.toNatClampNeg ((I 101 v3.toNatClampNeg) + (I 114 ((8 * a1) + v3).toNatClampNeg))))))))))))) := by
  show (if (2 : Nat) = 0 then jX12_readC53 a1 (jX12_readO a1 n) v2 v3 I else (if (2 : Nat) = 1 then jX12_readC94 a1 (jX12_readO a1 n) v2 v3 I else (if (2 : Nat) = 2 then jX12_readC159 a1 (jX12_readO a1 n) v2 v3 I else True))) = _
  rw [if_neg (by decide), if_neg (by decide), if_pos rfl]; rfl
def jX12_read (I : IM) (a1 : Int32) : Int32 × IM := (if wi a1 0 3 then (if (I 112 a1.toNatClampNeg) = 0 then ((jX12_finds (-1000007)), (jX12_findsM I)) else (if (I 113 a1.toNatClampNeg) ≤ (I 79 2) then (jX12_readI a1 FU 0 0 0 I) else ((jX12_finds (-1000001)), (jX12_findsM I)))) else ((jX12_finds (-1000001)), (jX12_findsM I)))
def jX12_readK (I : IM) (a1 : Int32) : Prop := (((wi a1 0 3) → (vp_in a1 4 ∧ (((¬ (I 112 a1.toNatClampNeg) = 0) → (vp_in a1 4 ∧ ((((I 113 a1.toNatClampNeg) ≤ (I 79 2)) → (jX12_readO a1 FU 0 0 0 I)) ∧ ((¬ (I 113 a1.toNatClampNeg) ≤ (I 79 2)) → True)))) ∧ (((I 112 a1.toNatClampNeg) = 0) → True)))) ∧ ((¬ (wi a1 0 3)) → True))
set_option maxRecDepth 10000 in
set_option maxHeartbeats 1000000 in
theorem uX12_read (d : Nat) {T : Topo} (hT : Lay T) (a1 : Int32)   {R : Int32 × IM} : ∀ n : Nat, (∀ (v2 : Int32) (I : IM), jX12_readO a1 n 0 v2 0 I → jX12_readI a1 n 0 v2 0 I = R → J (d + 2) mX12_read (PI (fun x T' I' => T' = T ∧ x = R.1 ∧ I' = R.2)) 0 0 53 [some (.ref 79), some (.int a1), some (.int v2), none, none] [] T I 0 0) ∧ (∀ (v2 : Int32) (I : IM), jX12_readO a1 n 1 v2 0 I → jX12_readI a1 n 1 v2 0 I = R → J (d + 2) mX12_read (PI (fun x T' I' => T' = T ∧ x = R.1 ∧ I' = R.2)) 0 0 94 [some (.ref 79), some (.int a1), some (.int v2), none, none] [] T I 0 0) ∧ (∀ (v2 v3 : Int32) (I : IM), jX12_readO a1 n 2 v2 v3 I → jX12_readI a1 n 2 v2 v3 I = R → J (d + 2) mX12_read (PI (fun x T' I' => T' = T ∧ x = R.1 ∧ I' = R.2)) 0 0 159 [some (.ref 79), some (.int a1), some (.int v2), some (.int v3), none] [] T I 0 0) := by
  intro n
  induction n with
  | zero => exact ⟨fun _ _ hz => hz.elim, fun _ _ hz => hz.elim, fun _ _ _ hz => hz.elim⟩
  | succ n ih =>
    refine ⟨?_, ?_, ?_⟩
    · exact fun v2 I hok hit => by
        rw [jX12_readO_53] at hok
        exact sX12_read_53 d hT a1   (K53 := fun w2 I_ => (jX12_readO a1 n 0 w2 0 I_ ∧ jX12_readI a1 n 0 w2 0 I_ = R)) (K94 := fun w2 I_ => (jX12_readO a1 n 1 w2 0 I_ ∧ jX12_readI a1 n 1 w2 0 I_ = R)) (K159 := fun w2 w3 I_ => (jX12_readO a1 n 2 w2 w3 I_ ∧ jX12_readI a1 n 2 w2 w3 I_ = R)) (fun w2 I_ hw => ih.1 w2 I_ hw.1 hw.2) (fun w2 I_ hw => ih.2.1 w2 I_ hw.1 hw.2) (fun w2 w3 I_ hw => ih.2.2 w2 w3 I_ hw.1 hw.2) v2 I (by
          unfold fX12_read_53
          exact ⟨(hok).1, ⟨fun hc1 => ⟨((hok).2).1 hc1, by rw [jX12_readI_53, if_pos hc1] at hit; exact hit⟩, fun hc1 => ⟨(((hok).2).2 hc1).1, ⟨fun hc2 => ⟨((((hok).2).2 hc1).2).1 hc2, by rw [jX12_readI_53, if_neg hc1, if_pos hc2] at hit; exact hit⟩, fun hc2 => (by rw [jX12_readI_53, if_neg hc1, if_neg hc2] at hit; exact ⟨rfl, by rw [← hit], by rw [← hit]⟩)⟩⟩⟩⟩)
    · exact fun v2 I hok hit => by
        rw [jX12_readO_94] at hok
        exact sX12_read_94 d hT a1   (K53 := fun w2 I_ => (jX12_readO a1 n 0 w2 0 I_ ∧ jX12_readI a1 n 0 w2 0 I_ = R)) (K94 := fun w2 I_ => (jX12_readO a1 n 1 w2 0 I_ ∧ jX12_readI a1 n 1 w2 0 I_ = R)) (K159 := fun w2 w3 I_ => (jX12_readO a1 n 2 w2 w3 I_ ∧ jX12_readI a1 n 2 w2 w3 I_ = R)) (fun w2 I_ hw => ih.1 w2 I_ hw.1 hw.2) (fun w2 I_ hw => ih.2.1 w2 I_ hw.1 hw.2) (fun w2 w3 I_ hw => ih.2.2 w2 w3 I_ hw.1 hw.2) v2 I (by
          unfold fX12_read_94
          exact ⟨(hok).1, ⟨fun hc1 => ⟨((hok).2).1 hc1, by rw [jX12_readI_94, if_pos hc1] at hit; exact hit⟩, fun hc1 => ⟨(((hok).2).2 hc1).1, ⟨fun hc2 => ⟨((((hok).2).2 hc1).2).1 hc2, by rw [jX12_readI_94, if_neg hc1, if_pos hc2] at hit; exact hit⟩, fun hc2 => ⟨(((((hok).2).2 hc1).2).2 hc2).1, ⟨((((((hok).2).2 hc1).2).2 hc2).2).1, ⟨fun hc3 => ⟨(((((((hok).2).2 hc1).2).2 hc2).2).2).1 hc3, by rw [jX12_readI_94, if_neg hc1, if_neg hc2, if_pos hc3] at hit; exact hit⟩, fun hc3 => (by rw [jX12_readI_94, if_neg hc1, if_neg hc2, if_neg hc3] at hit; exact ⟨rfl, by rw [← hit], by rw [← hit]⟩)⟩⟩⟩⟩⟩⟩⟩)
    · exact fun v2 v3 I hok hit => by
        rw [jX12_readO_159] at hok
        exact sX12_read_159 d hT a1   (K53 := fun w2 I_ => (jX12_readO a1 n 0 w2 0 I_ ∧ jX12_readI a1 n 0 w2 0 I_ = R)) (K94 := fun w2 I_ => (jX12_readO a1 n 1 w2 0 I_ ∧ jX12_readI a1 n 1 w2 0 I_ = R)) (K159 := fun w2 w3 I_ => (jX12_readO a1 n 2 w2 w3 I_ ∧ jX12_readI a1 n 2 w2 w3 I_ = R)) (fun w2 I_ hw => ih.1 w2 I_ hw.1 hw.2) (fun w2 I_ hw => ih.2.1 w2 I_ hw.1 hw.2) (fun w2 w3 I_ hw => ih.2.2 w2 w3 I_ hw.1 hw.2) v2 v3 I (by
          unfold fX12_read_159
          exact ⟨(hok).1, ⟨fun hc1 => (by rw [jX12_readI_159, if_pos hc1] at hit; exact ⟨rfl, by rw [← hit], by rw [← hit]⟩), fun hc1 => ⟨(((hok).2).2 hc1).1, ⟨fun hc2 => ⟨(((((hok).2).2 hc1).2).1 hc2).1, ⟨((((((hok).2).2 hc1).2).1 hc2).2).1, ⟨((((((hok).2).2 hc1).2).1 hc2).2).2, by rw [jX12_readI_159, if_neg hc1, if_pos hc2] at hit; exact hit⟩⟩⟩, fun hc2 => ⟨(((((hok).2).2 hc1).2).2 hc2).1, ⟨((((((hok).2).2 hc1).2).2 hc2).2).1, ⟨(((((((hok).2).2 hc1).2).2 hc2).2).2).1, ⟨(((((((hok).2).2 hc1).2).2 hc2).2).2).2, by rw [jX12_readI_159, if_neg hc1, if_neg hc2] at hit; exact hit⟩⟩⟩⟩⟩⟩⟩⟩)
set_option maxRecDepth 10000 in
set_option maxHeartbeats 1000000 in
theorem qX12_read (d : Nat) {T : Topo} {I : IM} (hT : Lay T) (a1 : Int32)  (hp : (jX12_readK I a1)) : CtI (d + 2) mX12_read [.ref 79, .int a1] T I (fun x_ J_ => x_ = (jX12_read I a1).1 ∧ J_ = (jX12_read I a1).2) := by
  unfold jX12_readK at hp
  exact Ct.ofJ (by decide +kernel) rfl (by intro v hv; revert v hv; simp [Value.category]) rfl (sX12_read_0 d hT a1   (K53 := fun w2 I_ => (jX12_readO a1 FU 0 w2 0 I_ ∧ jX12_readI a1 FU 0 w2 0 I_ = (jX12_read I a1))) (K94 := fun w2 I_ => (jX12_readO a1 FU 1 w2 0 I_ ∧ jX12_readI a1 FU 1 w2 0 I_ = (jX12_read I a1))) (K159 := fun w2 w3 I_ => (jX12_readO a1 FU 2 w2 w3 I_ ∧ jX12_readI a1 FU 2 w2 w3 I_ = (jX12_read I a1))) (fun w2 I_ hw => (uX12_read d hT a1   FU).1 w2 I_ hw.1 hw.2) (fun w2 I_ hw => (uX12_read d hT a1   FU).2.1 w2 I_ hw.1 hw.2) (fun w2 w3 I_ hw => (uX12_read d hT a1   FU).2.2 w2 w3 I_ hw.1 hw.2) I (by
    unfold fX12_read_0
    exact ⟨fun hc1 => ⟨((hp).1 hc1).1, ⟨fun hc2 => ⟨((((hp).1 hc1).2).1 hc2).1, ⟨fun hc3 => ⟨(((((hp).1 hc1).2).1 hc2).2).1 hc3, by unfold jX12_read; rw [if_pos hc1, if_neg hc2, if_pos hc3]⟩, fun hc3 => ⟨rfl, by unfold jX12_read; rw [if_pos hc1, if_neg hc2, if_neg hc3], by unfold jX12_read; rw [if_pos hc1, if_neg hc2, if_neg hc3]⟩⟩⟩, fun hc2 => ⟨rfl, by unfold jX12_read; rw [if_pos hc1, if_pos hc2], by unfold jX12_read; rw [if_pos hc1, if_pos hc2]⟩⟩⟩, fun hc1 => ⟨rfl, by unfold jX12_read; rw [if_neg hc1], by unfold jX12_read; rw [if_neg hc1]⟩⟩))

def fX12_told_0 (T : Topo) (a1 : Int32) (Q : Int32 → Topo → IM → Prop)  (I : IM) : Prop :=
  ((a1 = 0 → Q (I 79 0) T I) ∧ (a1 = 1 → Q (I 79 1) T I) ∧ (a1 = 2 → Q (I 79 2) T I) ∧ (a1 = 3 → (((jX12_countInK I)) ∧ Q (jX12_countIn I) T I)) ∧ (a1 = 4 → Q (I 79 3) T I) ∧ (a1 = 5 → Q (I 79 4) T I) ∧ (a1 = 6 → Q (I 79 6) T I) ∧ (a1 = 7 → Q (I 79 7) T I) ∧ ((a1.toInt < 0 ∨ 7 < a1.toInt) → (Q (jX12_finds (-1000001)) T (jX12_findsM I))))
set_option maxHeartbeats 4000000 in
set_option maxRecDepth 100000 in
theorem sX12_told_0 (d : Nat) {T : Topo} (hT : Lay T) (a1 : Int32)    {Q : Int32 → Topo → IM → Prop}   (I : IM) (h : fX12_told_0 T a1 Q  I) : J (d + 1) mX12_told (PI Q) 0 0 0 [some (.ref 79), some (.int a1)] [] T I 0 0 := by
  unfold fX12_told_0 at h
  refine J.iload_n dX12_told_0 rfl rfl ?_
  obtain ⟨h0_, h1_, h2_, h3_, h4_, h5_, h6_, h7_, hdf⟩ := h
  rcases sw_0_7 a1 with e | e | e | e | e | e | e | e | e
  · refine J.tableIn (off := 47) (tgt := 48) dX12_told_1 (by rw [e]; decide) (by rw [e]; decide) (by rw [e]; decide) (by decide) ?_
    have h := h0_ e
    refine J.aload_n dX12_told_48 rfl rfl ?_
    refine J.getI dX12_told_49 fX12_186 (hT.k 79 rfl) rfl ?_
    exact J.iretQ dX12_told_52 rfl (Nat.le_refl _) (Nat.le_refl _) h
  · refine J.tableIn (off := 52) (tgt := 53) dX12_told_1 (by rw [e]; decide) (by rw [e]; decide) (by rw [e]; decide) (by decide) ?_
    have h := h1_ e
    refine J.aload_n dX12_told_53 rfl rfl ?_
    refine J.getI dX12_told_54 fX12_193 (hT.k 79 rfl) rfl ?_
    exact J.iretQ dX12_told_57 rfl (Nat.le_refl _) (Nat.le_refl _) h
  · refine J.tableIn (off := 57) (tgt := 58) dX12_told_1 (by rw [e]; decide) (by rw [e]; decide) (by rw [e]; decide) (by decide) ?_
    have h := h2_ e
    refine J.aload_n dX12_told_58 rfl rfl ?_
    refine J.getI dX12_told_59 fX12_196 (hT.k 79 rfl) rfl ?_
    exact J.iretQ dX12_told_62 rfl (Nat.le_refl _) (Nat.le_refl _) h
  · refine J.tableIn (off := 62) (tgt := 63) dX12_told_1 (by rw [e]; decide) (by rw [e]; decide) (by rw [e]; decide) (by decide) ?_
    have h := h3_ e
    refine J.aload_n dX12_told_63 rfl rfl ?_
    obtain ⟨hp1, h⟩ := h
    refine J.callVP (k := 79) (as := []) (rest := []) dX12_told_64 kX12_countIn vX12_countIn lX12_352 (hT.k 79 rfl) rfl rfl rfl rfl rfl (by omega) (Nat.le_refl _) (Nat.le_refl _) (qX12_countIn (d + 0) hT  hp1) ?_
    exact J.iretQ dX12_told_67 rfl (Nat.le_refl _) (Nat.le_refl _) h
  · refine J.tableIn (off := 67) (tgt := 68) dX12_told_1 (by rw [e]; decide) (by rw [e]; decide) (by rw [e]; decide) (by decide) ?_
    have h := h4_ e
    refine J.aload_n dX12_told_68 rfl rfl ?_
    refine J.getI dX12_told_69 fX12_335 (hT.k 79 rfl) rfl ?_
    exact J.iretQ dX12_told_72 rfl (Nat.le_refl _) (Nat.le_refl _) h
  · refine J.tableIn (off := 72) (tgt := 73) dX12_told_1 (by rw [e]; decide) (by rw [e]; decide) (by rw [e]; decide) (by decide) ?_
    have h := h5_ e
    refine J.aload_n dX12_told_73 rfl rfl ?_
    refine J.getI dX12_told_74 fX12_183 (hT.k 79 rfl) rfl ?_
    exact J.iretQ dX12_told_77 rfl (Nat.le_refl _) (Nat.le_refl _) h
  · refine J.tableIn (off := 77) (tgt := 78) dX12_told_1 (by rw [e]; decide) (by rw [e]; decide) (by rw [e]; decide) (by decide) ?_
    have h := h6_ e
    refine J.aload_n dX12_told_78 rfl rfl ?_
    refine J.getI dX12_told_79 fX12_329 (hT.k 79 rfl) rfl ?_
    exact J.iretQ dX12_told_82 rfl (Nat.le_refl _) (Nat.le_refl _) h
  · refine J.tableIn (off := 82) (tgt := 83) dX12_told_1 (by rw [e]; decide) (by rw [e]; decide) (by rw [e]; decide) (by decide) ?_
    have h := h7_ e
    refine J.aload_n dX12_told_83 rfl rfl ?_
    refine J.getI dX12_told_84 fX12_332 (hT.k 79 rfl) rfl ?_
    exact J.iretQ dX12_told_87 rfl (Nat.le_refl _) (Nat.le_refl _) h
  · refine J.tableOut (tgt := 88) dX12_told_1 e (by decide) ?_
    have h := hdf e
    refine J.aload_n dX12_told_88 rfl rfl ?_
    refine J.ldc (v := (-1000001)) dX12_told_89 kcX12_199 ?_
    refine J.callVE (k := 79) (as := [.int (-1000001)]) (rest := []) dX12_told_91 kX12_finds vX12_finds lX12_200 (hT.k 79 rfl) rfl rfl rfl rfl rfl (by omega) (Nat.le_refl _) (Nat.le_refl _) (qX12_finds (d + 0) hT (-1000001) ) ?_
    exact J.iretQ dX12_told_94 rfl (Nat.le_refl _) (Nat.le_refl _) h
set_option maxHeartbeats 4000000 in
set_option maxRecDepth 100000 in
theorem wX12_told (d : Nat) {T : Topo} (hT : Lay T) (a1 : Int32)   {Q : Int32 → Topo → IM → Prop} {I : IM} (h : fX12_told_0 T a1 Q I) : Ct (d + 1) mX12_told [.ref 79, .int a1] T I 0 0 (PI Q) :=
  Ct.ofJ (by decide +kernel) rfl (by intro v hv; revert v hv; simp [Value.category]) rfl (sX12_told_0 d hT a1   I h)

def jX12_told (I : IM) (a1 : Int32) : Int32 := (if a1 = 0 then (I 79 0) else (if a1 = 1 then (I 79 1) else (if a1 = 2 then (I 79 2) else (if a1 = 3 then (jX12_countIn I) else (if a1 = 4 then (I 79 3) else (if a1 = 5 then (I 79 4) else (if a1 = 6 then (I 79 6) else (if a1 = 7 then (I 79 7) else (jX12_finds (-1000001))))))))))
def jX12_toldM (I : IM) (a1 : Int32) : IM := (if a1 = 0 then I else (if a1 = 1 then I else (if a1 = 2 then I else (if a1 = 3 then I else (if a1 = 4 then I else (if a1 = 5 then I else (if a1 = 6 then I else (if a1 = 7 then I else (jX12_findsM I)))))))))
def jX12_toldK (I : IM) (a1 : Int32) : Prop := ((a1 = 0 → True) ∧ (a1 = 1 → True) ∧ (a1 = 2 → True) ∧ (a1 = 3 → ((jX12_countInK I))) ∧ (a1 = 4 → True) ∧ (a1 = 5 → True) ∧ (a1 = 6 → True) ∧ (a1 = 7 → True) ∧ ((a1.toInt < 0 ∨ 7 < a1.toInt) → True))
set_option maxRecDepth 10000 in
theorem qX12_told (d : Nat) {T : Topo} {I : IM} (hT : Lay T) (a1 : Int32)  (hp : (jX12_toldK I a1)) : CtI (d + 1) mX12_told [.ref 79, .int a1] T I (fun x_ J_ => x_ = (jX12_told I a1) ∧ J_ = (jX12_toldM I a1)) :=
  wX12_told d hT a1   (by
  unfold fX12_told_0
  exact ⟨fun hw1 => ⟨rfl, by unfold jX12_told; rw [if_pos hw1], by unfold jX12_toldM; rw [if_pos hw1]⟩, fun hw1 => ⟨rfl, by unfold jX12_told; rw [if_neg (show ¬ a1 = 0 by rw [hw1]; decide), if_pos hw1], by unfold jX12_toldM; rw [if_neg (show ¬ a1 = 0 by rw [hw1]; decide), if_pos hw1]⟩, fun hw1 => ⟨rfl, by unfold jX12_told; rw [if_neg (show ¬ a1 = 0 by rw [hw1]; decide), if_neg (show ¬ a1 = 1 by rw [hw1]; decide), if_pos hw1], by unfold jX12_toldM; rw [if_neg (show ¬ a1 = 0 by rw [hw1]; decide), if_neg (show ¬ a1 = 1 by rw [hw1]; decide), if_pos hw1]⟩, fun hw1 => ⟨((hp).2.2.2.1) hw1, ⟨rfl, by unfold jX12_told; rw [if_neg (show ¬ a1 = 0 by rw [hw1]; decide), if_neg (show ¬ a1 = 1 by rw [hw1]; decide), if_neg (show ¬ a1 = 2 by rw [hw1]; decide), if_pos hw1], by unfold jX12_toldM; rw [if_neg (show ¬ a1 = 0 by rw [hw1]; decide), if_neg (show ¬ a1 = 1 by rw [hw1]; decide), if_neg (show ¬ a1 = 2 by rw [hw1]; decide), if_pos hw1]⟩⟩, fun hw1 => ⟨rfl, by unfold jX12_told; rw [if_neg (show ¬ a1 = 0 by rw [hw1]; decide), if_neg (show ¬ a1 = 1 by rw [hw1]; decide), if_neg (show ¬ a1 = 2 by rw [hw1]; decide), if_neg (show ¬ a1 = 3 by rw [hw1]; decide), if_pos hw1], by unfold jX12_toldM; rw [if_neg (show ¬ a1 = 0 by rw [hw1]; decide), if_neg (show ¬ a1 = 1 by rw [hw1]; decide), if_neg (show ¬ a1 = 2 by rw [hw1]; decide), if_neg (show ¬ a1 = 3 by rw [hw1]; decide), if_pos hw1]⟩, fun hw1 => ⟨rfl, by unfold jX12_told; rw [if_neg (show ¬ a1 = 0 by rw [hw1]; decide), if_neg (show ¬ a1 = 1 by rw [hw1]; decide), if_neg (show ¬ a1 = 2 by rw [hw1]; decide), if_neg (show ¬ a1 = 3 by rw [hw1]; decide), if_neg (show ¬ a1 = 4 by rw [hw1]; decide), if_pos hw1], by unfold jX12_toldM; rw [if_neg (show ¬ a1 = 0 by rw [hw1]; decide), if_neg (show ¬ a1 = 1 by rw [hw1]; decide), if_neg (show ¬ a1 = 2 by rw [hw1]; decide), if_neg (show ¬ a1 = 3 by rw [hw1]; decide), if_neg (show ¬ a1 = 4 by rw [hw1]; decide), if_pos hw1]⟩, fun hw1 => ⟨rfl, by unfold jX12_told; rw [if_neg (show ¬ a1 = 0 by rw [hw1]; decide), if_neg (show ¬ a1 = 1 by rw [hw1]; decide), if_neg (show ¬ a1 = 2 by rw [hw1]; decide), if_neg (show ¬ a1 = 3 by rw [hw1]; decide), if_neg (show ¬ a1 = 4 by rw [hw1]; decide), if_neg (show ¬ a1 = 5 by rw [hw1]; decide), if_pos hw1], by unfold jX12_toldM; rw [if_neg (show ¬ a1 = 0 by rw [hw1]; decide), if_neg (show ¬ a1 = 1 by rw [hw1]; decide), if_neg (show ¬ a1 = 2 by rw [hw1]; decide), if_neg (show ¬ a1 = 3 by rw [hw1]; decide), if_neg (show ¬ a1 = 4 by rw [hw1]; decide), if_neg (show ¬ a1 = 5 by rw [hw1]; decide), if_pos hw1]⟩, fun hw1 => ⟨rfl, by unfold jX12_told; rw [if_neg (show ¬ a1 = 0 by rw [hw1]; decide), if_neg (show ¬ a1 = 1 by rw [hw1]; decide), if_neg (show ¬ a1 = 2 by rw [hw1]; decide), if_neg (show ¬ a1 = 3 by rw [hw1]; decide), if_neg (show ¬ a1 = 4 by rw [hw1]; decide), if_neg (show ¬ a1 = 5 by rw [hw1]; decide), if_neg (show ¬ a1 = 6 by rw [hw1]; decide), if_pos hw1], by unfold jX12_toldM; rw [if_neg (show ¬ a1 = 0 by rw [hw1]; decide), if_neg (show ¬ a1 = 1 by rw [hw1]; decide), if_neg (show ¬ a1 = 2 by rw [hw1]; decide), if_neg (show ¬ a1 = 3 by rw [hw1]; decide), if_neg (show ¬ a1 = 4 by rw [hw1]; decide), if_neg (show ¬ a1 = 5 by rw [hw1]; decide), if_neg (show ¬ a1 = 6 by rw [hw1]; decide), if_pos hw1]⟩, fun hw1 => ⟨rfl, by unfold jX12_told; rw [if_neg (swd_0_7 hw1).1, if_neg (swd_0_7 hw1).2.1, if_neg (swd_0_7 hw1).2.2.1, if_neg (swd_0_7 hw1).2.2.2.1, if_neg (swd_0_7 hw1).2.2.2.2.1, if_neg (swd_0_7 hw1).2.2.2.2.2.1, if_neg (swd_0_7 hw1).2.2.2.2.2.2.1, if_neg (swd_0_7 hw1).2.2.2.2.2.2.2], by unfold jX12_toldM; rw [if_neg (swd_0_7 hw1).1, if_neg (swd_0_7 hw1).2.1, if_neg (swd_0_7 hw1).2.2.1, if_neg (swd_0_7 hw1).2.2.2.1, if_neg (swd_0_7 hw1).2.2.2.2.1, if_neg (swd_0_7 hw1).2.2.2.2.2.1, if_neg (swd_0_7 hw1).2.2.2.2.2.2.1, if_neg (swd_0_7 hw1).2.2.2.2.2.2.2]⟩⟩)

def fX12_places_0 (T : Topo) (a1 : Int32) (Q : Int32 → Topo → IM → Prop) (K22 : Int32 → IM → Prop) (I : IM) : Prop :=
  ((((wi a1 0 (I 79 2 - 1)) → (((jX12_startK I a1)) ∧ K22 0 (jX12_startM I a1))) ∧ ((¬ (wi a1 0 (I 79 2 - 1))) → (Q (jX12_finds (-1000001)) T (jX12_findsM I)))))
def fX12_places_22 (T : Topo) (a1 : Int32) (Q : Int32 → Topo → IM → Prop) (K22 : Int32 → IM → Prop) (v2 : Int32) (I : IM) : Prop :=
  (((jX12_advanceK I a1)) ∧ (((((jX12_advance I a1).1) = 0) → Q v2 T (jX12_advance I a1).2) ∧ ((¬ ((jX12_advance I a1).1) = 0) → K22 (v2 + 1) (jX12_advance I a1).2)))
set_option maxHeartbeats 4000000 in
set_option maxRecDepth 100000 in
theorem sX12_places_0 (d : Nat) {T : Topo} (hT : Lay T) (a1 : Int32)    {Q : Int32 → Topo → IM → Prop} {K22 : Int32 → IM → Prop} (hK22 : ∀ (v2 : Int32) (I : IM), K22 v2 I → J (d + 4) mX12_places (PI Q) 0 0 22 [some (.ref 79), some (.int a1), some (.int v2)] [] T I 0 0) (I : IM) (h : fX12_places_0 T a1 Q K22 I) : J (d + 4) mX12_places (PI Q) 0 0 0 [some (.ref 79), some (.int a1), none] [] T I 0 0 := by
  unfold fX12_places_0 at h
  refine J.aload_n dX12_places_0 rfl rfl ?_
  refine J.iload_n dX12_places_1 rfl rfl ?_
  refine J.callVP (k := 79) (as := [.int a1]) (rest := []) dX12_places_2 kX12_isSlice vX12_isSlice lX12_235 (hT.k 79 rfl) rfl rfl rfl rfl rfl (by omega) (Nat.le_refl _) (Nat.le_refl _) (qX12_isSlice (d + 2) hT a1 ) ?_
  refine J.bz_ne (tgt := 15) dX12_places_5 (by decide) (fun hc1 => ?_) (fun hc1 => ?_)
  · have h := h.1 hc1
    refine J.aload_n dX12_places_15 rfl rfl ?_
    refine J.iload_n dX12_places_16 rfl rfl ?_
    obtain ⟨hp2, h⟩ := h
    refine J.callVD (k := 79) (as := [.int a1]) (rest := []) dX12_places_17 kX12_start vX12_start lX12_284 (hT.k 79 rfl) rfl rfl rfl rfl rfl (by omega) (Nat.le_refl _) (Nat.le_refl _) (qX12_start (d + 0) hT a1 hp2) ?_
    refine J.iconst (v := 0) dX12_places_20 (by decide) ?_
    refine J.istore_n (ls' := [some (.ref 79), some (.int a1), some (.int 0)]) dX12_places_21 rfl rfl rfl ?_
    exact J.weaken (ls' := [some (.ref 79), some (.int a1), some (.int 0)]) (And.intro rfl (And.intro rfl (And.intro rfl trivial))) (hK22 0 (jX12_startM I a1) h)
  · have h := h.2 hc1
    refine J.aload_n dX12_places_8 rfl rfl ?_
    refine J.ldc (v := (-1000001)) dX12_places_9 kcX12_199 ?_
    refine J.callVE (k := 79) (as := [.int (-1000001)]) (rest := []) dX12_places_11 kX12_finds vX12_finds lX12_200 (hT.k 79 rfl) rfl rfl rfl rfl rfl (by omega) (Nat.le_refl _) (Nat.le_refl _) (qX12_finds (d + 3) hT (-1000001) ) ?_
    exact J.iretQ dX12_places_14 rfl (Nat.le_refl _) (Nat.le_refl _) h
set_option maxHeartbeats 4000000 in
set_option maxRecDepth 100000 in
theorem sX12_places_22 (d : Nat) {T : Topo} (hT : Lay T) (a1 : Int32)    {Q : Int32 → Topo → IM → Prop} {K22 : Int32 → IM → Prop} (hK22 : ∀ (v2 : Int32) (I : IM), K22 v2 I → J (d + 4) mX12_places (PI Q) 0 0 22 [some (.ref 79), some (.int a1), some (.int v2)] [] T I 0 0) (v2 : Int32) (I : IM) (h : fX12_places_22 T a1 Q K22 v2 I) : J (d + 4) mX12_places (PI Q) 0 0 22 [some (.ref 79), some (.int a1), some (.int v2)] [] T I 0 0 := by
  unfold fX12_places_22 at h
  refine J.aload_n dX12_places_22 rfl rfl ?_
  refine J.iload_n dX12_places_23 rfl rfl ?_
  obtain ⟨hp1, h⟩ := h
  refine J.callVE (k := 79) (as := [.int a1]) (rest := []) dX12_places_24 kX12_advance vX12_advance lX12_288 (hT.k 79 rfl) rfl rfl rfl rfl rfl (by omega) (Nat.le_refl _) (Nat.le_refl _) (qX12_advance (d + 2) hT a1 hp1) ?_
  refine J.if_eq (tgt := 36) dX12_places_27 (by decide) (fun hc2 => ?_) (fun hc2 => ?_)
  · have h := h.1 hc2
    refine J.iload_n dX12_places_36 rfl rfl ?_
    exact J.iretQ dX12_places_37 rfl (Nat.le_refl _) (Nat.le_refl _) h
  · have h := h.2 hc2
    refine J.iinc (v := (v2 + 1)) (ls' := [some (.ref 79), some (.int a1), some (.int (v2 + 1))]) dX12_places_30 rfl (by rfl) rfl ?_
    refine J.goto (tgt := 22) dX12_places_33 (by decide) ?_
    exact J.weaken (ls' := [some (.ref 79), some (.int a1), some (.int (v2 + 1))]) (And.intro rfl (And.intro rfl (And.intro rfl trivial))) (hK22 (v2 + 1) (jX12_advance I a1).2 h)
set_option maxHeartbeats 4000000 in
set_option maxRecDepth 100000 in
theorem wX12_places (d : Nat) {T : Topo} (hT : Lay T) (a1 : Int32)   {Q : Int32 → Topo → IM → Prop} (V22 : Int32 → IM → Prop) (μ22 : Int32 → IM → Nat) (vc22 : ∀ (v2 : Int32) (I : IM), V22 v2 I → fX12_places_22 T a1 Q (fun w2 I_ => V22 w2 I_ ∧ μ22 w2 I_ < μ22 v2 I) v2 I) {I : IM} (h : fX12_places_0 T a1 Q V22 I) : Ct (d + 4) mX12_places [.ref 79, .int a1] T I 0 0 (PI Q) := by
  have all : ∀ n : Nat, (∀ (v2 : Int32) (I : IM), V22 v2 I → μ22 v2 I < n → J (d + 4) mX12_places (PI Q) 0 0 22 [some (.ref 79), some (.int a1), some (.int v2)] [] T I 0 0) := by
    intro n
    induction n with
    | zero => exact fun _ _ _ hn => absurd hn (Nat.not_lt_zero _)
    | succ n ih =>
      exact fun v2 I hv hn => sX12_places_22 d hT a1   (fun w2 I_ hw => ih w2 I_ hw.1 (by have := hw.2; omega)) v2 I (vc22 v2 I hv)
  exact Ct.ofJ (by decide +kernel) rfl (by intro v hv; revert v hv; simp [Value.category]) rfl (sX12_places_0 d hT a1   (fun w2 I_ hw => (all (μ22 w2 I_ + 1)) w2 I_ hw (Nat.lt_succ_self _)) I h)

def jX12_placesI (a1 : Int32) : Nat → Int32 → IM → Int32 × IM
  | 0 => fun _ I => (0, I)
  | n + 1 => fun v2 I => (if ((jX12_advance I a1).1) = 0 then (v2, (jX12_advance I a1).2) else (jX12_placesI a1 n (v2 + 1) ((jX12_advance I a1).2)))
def jX12_placesO (a1 : Int32) : Nat → Int32 → IM → Prop
  | 0 => fun _ _ => False
  | n + 1 => fun v2 I => (((jX12_advanceK I a1)) ∧ (((((jX12_advance I a1).1) = 0) → True) ∧ ((¬ ((jX12_advance I a1).1) = 0) → (jX12_placesO a1 n (v2 + 1) ((jX12_advance I a1).2)))))
theorem jX12_placesI_22 (a1 : Int32) (n : Nat) (v2 : Int32) (I : IM) : jX12_placesI a1 (n + 1) v2 I = (if ((jX12_advance I a1).1) = 0 then (v2, (jX12_advance I a1).2) else (jX12_placesI a1 n (v2 + 1) ((jX12_advance I a1).2))) := rfl
theorem jX12_placesO_22 (a1 : Int32) (n : Nat) (v2 : Int32) (I : IM) : jX12_placesO a1 (n + 1) v2 I = (((jX12_advanceK I a1)) ∧ (((((jX12_advance I a1).1) = 0) → True) ∧ ((¬ ((jX12_advance I a1).1) = 0) → (jX12_placesO a1 n (v2 + 1) ((jX12_advance I a1).2))))) := rfl
def jX12_places (I : IM) (a1 : Int32) : Int32 × IM := (if wi a1 0 (I 79 2 - 1) then (jX12_placesI a1 FU 0 (jX12_startM I a1)) else ((jX12_finds (-1000001)), (jX12_findsM I)))
def jX12_placesK (I : IM) (a1 : Int32) : Prop := (((wi a1 0 (I 79 2 - 1)) → (((jX12_startK I a1)) ∧ (jX12_placesO a1 FU 0 (jX12_startM I a1)))) ∧ ((¬ (wi a1 0 (I 79 2 - 1))) → True))
set_option maxRecDepth 10000 in
set_option maxHeartbeats 1000000 in
theorem uX12_places (d : Nat) {T : Topo} (hT : Lay T) (a1 : Int32)   {R : Int32 × IM} : ∀ n : Nat, (∀ (v2 : Int32) (I : IM), jX12_placesO a1 n v2 I → jX12_placesI a1 n v2 I = R → J (d + 4) mX12_places (PI (fun x T' I' => T' = T ∧ x = R.1 ∧ I' = R.2)) 0 0 22 [some (.ref 79), some (.int a1), some (.int v2)] [] T I 0 0) := by
  intro n
  induction n with
  | zero => exact fun _ _ hz => hz.elim
  | succ n ih =>
    exact fun v2 I hok hit => by
        rw [jX12_placesO_22] at hok
        exact sX12_places_22 d hT a1   (K22 := fun w2 I_ => (jX12_placesO a1 n w2 I_ ∧ jX12_placesI a1 n w2 I_ = R)) (fun w2 I_ hw => ih w2 I_ hw.1 hw.2) v2 I (by
          unfold fX12_places_22
          exact ⟨(hok).1, ⟨fun hc1 => (by rw [jX12_placesI_22, if_pos hc1] at hit; exact ⟨rfl, by rw [← hit], by rw [← hit]⟩), fun hc1 => ⟨((hok).2).2 hc1, by rw [jX12_placesI_22, if_neg hc1] at hit; exact hit⟩⟩⟩)
set_option maxRecDepth 10000 in
set_option maxHeartbeats 1000000 in
theorem qX12_places (d : Nat) {T : Topo} {I : IM} (hT : Lay T) (a1 : Int32)  (hp : (jX12_placesK I a1)) : CtI (d + 4) mX12_places [.ref 79, .int a1] T I (fun x_ J_ => x_ = (jX12_places I a1).1 ∧ J_ = (jX12_places I a1).2) := by
  unfold jX12_placesK at hp
  exact Ct.ofJ (by decide +kernel) rfl (by intro v hv; revert v hv; simp [Value.category]) rfl (sX12_places_0 d hT a1   (K22 := fun w2 I_ => (jX12_placesO a1 FU w2 I_ ∧ jX12_placesI a1 FU w2 I_ = (jX12_places I a1))) (fun w2 I_ hw => uX12_places d hT a1   FU w2 I_ hw.1 hw.2) I (by
    unfold fX12_places_0
    exact ⟨fun hc1 => ⟨((hp).1 hc1).1, ⟨((hp).1 hc1).2, by unfold jX12_places; rw [if_pos hc1]⟩⟩, fun hc1 => ⟨rfl, by unfold jX12_places; rw [if_neg hc1], by unfold jX12_places; rw [if_neg hc1]⟩⟩))

def fX12_puts_0 (T : Topo) (a1 : Int32) (Q : Int32 → Topo → IM → Prop)  (I : IM) : Prop :=
  (vp_in a1 8 ∧ (vp_in a1 8 ∧ (vp_in a1 8 ∧ (((¬ (I 90 a1.toNatClampNeg) = 1) → (vp_in ((256 * a1) + (I 124 a1.toNatClampNeg)) 2304 ∧ (vp_in a1 8 ∧ (vp_in ((256 * a1) + (I 124 a1.toNatClampNeg)) 2304 ∧ (vp_in a1 8 ∧ (vp_in a1 8 ∧ (vp_in a1 8 ∧ (vp_in a1 8 ∧ (vp_in a1 8 ∧ (vp_in a1 8 ∧ (vp_in a1 8 ∧ (((jX12_areUpK (up2 (up2 (up2 (up2 (up2 I 107 a1.toNatClampNeg (I 119 ((256 * a1) + (I 124 a1.toNatClampNeg)).toNatClampNeg)) 109 a1.toNatClampNeg (I 116 ((256 * a1) + (I 124 a1.toNatClampNeg)).toNatClampNeg)) 108 a1.toNatClampNeg 0) 110 a1.toNatClampNeg 0) 111 a1.toNatClampNeg (I 126 a1.toNatClampNeg)) ((I 119 ((256 * a1) + (I 124 a1.toNatClampNeg)).toNatClampNeg) ||| 0))) ∧ ((jX12_areUp (up2 (up2 (up2 (up2 (up2 I 107 a1.toNatClampNeg (I 119 ((256 * a1) + (I 124 a1.toNatClampNeg)).toNatClampNeg)) 109 a1.toNatClampNeg (I 116 ((256 * a1) + (I 124 a1.toNatClampNeg)).toNatClampNeg)) 108 a1.toNatClampNeg 0) 110 a1.toNatClampNeg 0) 111 a1.toNatClampNeg (I 126 a1.toNatClampNeg)) ((I 119 ((256 * a1) + (I 124 a1.toNatClampNeg)).toNatClampNeg) ||| 0)) = 0 ∨ (jX12_areUp (up2 (up2 (up2 (up2 (up2 I 107 a1.toNatClampNeg (I 119 ((256 * a1) + (I 124 a1.toNatClampNeg)).toNatClampNeg)) 109 a1.toNatClampNeg (I 116 ((256 * a1) + (I 124 a1.toNatClampNeg)).toNatClampNeg)) 108 a1.toNatClampNeg 0) 110 a1.toNatClampNeg 0) 111 a1.toNatClampNeg (I 126 a1.toNatClampNeg)) ((I 119 ((256 * a1) + (I 124 a1.toNatClampNeg)).toNatClampNeg) ||| 0)) = 1) ∧ Q (jX12_areUp (up2 (up2 (up2 (up2 (up2 I 107 a1.toNatClampNeg (I 119 ((256 * a1) + (I 124 a1.toNatClampNeg)).toNatClampNeg)) 109 a1.toNatClampNeg (I 116 ((256 * a1) + (I 124 a1.toNatClampNeg)).toNatClampNeg)) 108 a1.toNatClampNeg 0) 110 a1.toNatClampNeg 0) 111 a1.toNatClampNeg (I 126 a1.toNatClampNeg)) ((I 119 ((256 * a1) + (I 124 a1.toNatClampNeg)).toNatClampNeg) ||| 0)) T (up2 (up2 (up2 (up2 (up2 I 107 a1.toNatClampNeg (I 119 ((256 * a1) + (I 124 a1.toNatClampNeg)).toNatClampNeg)) 109 a1.toNatClampNeg (I 116 ((256 * a1) + (I 124 a1.toNatClampNeg)).toNatClampNeg)) 108 a1.toNatClampNeg 0) 110 a1.toNatClampNeg 0) 111 a1.toNatClampNeg (I 126 a1.toNatClampNeg)))))))))))))) ∧ (((I 90 a1.toNatClampNeg) = 1) → (vp_in ((256 * a1) + (I 124 a1.toNatClampNeg)) 2304 ∧ (vp_in a1 8 ∧ (vp_in ((256 * a1) + (I 124 a1.toNatClampNeg)) 2304 ∧ (vp_in a1 8 ∧ (vp_in ((256 * a1) + (I 125 a1.toNatClampNeg)) 2304 ∧ (vp_in a1 8 ∧ (vp_in ((256 * a1) + (I 125 a1.toNatClampNeg)) 2304 ∧ (vp_in a1 8 ∧ (vp_in a1 8 ∧ (vp_in a1 8 ∧ (vp_in a1 8 ∧ (vp_in a1 8 ∧ (((jX12_areUpK (up2 (up2 (up2 (up2 (up2 I 107 a1.toNatClampNeg (I 119 ((256 * a1) + (I 124 a1.toNatClampNeg)).toNatClampNeg)) 109 a1.toNatClampNeg (I 116 ((256 * a1) + (I 124 a1.toNatClampNeg)).toNatClampNeg)) 108 a1.toNatClampNeg (I 119 ((256 * a1) + (I 125 a1.toNatClampNeg)).toNatClampNeg)) 110 a1.toNatClampNeg (I 116 ((256 * a1) + (I 125 a1.toNatClampNeg)).toNatClampNeg)) 111 a1.toNatClampNeg (I 126 a1.toNatClampNeg)) ((I 119 ((256 * a1) + (I 124 a1.toNatClampNeg)).toNatClampNeg) ||| (I 119 ((256 * a1) + (I 125 a1.toNatClampNeg)).toNatClampNeg)))) ∧ ((jX12_areUp (up2 (up2 (up2 (up2 (up2 I 107 a1.toNatClampNeg (I 119 ((256 * a1) + (I 124 a1.toNatClampNeg)).toNatClampNeg)) 109 a1.toNatClampNeg (I 116 ((256 * a1) + (I 124 a1.toNatClampNeg)).toNatClampNeg)) 108 a1.toNatClampNeg (I 119 ((256 * a1) + (I 125 a1.toNatClampNeg)).toNatClampNeg)) 110 a1.toNatClampNeg (I 116 ((256 * a1) + (I 125 a1.toNatClampNeg)).toNatClampNeg)) 111 a1.toNatClampNeg (I 126 a1.toNatClampNeg)) ((I 119 ((256 * a1) + (I 124 a1.toNatClampNeg)).toNatClampNeg) ||| (I 119 ((256 * a1) + (I 125 a1.toNatClampNeg)).toNatClampNeg))) = 0 ∨ (jX12_areUp (up2 (up2 (up2 (up2 (up2 I 107 a1.toNatClampNeg (I 119 ((256 * a1) + (I 124 a1.toNatClampNeg)).toNatClampNeg)) 109 a1.toNatClampNeg (I 116 ((256 * a1) + (I 124 a1.toNatClampNeg)).toNatClampNeg)) 108 a1.toNatClampNeg (I 119 ((256 * a1) + (I 125 a1.toNatClampNeg)).toNatClampNeg)) 110 a1.toNatClampNeg (I 116 ((256 * a1) + (I 125 a1.toNatClampNeg)).toNatClampNeg)) 111 a1.toNatClampNeg (I 126 a1.toNatClampNeg)) ((I 119 ((256 * a1) + (I 124 a1.toNatClampNeg)).toNatClampNeg) ||| (I 119 ((256 * a1) + (I 125 a1.toNatClampNeg)).toNatClampNeg))) = 1) ∧ Q (jX12_areUp (up2 (up2 (up2 (up2 (up2 I 107 a1.toNatClampNeg (I 119 ((256 * a1) + (I 124 a1.toNatClampNeg)).toNatClampNeg)) 109 a1.toNatClampNeg (I 116 ((256 * a1) + (I 124 a1.toNatClampNeg)).toNatClampNeg)) 108 a1.toNatClampNeg (I 119 ((256 * a1) + (I 125 a1.toNatClampNeg)).toNatClampNeg)) 110 a1.toNatClampNeg (I 116 ((256 * a1) + (I 125 a1.toNatClampNeg)).toNatClampNeg)) 111 a1.toNatClampNeg (I 126 a1.toNatClampNeg)) ((I 119 ((256 * a1) + (I 124 a1.toNatClampNeg)).toNatClampNeg) ||| (I 119 ((256 * a1) + (I 125 a1.toNatClampNeg)).toNatClampNeg))) T (up2 (up2 (up2 (up2 (up2 I 107 a1.toNatClampNeg (I 119 ((256 * a1) + (I 124 a1.toNatClampNeg)).toNatClampNeg)) 109 a1.toNatClampNeg (I 116 ((256 * a1) + (I 124 a1.toNatClampNeg)).toNatClampNeg)) 108 a1.toNatClampNeg (I 119 ((256 * a1) + (I 125 a1.toNatClampNeg)).toNatClampNeg)) 110 a1.toNatClampNeg (I 116 ((256 * a1) + (I 125 a1.toNatClampNeg)).toNatClampNeg)) 111 a1.toNatClampNeg (I 126 a1.toNatClampNeg))))))))))))))))))))
set_option maxHeartbeats 4000000 in
set_option maxRecDepth 100000 in
theorem sX12_puts_0 (d : Nat) {T : Topo} (hT : Lay T) (a1 : Int32)    {Q : Int32 → Topo → IM → Prop}   (I : IM) (h : fX12_puts_0 T a1 Q  I) : J (d + 2) mX12_puts (PI Q) 0 0 0 [some (.ref 79), some (.int a1), none, none, none] [] T I 0 0 := by
  unfold fX12_puts_0 at h
  refine J.sipush (v := 256) dX12_puts_0 (by decide) ?_
  refine J.iload_n dX12_puts_3 rfl rfl ?_
  refine J.imul dX12_puts_4 ?_
  refine J.aload_n dX12_puts_5 rfl rfl ?_
  refine J.getR (r := 124) dX12_puts_6 fX12_147 (hT.k 79 rfl) rfl (hT.r 79 55 rfl rfl) ?_
  refine J.iload_n dX12_puts_9 rfl rfl ?_
  obtain ⟨hs1, h⟩ := h
  refine J.iald dX12_puts_10 (hT.k 124 rfl) (hT.l 124 rfl) hs1 ?_
  refine J.iadd dX12_puts_11 ?_
  refine J.istore_n (ls' := [some (.ref 79), some (.int a1), some (.int ((256 * a1) + (I 124 a1.toNatClampNeg))), none, none]) dX12_puts_12 rfl rfl rfl ?_
  refine J.sipush (v := 256) dX12_puts_13 (by decide) ?_
  refine J.iload_n dX12_puts_16 rfl rfl ?_
  refine J.imul dX12_puts_17 ?_
  refine J.aload_n dX12_puts_18 rfl rfl ?_
  refine J.getR (r := 125) dX12_puts_19 fX12_150 (hT.k 79 rfl) rfl (hT.r 79 56 rfl rfl) ?_
  refine J.atpc (pc' := 22) rfl ?_
  refine J.iload_n dX12_puts_22 rfl rfl ?_
  obtain ⟨hs2, h⟩ := h
  refine J.iald dX12_puts_23 (hT.k 125 rfl) (hT.l 125 rfl) hs2 ?_
  refine J.iadd dX12_puts_24 ?_
  refine J.istore_n (ls' := [some (.ref 79), some (.int a1), some (.int ((256 * a1) + (I 124 a1.toNatClampNeg))), some (.int ((256 * a1) + (I 125 a1.toNatClampNeg))), none]) dX12_puts_25 rfl rfl rfl ?_
  refine J.aload_n dX12_puts_26 rfl rfl ?_
  refine J.getR (r := 90) dX12_puts_27 fX12_45 (hT.k 79 rfl) rfl (hT.r 79 19 rfl rfl) ?_
  refine J.iload_n dX12_puts_30 rfl rfl ?_
  obtain ⟨hs3, h⟩ := h
  refine J.iald dX12_puts_31 (hT.k 90 rfl) (hT.l 90 rfl) hs3 ?_
  refine J.iconst (v := 1) dX12_puts_32 (by decide) ?_
  refine J.icmp_ne (tgt := 40) dX12_puts_33 (by decide) (fun hc4 => ?_) (fun hc4 => ?_)
  · have h := h.1 hc4
    refine J.iconst (v := 0) dX12_puts_40 (by decide) ?_
    refine J.istore (ls' := [some (.ref 79), some (.int a1), some (.int ((256 * a1) + (I 124 a1.toNatClampNeg))), some (.int ((256 * a1) + (I 125 a1.toNatClampNeg))), some (.int 0)]) dX12_puts_41 rfl rfl ?_
    refine J.aload_n dX12_puts_43 rfl rfl ?_
    refine J.getR (r := 107) dX12_puts_44 fX12_96 (hT.k 79 rfl) rfl (hT.r 79 36 rfl rfl) ?_
    refine J.iload_n dX12_puts_47 rfl rfl ?_
    refine J.aload_n dX12_puts_48 rfl rfl ?_
    refine J.getR (r := 119) dX12_puts_49 fX12_132 (hT.k 79 rfl) rfl (hT.r 79 48 rfl rfl) ?_
    refine J.atpc (pc' := 52) rfl ?_
    refine J.iload_n dX12_puts_52 rfl rfl ?_
    obtain ⟨hs5, h⟩ := h
    refine J.iald dX12_puts_53 (hT.k 119 rfl) (hT.l 119 rfl) hs5 ?_
    obtain ⟨hs6, h⟩ := h
    refine J.iast dX12_puts_54 (hT.k 107 rfl) (hT.l 107 rfl) hs6 ?_
    refine J.aload_n dX12_puts_55 rfl rfl ?_
    refine J.getR (r := 109) dX12_puts_56 fX12_102 (hT.k 79 rfl) rfl (hT.r 79 38 rfl rfl) ?_
    refine J.iload_n dX12_puts_59 rfl rfl ?_
    refine J.aload_n dX12_puts_60 rfl rfl ?_
    refine J.getR (r := 116) dX12_puts_61 fX12_123 (hT.k 79 rfl) rfl (hT.r 79 45 rfl rfl) ?_
    refine J.iload_n dX12_puts_64 rfl rfl ?_
    obtain ⟨hs7, h⟩ := h
    refine J.iald dX12_puts_65 (hT.k 116 rfl) (hT.l 116 rfl) hs7 ?_
    refine J.topEq (y := (I 116 ((256 * a1) + (I 124 a1.toNatClampNeg)).toNatClampNeg)) (up2_o _ _ _ _ (by decide)) ?_
    obtain ⟨hs8, h⟩ := h
    refine J.iast dX12_puts_66 (hT.k 109 rfl) (hT.l 109 rfl) hs8 ?_
    refine J.aload_n dX12_puts_67 rfl rfl ?_
    refine J.getR (r := 108) dX12_puts_68 fX12_99 (hT.k 79 rfl) rfl (hT.r 79 37 rfl rfl) ?_
    refine J.iload_n dX12_puts_71 rfl rfl ?_
    refine J.iload dX12_puts_72 rfl ?_
    refine J.if_eq (tgt := 86) dX12_puts_74 (by decide) (fun hc => ?_) (fun hc => absurd (by decide) hc)
    refine J.iconst (v := 0) dX12_puts_86 (by decide) ?_
    obtain ⟨hs9, h⟩ := h
    refine J.iast dX12_puts_87 (hT.k 108 rfl) (hT.l 108 rfl) hs9 ?_
    refine J.aload_n dX12_puts_88 rfl rfl ?_
    refine J.getR (r := 110) dX12_puts_89 fX12_105 (hT.k 79 rfl) rfl (hT.r 79 39 rfl rfl) ?_
    refine J.iload_n dX12_puts_92 rfl rfl ?_
    refine J.iload dX12_puts_93 rfl ?_
    refine J.if_eq (tgt := 107) dX12_puts_95 (by decide) (fun hc => ?_) (fun hc => absurd (by decide) hc)
    refine J.iconst (v := 0) dX12_puts_107 (by decide) ?_
    obtain ⟨hs10, h⟩ := h
    refine J.iast dX12_puts_108 (hT.k 110 rfl) (hT.l 110 rfl) hs10 ?_
    refine J.aload_n dX12_puts_109 rfl rfl ?_
    refine J.getR (r := 111) dX12_puts_110 fX12_108 (hT.k 79 rfl) rfl (hT.r 79 40 rfl rfl) ?_
    refine J.iload_n dX12_puts_113 rfl rfl ?_
    refine J.aload_n dX12_puts_114 rfl rfl ?_
    refine J.getR (r := 126) dX12_puts_115 fX12_153 (hT.k 79 rfl) rfl (hT.r 79 57 rfl rfl) ?_
    refine J.iload_n dX12_puts_118 rfl rfl ?_
    obtain ⟨hs11, h⟩ := h
    refine J.iald dX12_puts_119 (hT.k 126 rfl) (hT.l 126 rfl) hs11 ?_
    refine J.topEq (y := (I 126 a1.toNatClampNeg)) (Eq.trans (up2_o _ _ _ _ (by decide)) (Eq.trans (up2_o _ _ _ _ (by decide)) (Eq.trans (up2_o _ _ _ _ (by decide)) (up2_o _ _ _ _ (by decide))))) ?_
    obtain ⟨hs12, h⟩ := h
    refine J.iast dX12_puts_120 (hT.k 111 rfl) (hT.l 111 rfl) hs12 ?_
    refine J.aload_n dX12_puts_121 rfl rfl ?_
    refine J.aload_n dX12_puts_122 rfl rfl ?_
    refine J.getR (r := 107) dX12_puts_123 fX12_96 (hT.k 79 rfl) rfl (hT.r 79 36 rfl rfl) ?_
    refine J.iload_n dX12_puts_126 rfl rfl ?_
    obtain ⟨hs13, h⟩ := h
    refine J.iald dX12_puts_127 (hT.k 107 rfl) (hT.l 107 rfl) hs13 ?_
    refine J.topEq (y := (I 119 ((256 * a1) + (I 124 a1.toNatClampNeg)).toNatClampNeg)) (Eq.trans (up2_o _ _ _ _ (by decide)) (Eq.trans (up2_o _ _ _ _ (by decide)) (Eq.trans (up2_o _ _ _ _ (by decide)) (Eq.trans (up2_o _ _ _ _ (by decide)) (up2_at _ _ _ _))))) ?_
    refine J.aload_n dX12_puts_128 rfl rfl ?_
    refine J.getR (r := 108) dX12_puts_129 fX12_99 (hT.k 79 rfl) rfl (hT.r 79 37 rfl rfl) ?_
    refine J.iload_n dX12_puts_132 rfl rfl ?_
    obtain ⟨hs14, h⟩ := h
    refine J.iald dX12_puts_133 (hT.k 108 rfl) (hT.l 108 rfl) hs14 ?_
    refine J.topEq (y := 0) (Eq.trans (up2_o _ _ _ _ (by decide)) (Eq.trans (up2_o _ _ _ _ (by decide)) (up2_at _ _ _ _))) ?_
    refine J.ior dX12_puts_134 ?_
    obtain ⟨hp15, h⟩ := h
    refine J.callVP (k := 79) (as := [.int ((I 119 ((256 * a1) + (I 124 a1.toNatClampNeg)).toNatClampNeg) ||| 0)]) (rest := []) dX12_puts_135 kX12_areUp vX12_areUp lX12_281 (hT.k 79 rfl) rfl rfl rfl rfl rfl (by omega) (Nat.le_refl _) (Nat.le_refl _) (qX12_areUp (d + 0) hT ((I 119 ((256 * a1) + (I 124 a1.toNatClampNeg)).toNatClampNeg) ||| 0) hp15) ?_
    obtain ⟨hz, h⟩ := h
    exact J.zretQ dX12_puts_138 rfl hz (Nat.le_refl _) (Nat.le_refl _) h
  · have h := h.2 hc4
    refine J.iconst (v := 1) dX12_puts_36 (by decide) ?_
    refine J.goto (tgt := 41) dX12_puts_37 (by decide) ?_
    refine J.istore (ls' := [some (.ref 79), some (.int a1), some (.int ((256 * a1) + (I 124 a1.toNatClampNeg))), some (.int ((256 * a1) + (I 125 a1.toNatClampNeg))), some (.int 1)]) dX12_puts_41 rfl rfl ?_
    refine J.aload_n dX12_puts_43 rfl rfl ?_
    refine J.getR (r := 107) dX12_puts_44 fX12_96 (hT.k 79 rfl) rfl (hT.r 79 36 rfl rfl) ?_
    refine J.iload_n dX12_puts_47 rfl rfl ?_
    refine J.aload_n dX12_puts_48 rfl rfl ?_
    refine J.atpc (pc' := 49) rfl ?_
    refine J.getR (r := 119) dX12_puts_49 fX12_132 (hT.k 79 rfl) rfl (hT.r 79 48 rfl rfl) ?_
    refine J.iload_n dX12_puts_52 rfl rfl ?_
    obtain ⟨hs16, h⟩ := h
    refine J.iald dX12_puts_53 (hT.k 119 rfl) (hT.l 119 rfl) hs16 ?_
    obtain ⟨hs17, h⟩ := h
    refine J.iast dX12_puts_54 (hT.k 107 rfl) (hT.l 107 rfl) hs17 ?_
    refine J.aload_n dX12_puts_55 rfl rfl ?_
    refine J.getR (r := 109) dX12_puts_56 fX12_102 (hT.k 79 rfl) rfl (hT.r 79 38 rfl rfl) ?_
    refine J.iload_n dX12_puts_59 rfl rfl ?_
    refine J.aload_n dX12_puts_60 rfl rfl ?_
    refine J.getR (r := 116) dX12_puts_61 fX12_123 (hT.k 79 rfl) rfl (hT.r 79 45 rfl rfl) ?_
    refine J.iload_n dX12_puts_64 rfl rfl ?_
    obtain ⟨hs18, h⟩ := h
    refine J.iald dX12_puts_65 (hT.k 116 rfl) (hT.l 116 rfl) hs18 ?_
    refine J.topEq (y := (I 116 ((256 * a1) + (I 124 a1.toNatClampNeg)).toNatClampNeg)) (up2_o _ _ _ _ (by decide)) ?_
    obtain ⟨hs19, h⟩ := h
    refine J.iast dX12_puts_66 (hT.k 109 rfl) (hT.l 109 rfl) hs19 ?_
    refine J.aload_n dX12_puts_67 rfl rfl ?_
    refine J.getR (r := 108) dX12_puts_68 fX12_99 (hT.k 79 rfl) rfl (hT.r 79 37 rfl rfl) ?_
    refine J.iload_n dX12_puts_71 rfl rfl ?_
    refine J.iload dX12_puts_72 rfl ?_
    refine J.if_eq (tgt := 86) dX12_puts_74 (by decide) (fun hc => absurd hc (by decide)) (fun hc => ?_)
    refine J.aload_n dX12_puts_77 rfl rfl ?_
    refine J.getR (r := 119) dX12_puts_78 fX12_132 (hT.k 79 rfl) rfl (hT.r 79 48 rfl rfl) ?_
    refine J.atpc (pc' := 81) rfl ?_
    refine J.iload_n dX12_puts_81 rfl rfl ?_
    obtain ⟨hs20, h⟩ := h
    refine J.iald dX12_puts_82 (hT.k 119 rfl) (hT.l 119 rfl) hs20 ?_
    refine J.topEq (y := (I 119 ((256 * a1) + (I 125 a1.toNatClampNeg)).toNatClampNeg)) (Eq.trans (up2_o _ _ _ _ (by decide)) (up2_o _ _ _ _ (by decide))) ?_
    refine J.goto (tgt := 87) dX12_puts_83 (by decide) ?_
    obtain ⟨hs21, h⟩ := h
    refine J.iast dX12_puts_87 (hT.k 108 rfl) (hT.l 108 rfl) hs21 ?_
    refine J.aload_n dX12_puts_88 rfl rfl ?_
    refine J.getR (r := 110) dX12_puts_89 fX12_105 (hT.k 79 rfl) rfl (hT.r 79 39 rfl rfl) ?_
    refine J.iload_n dX12_puts_92 rfl rfl ?_
    refine J.iload dX12_puts_93 rfl ?_
    refine J.if_eq (tgt := 107) dX12_puts_95 (by decide) (fun hc => absurd hc (by decide)) (fun hc => ?_)
    refine J.aload_n dX12_puts_98 rfl rfl ?_
    refine J.getR (r := 116) dX12_puts_99 fX12_123 (hT.k 79 rfl) rfl (hT.r 79 45 rfl rfl) ?_
    refine J.atpc (pc' := 102) rfl ?_
    refine J.iload_n dX12_puts_102 rfl rfl ?_
    obtain ⟨hs22, h⟩ := h
    refine J.iald dX12_puts_103 (hT.k 116 rfl) (hT.l 116 rfl) hs22 ?_
    refine J.topEq (y := (I 116 ((256 * a1) + (I 125 a1.toNatClampNeg)).toNatClampNeg)) (Eq.trans (up2_o _ _ _ _ (by decide)) (Eq.trans (up2_o _ _ _ _ (by decide)) (up2_o _ _ _ _ (by decide)))) ?_
    refine J.goto (tgt := 108) dX12_puts_104 (by decide) ?_
    obtain ⟨hs23, h⟩ := h
    refine J.iast dX12_puts_108 (hT.k 110 rfl) (hT.l 110 rfl) hs23 ?_
    refine J.aload_n dX12_puts_109 rfl rfl ?_
    refine J.getR (r := 111) dX12_puts_110 fX12_108 (hT.k 79 rfl) rfl (hT.r 79 40 rfl rfl) ?_
    refine J.iload_n dX12_puts_113 rfl rfl ?_
    refine J.aload_n dX12_puts_114 rfl rfl ?_
    refine J.getR (r := 126) dX12_puts_115 fX12_153 (hT.k 79 rfl) rfl (hT.r 79 57 rfl rfl) ?_
    refine J.iload_n dX12_puts_118 rfl rfl ?_
    obtain ⟨hs24, h⟩ := h
    refine J.iald dX12_puts_119 (hT.k 126 rfl) (hT.l 126 rfl) hs24 ?_
    refine J.topEq (y := (I 126 a1.toNatClampNeg)) (Eq.trans (up2_o _ _ _ _ (by decide)) (Eq.trans (up2_o _ _ _ _ (by decide)) (Eq.trans (up2_o _ _ _ _ (by decide)) (up2_o _ _ _ _ (by decide))))) ?_
    obtain ⟨hs25, h⟩ := h
    refine J.iast dX12_puts_120 (hT.k 111 rfl) (hT.l 111 rfl) hs25 ?_
    refine J.aload_n dX12_puts_121 rfl rfl ?_
    refine J.aload_n dX12_puts_122 rfl rfl ?_
    refine J.getR (r := 107) dX12_puts_123 fX12_96 (hT.k 79 rfl) rfl (hT.r 79 36 rfl rfl) ?_
    refine J.iload_n dX12_puts_126 rfl rfl ?_
    obtain ⟨hs26, h⟩ := h
    refine J.iald dX12_puts_127 (hT.k 107 rfl) (hT.l 107 rfl) hs26 ?_
    refine J.topEq (y := (I 119 ((256 * a1) + (I 124 a1.toNatClampNeg)).toNatClampNeg)) (Eq.trans (up2_o _ _ _ _ (by decide)) (Eq.trans (up2_o _ _ _ _ (by decide)) (Eq.trans (up2_o _ _ _ _ (by decide)) (Eq.trans (up2_o _ _ _ _ (by decide)) (up2_at _ _ _ _))))) ?_
    refine J.aload_n dX12_puts_128 rfl rfl ?_
    refine J.getR (r := 108) dX12_puts_129 fX12_99 (hT.k 79 rfl) rfl (hT.r 79 37 rfl rfl) ?_
    refine J.iload_n dX12_puts_132 rfl rfl ?_
    obtain ⟨hs27, h⟩ := h
    refine J.iald dX12_puts_133 (hT.k 108 rfl) (hT.l 108 rfl) hs27 ?_
    refine J.topEq (y := (I 119 ((256 * a1) + (I 125 a1.toNatClampNeg)).toNatClampNeg)) (Eq.trans (up2_o _ _ _ _ (by decide)) (Eq.trans (up2_o _ _ _ _ (by decide)) (up2_at _ _ _ _))) ?_
    refine J.ior dX12_puts_134 ?_
    obtain ⟨hp28, h⟩ := h
    refine J.callVP (k := 79) (as := [.int ((I 119 ((256 * a1) + (I 124 a1.toNatClampNeg)).toNatClampNeg) ||| (I 119 ((256 * a1) + (I 125 a1.toNatClampNeg)).toNatClampNeg))]) (rest := []) dX12_puts_135 kX12_areUp vX12_areUp lX12_281 (hT.k 79 rfl) rfl rfl rfl rfl rfl (by omega) (Nat.le_refl _) (Nat.le_refl _) (qX12_areUp (d + 0) hT ((I 119 ((256 * a1) + (I 124 a1.toNatClampNeg)).toNatClampNeg) ||| (I 119 ((256 * a1) + (I 125 a1.toNatClampNeg)).toNatClampNeg)) hp28) ?_
    obtain ⟨hz, h⟩ := h
    exact J.zretQ dX12_puts_138 rfl hz (Nat.le_refl _) (Nat.le_refl _) h
set_option maxHeartbeats 4000000 in
set_option maxRecDepth 100000 in
theorem wX12_puts (d : Nat) {T : Topo} (hT : Lay T) (a1 : Int32)   {Q : Int32 → Topo → IM → Prop} {I : IM} (h : fX12_puts_0 T a1 Q I) : Ct (d + 2) mX12_puts [.ref 79, .int a1] T I 0 0 (PI Q) :=
  Ct.ofJ (by decide +kernel) rfl (by intro v hv; revert v hv; simp [Value.category]) rfl (sX12_puts_0 d hT a1   I h)

def jX12_puts (I : IM) (a1 : Int32) : Int32 := (if (I 90 a1.toNatClampNeg) = 1 then (jX12_areUp (up2 (up2 (up2 (up2 (up2 I 107 a1.toNatClampNeg (I 119 ((256 * a1) + (I 124 a1.toNatClampNeg)).toNatClampNeg)) 109 a1.toNatClampNeg (I 116 ((256 * a1) + (I 124 a1.toNatClampNeg)).toNatClampNeg)) 108 a1.toNatClampNeg (I 119 ((256 * a1) + (I 125 a1.toNatClampNeg)).toNatClampNeg)) 110 a1.toNatClampNeg (I 116 ((256 * a1) + (I 125 a1.toNatClampNeg)).toNatClampNeg)) 111 a1.toNatClampNeg (I 126 a1.toNatClampNeg)) ((I 119 ((256 * a1) + (I 124 a1.toNatClampNeg)).toNatClampNeg) ||| (I 119 ((256 * a1) + (I 125 a1.toNatClampNeg)).toNatClampNeg))) else (jX12_areUp (up2 (up2 (up2 (up2 (up2 I 107 a1.toNatClampNeg (I 119 ((256 * a1) + (I 124 a1.toNatClampNeg)).toNatClampNeg)) 109 a1.toNatClampNeg (I 116 ((256 * a1) + (I 124 a1.toNatClampNeg)).toNatClampNeg)) 108 a1.toNatClampNeg 0) 110 a1.toNatClampNeg 0) 111 a1.toNatClampNeg (I 126 a1.toNatClampNeg)) ((I 119 ((256 * a1) + (I 124 a1.toNatClampNeg)).toNatClampNeg) ||| 0)))
def jX12_putsM (I : IM) (a1 : Int32) : IM := (if (I 90 a1.toNatClampNeg) = 1 then (up2 (up2 (up2 (up2 (up2 I 107 a1.toNatClampNeg (I 119 ((256 * a1) + (I 124 a1.toNatClampNeg)).toNatClampNeg)) 109 a1.toNatClampNeg (I 116 ((256 * a1) + (I 124 a1.toNatClampNeg)).toNatClampNeg)) 108 a1.toNatClampNeg (I 119 ((256 * a1) + (I 125 a1.toNatClampNeg)).toNatClampNeg)) 110 a1.toNatClampNeg (I 116 ((256 * a1) + (I 125 a1.toNatClampNeg)).toNatClampNeg)) 111 a1.toNatClampNeg (I 126 a1.toNatClampNeg)) else (up2 (up2 (up2 (up2 (up2 I 107 a1.toNatClampNeg (I 119 ((256 * a1) + (I 124 a1.toNatClampNeg)).toNatClampNeg)) 109 a1.toNatClampNeg (I 116 ((256 * a1) + (I 124 a1.toNatClampNeg)).toNatClampNeg)) 108 a1.toNatClampNeg 0) 110 a1.toNatClampNeg 0) 111 a1.toNatClampNeg (I 126 a1.toNatClampNeg)))
def jX12_putsK (I : IM) (a1 : Int32) : Prop := (vp_in a1 8 ∧ (vp_in a1 8 ∧ (vp_in a1 8 ∧ (((¬ (I 90 a1.toNatClampNeg) = 1) → (vp_in ((256 * a1) + (I 124 a1.toNatClampNeg)) 2304 ∧ (vp_in a1 8 ∧ (vp_in ((256 * a1) + (I 124 a1.toNatClampNeg)) 2304 ∧ (vp_in a1 8 ∧ (vp_in a1 8 ∧ (vp_in a1 8 ∧ (vp_in a1 8 ∧ (vp_in a1 8 ∧ (vp_in a1 8 ∧ (vp_in a1 8 ∧ (((jX12_areUpK (up2 (up2 (up2 (up2 (up2 I 107 a1.toNatClampNeg (I 119 ((256 * a1) + (I 124 a1.toNatClampNeg)).toNatClampNeg)) 109 a1.toNatClampNeg (I 116 ((256 * a1) + (I 124 a1.toNatClampNeg)).toNatClampNeg)) 108 a1.toNatClampNeg 0) 110 a1.toNatClampNeg 0) 111 a1.toNatClampNeg (I 126 a1.toNatClampNeg)) ((I 119 ((256 * a1) + (I 124 a1.toNatClampNeg)).toNatClampNeg) ||| 0))) ∧ ((jX12_areUp (up2 (up2 (up2 (up2 (up2 I 107 a1.toNatClampNeg (I 119 ((256 * a1) + (I 124 a1.toNatClampNeg)).toNatClampNeg)) 109 a1.toNatClampNeg (I 116 ((256 * a1) + (I 124 a1.toNatClampNeg)).toNatClampNeg)) 108 a1.toNatClampNeg 0) 110 a1.toNatClampNeg 0) 111 a1.toNatClampNeg (I 126 a1.toNatClampNeg)) ((I 119 ((256 * a1) + (I 124 a1.toNatClampNeg)).toNatClampNeg) ||| 0)) = 0 ∨ (jX12_areUp (up2 (up2 (up2 (up2 (up2 I 107 a1.toNatClampNeg (I 119 ((256 * a1) + (I 124 a1.toNatClampNeg)).toNatClampNeg)) 109 a1.toNatClampNeg (I 116 ((256 * a1) + (I 124 a1.toNatClampNeg)).toNatClampNeg)) 108 a1.toNatClampNeg 0) 110 a1.toNatClampNeg 0) 111 a1.toNatClampNeg (I 126 a1.toNatClampNeg)) ((I 119 ((256 * a1) + (I 124 a1.toNatClampNeg)).toNatClampNeg) ||| 0)) = 1))))))))))))) ∧ (((I 90 a1.toNatClampNeg) = 1) → (vp_in ((256 * a1) + (I 124 a1.toNatClampNeg)) 2304 ∧ (vp_in a1 8 ∧ (vp_in ((256 * a1) + (I 124 a1.toNatClampNeg)) 2304 ∧ (vp_in a1 8 ∧ (vp_in ((256 * a1) + (I 125 a1.toNatClampNeg)) 2304 ∧ (vp_in a1 8 ∧ (vp_in ((256 * a1) + (I 125 a1.toNatClampNeg)) 2304 ∧ (vp_in a1 8 ∧ (vp_in a1 8 ∧ (vp_in a1 8 ∧ (vp_in a1 8 ∧ (vp_in a1 8 ∧ (((jX12_areUpK (up2 (up2 (up2 (up2 (up2 I 107 a1.toNatClampNeg (I 119 ((256 * a1) + (I 124 a1.toNatClampNeg)).toNatClampNeg)) 109 a1.toNatClampNeg (I 116 ((256 * a1) + (I 124 a1.toNatClampNeg)).toNatClampNeg)) 108 a1.toNatClampNeg (I 119 ((256 * a1) + (I 125 a1.toNatClampNeg)).toNatClampNeg)) 110 a1.toNatClampNeg (I 116 ((256 * a1) + (I 125 a1.toNatClampNeg)).toNatClampNeg)) 111 a1.toNatClampNeg (I 126 a1.toNatClampNeg)) ((I 119 ((256 * a1) + (I 124 a1.toNatClampNeg)).toNatClampNeg) ||| (I 119 ((256 * a1) + (I 125 a1.toNatClampNeg)).toNatClampNeg)))) ∧ ((jX12_areUp (up2 (up2 (up2 (up2 (up2 I 107 a1.toNatClampNeg (I 119 ((256 * a1) + (I 124 a1.toNatClampNeg)).toNatClampNeg)) 109 a1.toNatClampNeg (I 116 ((256 * a1) + (I 124 a1.toNatClampNeg)).toNatClampNeg)) 108 a1.toNatClampNeg (I 119 ((256 * a1) + (I 125 a1.toNatClampNeg)).toNatClampNeg)) 110 a1.toNatClampNeg (I 116 ((256 * a1) + (I 125 a1.toNatClampNeg)).toNatClampNeg)) 111 a1.toNatClampNeg (I 126 a1.toNatClampNeg)) ((I 119 ((256 * a1) + (I 124 a1.toNatClampNeg)).toNatClampNeg) ||| (I 119 ((256 * a1) + (I 125 a1.toNatClampNeg)).toNatClampNeg))) = 0 ∨ (jX12_areUp (up2 (up2 (up2 (up2 (up2 I 107 a1.toNatClampNeg (I 119 ((256 * a1) + (I 124 a1.toNatClampNeg)).toNatClampNeg)) 109 a1.toNatClampNeg (I 116 ((256 * a1) + (I 124 a1.toNatClampNeg)).toNatClampNeg)) 108 a1.toNatClampNeg (I 119 ((256 * a1) + (I 125 a1.toNatClampNeg)).toNatClampNeg)) 110 a1.toNatClampNeg (I 116 ((256 * a1) + (I 125 a1.toNatClampNeg)).toNatClampNeg)) 111 a1.toNatClampNeg (I 126 a1.toNatClampNeg)) ((I 119 ((256 * a1) + (I 124 a1.toNatClampNeg)).toNatClampNeg) ||| (I 119 ((256 * a1) + (I 125 a1.toNatClampNeg)).toNatClampNeg))) = 1)))))))))))))))))))
set_option maxRecDepth 10000 in
theorem qX12_puts (d : Nat) {T : Topo} {I : IM} (hT : Lay T) (a1 : Int32)  (hp : (jX12_putsK I a1)) : CtI (d + 2) mX12_puts [.ref 79, .int a1] T I (fun x_ J_ => x_ = (jX12_puts I a1) ∧ J_ = (jX12_putsM I a1)) :=
  wX12_puts d hT a1   (by
  unfold fX12_puts_0
  exact ⟨(hp).1, ⟨((hp).2).1, ⟨(((hp).2).2).1, ⟨fun hc1 => ⟨(((((hp).2).2).2).1 hc1).1, ⟨((((((hp).2).2).2).1 hc1).2).1, ⟨(((((((hp).2).2).2).1 hc1).2).2).1, ⟨((((((((hp).2).2).2).1 hc1).2).2).2).1, ⟨(((((((((hp).2).2).2).1 hc1).2).2).2).2).1, ⟨((((((((((hp).2).2).2).1 hc1).2).2).2).2).2).1, ⟨(((((((((((hp).2).2).2).1 hc1).2).2).2).2).2).2).1, ⟨((((((((((((hp).2).2).2).1 hc1).2).2).2).2).2).2).2).1, ⟨(((((((((((((hp).2).2).2).1 hc1).2).2).2).2).2).2).2).2).1, ⟨((((((((((((((hp).2).2).2).1 hc1).2).2).2).2).2).2).2).2).2).1, ⟨(((((((((((((((hp).2).2).2).1 hc1).2).2).2).2).2).2).2).2).2).2).1, ⟨(((((((((((((((hp).2).2).2).1 hc1).2).2).2).2).2).2).2).2).2).2).2, ⟨rfl, by unfold jX12_puts; rw [if_neg hc1], by unfold jX12_putsM; rw [if_neg hc1]⟩⟩⟩⟩⟩⟩⟩⟩⟩⟩⟩⟩⟩, fun hc1 => ⟨(((((hp).2).2).2).2 hc1).1, ⟨((((((hp).2).2).2).2 hc1).2).1, ⟨(((((((hp).2).2).2).2 hc1).2).2).1, ⟨((((((((hp).2).2).2).2 hc1).2).2).2).1, ⟨(((((((((hp).2).2).2).2 hc1).2).2).2).2).1, ⟨((((((((((hp).2).2).2).2 hc1).2).2).2).2).2).1, ⟨(((((((((((hp).2).2).2).2 hc1).2).2).2).2).2).2).1, ⟨((((((((((((hp).2).2).2).2 hc1).2).2).2).2).2).2).2).1, ⟨(((((((((((((hp).2).2).2).2 hc1).2).2).2).2).2).2).2).2).1, ⟨((((((((((((((hp).2).2).2).2 hc1).2).2).2).2).2).2).2).2).2).1, ⟨(((((((((((((((hp).2).2).2).2 hc1).2).2).2).2).2).2).2).2).2).2).1, ⟨((((((((((((((((hp).2).2).2).2 hc1).2).2).2).2).2).2).2).2).2).2).2).1, ⟨(((((((((((((((((hp).2).2).2).2 hc1).2).2).2).2).2).2).2).2).2).2).2).2).1, ⟨(((((((((((((((((hp).2).2).2).2 hc1).2).2).2).2).2).2).2).2).2).2).2).2).2, ⟨rfl, by unfold jX12_puts; rw [if_pos hc1], by unfold jX12_putsM; rw [if_pos hc1]⟩⟩⟩⟩⟩⟩⟩⟩⟩⟩⟩⟩⟩⟩⟩⟩⟩⟩⟩)

def fX12_letIn_0 (T : Topo) (a1 : Int32) (Q : Int32 → Topo → IM → Prop) (K36 : IM → Prop) (I : IM) : Prop :=
  ((((wi a1 0 (I 79 2 - 1)) → (vp_in a1 8 ∧ ((((I 106 a1.toNatClampNeg) = 0) → (((jX12_startK I a1)) ∧ K36 (jX12_startM I a1))) ∧ ((¬ (I 106 a1.toNatClampNeg) = 0) → (Q (jX12_finds (-1000003)) T (jX12_findsM I)))))) ∧ ((¬ (wi a1 0 (I 79 2 - 1))) → (Q (jX12_finds (-1000001)) T (jX12_findsM I)))))
def fX12_letIn_36 (T : Topo) (a1 : Int32) (Q : Int32 → Topo → IM → Prop) (K36 : IM → Prop) (I : IM) : Prop :=
  (((jX12_advanceK I a1)) ∧ (((((jX12_advance I a1).1) = 0) → (Q (jX12_finds (-1000005)) T (jX12_findsM (jX12_advance I a1).2))) ∧ ((¬ ((jX12_advance I a1).1) = 0) → (((jX12_putsK (jX12_advance I a1).2 a1)) ∧ (vp_in a1 8 ∧ ((jX12_puts (jX12_advance I a1).2 a1) = 0 ∨ (jX12_puts (jX12_advance I a1).2 a1) = 1) ∧ (vp_in a1 8 ∧ ((((jX12_puts (jX12_advance I a1).2 a1) = 0) → (vp_in a1 8 ∧ K36 (up2 (up2 (jX12_putsM (jX12_advance I a1).2 a1) 106 a1.toNatClampNeg (jX12_puts (jX12_advance I a1).2 a1)) 106 a1.toNatClampNeg 0))) ∧ ((¬ (jX12_puts (jX12_advance I a1).2 a1) = 0) → (((jX12_holdsK (up2 (jX12_putsM (jX12_advance I a1).2 a1) 106 a1.toNatClampNeg (jX12_puts (jX12_advance I a1).2 a1)) 0)) ∧ ((((jX12_holds (up2 (jX12_putsM (jX12_advance I a1).2 a1) 106 a1.toNatClampNeg (jX12_puts (jX12_advance I a1).2 a1)) 0) = 0) → (vp_in a1 8 ∧ K36 (up2 (up2 (jX12_putsM (jX12_advance I a1).2 a1) 106 a1.toNatClampNeg (jX12_puts (jX12_advance I a1).2 a1)) 106 a1.toNatClampNeg 0))) ∧ ((¬ (jX12_holds (up2 (jX12_putsM (jX12_advance I a1).2 a1) 106 a1.toNatClampNeg (jX12_puts (jX12_advance I a1).2 a1)) 0) = 0) → (vp_in a1 8 ∧ Q ((jX12_putsM (jX12_advance I a1).2 a1) 127 a1.toNatClampNeg) T (up2 (jX12_putsM (jX12_advance I a1).2 a1) 106 a1.toNatClampNeg (jX12_puts (jX12_advance I a1).2 a1))))))))))))))
set_option maxHeartbeats 4000000 in
set_option maxRecDepth 100000 in
theorem sX12_letIn_0 (d : Nat) {T : Topo} (hT : Lay T) (a1 : Int32)    {Q : Int32 → Topo → IM → Prop} {K36 : IM → Prop} (hK36 : ∀ (I : IM), K36 I → J (d + 4) mX12_letIn (PI Q) 0 0 36 [some (.ref 79), some (.int a1)] [] T I 0 0) (I : IM) (h : fX12_letIn_0 T a1 Q K36 I) : J (d + 4) mX12_letIn (PI Q) 0 0 0 [some (.ref 79), some (.int a1)] [] T I 0 0 := by
  unfold fX12_letIn_0 at h
  refine J.aload_n dX12_letIn_0 rfl rfl ?_
  refine J.iload_n dX12_letIn_1 rfl rfl ?_
  refine J.callVP (k := 79) (as := [.int a1]) (rest := []) dX12_letIn_2 kX12_isSlice vX12_isSlice lX12_235 (hT.k 79 rfl) rfl rfl rfl rfl rfl (by omega) (Nat.le_refl _) (Nat.le_refl _) (qX12_isSlice (d + 2) hT a1 ) ?_
  refine J.bz_ne (tgt := 15) dX12_letIn_5 (by decide) (fun hc1 => ?_) (fun hc1 => ?_)
  · have h := h.1 hc1
    refine J.aload_n dX12_letIn_15 rfl rfl ?_
    refine J.getR (r := 106) dX12_letIn_16 fX12_93 (hT.k 79 rfl) rfl (hT.r 79 35 rfl rfl) ?_
    refine J.iload_n dX12_letIn_19 rfl rfl ?_
    obtain ⟨hs2, h⟩ := h
    refine J.bald dX12_letIn_20 (hT.k 106 rfl) (hT.l 106 rfl) hs2 ?_
    refine J.if_eq (tgt := 31) dX12_letIn_21 (by decide) (fun hc3 => ?_) (fun hc3 => ?_)
    · have h := h.1 hc3
      refine J.aload_n dX12_letIn_31 rfl rfl ?_
      refine J.iload_n dX12_letIn_32 rfl rfl ?_
      obtain ⟨hp4, h⟩ := h
      refine J.callVD (k := 79) (as := [.int a1]) (rest := []) dX12_letIn_33 kX12_start vX12_start lX12_284 (hT.k 79 rfl) rfl rfl rfl rfl rfl (by omega) (Nat.le_refl _) (Nat.le_refl _) (qX12_start (d + 0) hT a1 hp4) ?_
      exact J.weaken (ls' := [some (.ref 79), some (.int a1)]) (And.intro rfl (And.intro rfl trivial)) (hK36 (jX12_startM I a1) h)
    · have h := h.2 hc3
      refine J.aload_n dX12_letIn_24 rfl rfl ?_
      refine J.ldc (v := (-1000003)) dX12_letIn_25 kcX12_238 ?_
      refine J.callVE (k := 79) (as := [.int (-1000003)]) (rest := []) dX12_letIn_27 kX12_finds vX12_finds lX12_200 (hT.k 79 rfl) rfl rfl rfl rfl rfl (by omega) (Nat.le_refl _) (Nat.le_refl _) (qX12_finds (d + 3) hT (-1000003) ) ?_
      exact J.iretQ dX12_letIn_30 rfl (Nat.le_refl _) (Nat.le_refl _) h
  · have h := h.2 hc1
    refine J.aload_n dX12_letIn_8 rfl rfl ?_
    refine J.ldc (v := (-1000001)) dX12_letIn_9 kcX12_199 ?_
    refine J.callVE (k := 79) (as := [.int (-1000001)]) (rest := []) dX12_letIn_11 kX12_finds vX12_finds lX12_200 (hT.k 79 rfl) rfl rfl rfl rfl rfl (by omega) (Nat.le_refl _) (Nat.le_refl _) (qX12_finds (d + 3) hT (-1000001) ) ?_
    exact J.iretQ dX12_letIn_14 rfl (Nat.le_refl _) (Nat.le_refl _) h
set_option maxHeartbeats 4000000 in
set_option maxRecDepth 100000 in
theorem sX12_letIn_36 (d : Nat) {T : Topo} (hT : Lay T) (a1 : Int32)    {Q : Int32 → Topo → IM → Prop} {K36 : IM → Prop} (hK36 : ∀ (I : IM), K36 I → J (d + 4) mX12_letIn (PI Q) 0 0 36 [some (.ref 79), some (.int a1)] [] T I 0 0) (I : IM) (h : fX12_letIn_36 T a1 Q K36 I) : J (d + 4) mX12_letIn (PI Q) 0 0 36 [some (.ref 79), some (.int a1)] [] T I 0 0 := by
  unfold fX12_letIn_36 at h
  refine J.aload_n dX12_letIn_36 rfl rfl ?_
  refine J.iload_n dX12_letIn_37 rfl rfl ?_
  obtain ⟨hp1, h⟩ := h
  refine J.callVE (k := 79) (as := [.int a1]) (rest := []) dX12_letIn_38 kX12_advance vX12_advance lX12_288 (hT.k 79 rfl) rfl rfl rfl rfl rfl (by omega) (Nat.le_refl _) (Nat.le_refl _) (qX12_advance (d + 2) hT a1 hp1) ?_
  refine J.if_eq (tgt := 89) dX12_letIn_41 (by decide) (fun hc2 => ?_) (fun hc2 => ?_)
  · have h := h.1 hc2
    refine J.aload_n dX12_letIn_89 rfl rfl ?_
    refine J.ldc (v := (-1000005)) dX12_letIn_90 kcX12_230 ?_
    refine J.callVE (k := 79) (as := [.int (-1000005)]) (rest := []) dX12_letIn_92 kX12_finds vX12_finds lX12_200 (hT.k 79 rfl) rfl rfl rfl rfl rfl (by omega) (Nat.le_refl _) (Nat.le_refl _) (qX12_finds (d + 3) hT (-1000005) ) ?_
    exact J.iretQ dX12_letIn_95 rfl (Nat.le_refl _) (Nat.le_refl _) h
  · have h := h.2 hc2
    refine J.aload_n dX12_letIn_44 rfl rfl ?_
    refine J.getR (r := 106) dX12_letIn_45 fX12_93 (hT.k 79 rfl) rfl (hT.r 79 35 rfl rfl) ?_
    refine J.iload_n dX12_letIn_48 rfl rfl ?_
    refine J.aload_n dX12_letIn_49 rfl rfl ?_
    refine J.iload_n dX12_letIn_50 rfl rfl ?_
    obtain ⟨hp3, h⟩ := h
    refine J.callVE (k := 79) (as := [.int a1]) (rest := [.int a1, .ref 106]) dX12_letIn_51 kX12_puts vX12_puts lX12_291 (hT.k 79 rfl) rfl rfl rfl rfl rfl (by omega) (Nat.le_refl _) (Nat.le_refl _) (qX12_puts (d + 1) hT a1 hp3) ?_
    obtain ⟨hs4, h⟩ := h
    obtain ⟨hz5, h⟩ := h
    refine J.bast dX12_letIn_54 (hT.k 106 rfl) (hT.l 106 rfl) hs4 hz5 ?_
    refine J.aload_n dX12_letIn_55 rfl rfl ?_
    refine J.getR (r := 106) dX12_letIn_56 fX12_93 (hT.k 79 rfl) rfl (hT.r 79 35 rfl rfl) ?_
    refine J.iload_n dX12_letIn_59 rfl rfl ?_
    obtain ⟨hs6, h⟩ := h
    refine J.bald dX12_letIn_60 (hT.k 106 rfl) (hT.l 106 rfl) hs6 ?_
    refine J.topEq (y := (jX12_puts (jX12_advance I a1).2 a1)) (up2_at _ _ _ _) ?_
    refine J.if_eq (tgt := 79) dX12_letIn_61 (by decide) (fun hc7 => ?_) (fun hc7 => ?_)
    · have h := h.1 hc7
      refine J.aload_n dX12_letIn_79 rfl rfl ?_
      refine J.getR (r := 106) dX12_letIn_80 fX12_93 (hT.k 79 rfl) rfl (hT.r 79 35 rfl rfl) ?_
      refine J.iload_n dX12_letIn_83 rfl rfl ?_
      refine J.iconst (v := 0) dX12_letIn_84 (by decide) ?_
      obtain ⟨hs8, h⟩ := h
      refine J.bast dX12_letIn_85 (hT.k 106 rfl) (hT.l 106 rfl) hs8 (Or.inl rfl) ?_
      refine J.goto (tgt := 36) dX12_letIn_86 (by decide) ?_
      exact J.weaken (ls' := [some (.ref 79), some (.int a1)]) (And.intro rfl (And.intro rfl trivial)) (hK36 (up2 (up2 (jX12_putsM (jX12_advance I a1).2 a1) 106 a1.toNatClampNeg (jX12_puts (jX12_advance I a1).2 a1)) 106 a1.toNatClampNeg 0) h)
    · have h := h.2 hc7
      refine J.aload_n dX12_letIn_64 rfl rfl ?_
      refine J.iconst (v := 0) dX12_letIn_65 (by decide) ?_
      obtain ⟨hp9, h⟩ := h
      refine J.callVP (k := 79) (as := [.int 0]) (rest := []) dX12_letIn_66 kX12_holds vX12_holds lX12_294 (hT.k 79 rfl) rfl rfl rfl rfl rfl (by omega) (Nat.le_refl _) (Nat.le_refl _) (qX12_holds (d + 0) hT 0 hp9) ?_
      refine J.if_eq (tgt := 79) dX12_letIn_69 (by decide) (fun hc10 => ?_) (fun hc10 => ?_)
      · have h := h.1 hc10
        refine J.aload_n dX12_letIn_79 rfl rfl ?_
        refine J.getR (r := 106) dX12_letIn_80 fX12_93 (hT.k 79 rfl) rfl (hT.r 79 35 rfl rfl) ?_
        refine J.iload_n dX12_letIn_83 rfl rfl ?_
        refine J.iconst (v := 0) dX12_letIn_84 (by decide) ?_
        obtain ⟨hs11, h⟩ := h
        refine J.bast dX12_letIn_85 (hT.k 106 rfl) (hT.l 106 rfl) hs11 (Or.inl rfl) ?_
        refine J.goto (tgt := 36) dX12_letIn_86 (by decide) ?_
        exact J.weaken (ls' := [some (.ref 79), some (.int a1)]) (And.intro rfl (And.intro rfl trivial)) (hK36 (up2 (up2 (jX12_putsM (jX12_advance I a1).2 a1) 106 a1.toNatClampNeg (jX12_puts (jX12_advance I a1).2 a1)) 106 a1.toNatClampNeg 0) h)
      · have h := h.2 hc10
        refine J.aload_n dX12_letIn_72 rfl rfl ?_
        refine J.getR (r := 127) dX12_letIn_73 fX12_156 (hT.k 79 rfl) rfl (hT.r 79 58 rfl rfl) ?_
        refine J.iload_n dX12_letIn_76 rfl rfl ?_
        obtain ⟨hs12, h⟩ := h
        refine J.iald dX12_letIn_77 (hT.k 127 rfl) (hT.l 127 rfl) hs12 ?_
        refine J.topEq (y := ((jX12_putsM (jX12_advance I a1).2 a1) 127 a1.toNatClampNeg)) (up2_o _ _ _ _ (by decide)) ?_
        exact J.iretQ dX12_letIn_78 rfl (Nat.le_refl _) (Nat.le_refl _) h
set_option maxHeartbeats 4000000 in
set_option maxRecDepth 100000 in
theorem wX12_letIn (d : Nat) {T : Topo} (hT : Lay T) (a1 : Int32)   {Q : Int32 → Topo → IM → Prop} (V36 : IM → Prop) (μ36 : IM → Nat) (vc36 : ∀ (I : IM), V36 I → fX12_letIn_36 T a1 Q (fun I_ => V36 I_ ∧ μ36 I_ < μ36 I) I) {I : IM} (h : fX12_letIn_0 T a1 Q V36 I) : Ct (d + 4) mX12_letIn [.ref 79, .int a1] T I 0 0 (PI Q) := by
  have all : ∀ n : Nat, (∀ (I : IM), V36 I → μ36 I < n → J (d + 4) mX12_letIn (PI Q) 0 0 36 [some (.ref 79), some (.int a1)] [] T I 0 0) := by
    intro n
    induction n with
    | zero => exact fun _ _ hn => absurd hn (Nat.not_lt_zero _)
    | succ n ih =>
      exact fun I hv hn => sX12_letIn_36 d hT a1   (fun I_ hw => ih I_ hw.1 (by have := hw.2; omega)) I (vc36 I hv)
  exact Ct.ofJ (by decide +kernel) rfl (by intro v hv; revert v hv; simp [Value.category]) rfl (sX12_letIn_0 d hT a1   (fun I_ hw => (all (μ36 I_ + 1)) I_ hw (Nat.lt_succ_self _)) I h)

def jX12_letInI (a1 : Int32) : Nat → IM → Int32 × IM
  | 0 => fun I => (0, I)
  | n + 1 => fun  I => (if ((jX12_advance I a1).1) = 0 then ((jX12_finds (-1000005)), (jX12_findsM (jX12_advance I a1).2)) else (if (jX12_puts (jX12_advance I a1).2 a1) = 0 then (jX12_letInI a1 n  (up2 (up2 (jX12_putsM (jX12_advance I a1).2 a1) 106 a1.toNatClampNeg (jX12_puts (jX12_advance I a1).2 a1)) 106 a1.toNatClampNeg 0)) else (if (jX12_holds (up2 (jX12_putsM (jX12_advance I a1).2 a1) 106 a1.toNatClampNeg (jX12_puts (jX12_advance I a1).2 a1)) 0) = 0 then (jX12_letInI a1 n  (up2 (up2 (jX12_putsM (jX12_advance I a1).2 a1) 106 a1.toNatClampNeg (jX12_puts (jX12_advance I a1).2 a1)) 106 a1.toNatClampNeg 0)) else (((jX12_putsM (jX12_advance I a1).2 a1) 127 a1.toNatClampNeg), (up2 (jX12_putsM (jX12_advance I a1).2 a1) 106 a1.toNatClampNeg (jX12_puts (jX12_advance I a1).2 a1))))))
def jX12_letInO (a1 : Int32) : Nat → IM → Prop
  | 0 => fun _ => False
  | n + 1 => fun  I => (((jX12_advanceK I a1)) ∧ (((((jX12_advance I a1).1) = 0) → True) ∧ ((¬ ((jX12_advance I a1).1) = 0) → (((jX12_putsK (jX12_advance I a1).2 a1)) ∧ (vp_in a1 8 ∧ (((jX12_puts (jX12_advance I a1).2 a1) = 0 ∨ (jX12_puts (jX12_advance I a1).2 a1) = 1) ∧ (vp_in a1 8 ∧ ((((jX12_puts (jX12_advance I a1).2 a1) = 0) → (vp_in a1 8 ∧ (jX12_letInO a1 n  (up2 (up2 (jX12_putsM (jX12_advance I a1).2 a1) 106 a1.toNatClampNeg (jX12_puts (jX12_advance I a1).2 a1)) 106 a1.toNatClampNeg 0)))) ∧ ((¬ (jX12_puts (jX12_advance I a1).2 a1) = 0) → (((jX12_holdsK (up2 (jX12_putsM (jX12_advance I a1).2 a1) 106 a1.toNatClampNeg (jX12_puts (jX12_advance I a1).2 a1)) 0)) ∧ ((((jX12_holds (up2 (jX12_putsM (jX12_advance I a1).2 a1) 106 a1.toNatClampNeg (jX12_puts (jX12_advance I a1).2 a1)) 0) = 0) → (vp_in a1 8 ∧ (jX12_letInO a1 n  (up2 (up2 (jX12_putsM (jX12_advance I a1).2 a1) 106 a1.toNatClampNeg (jX12_puts (jX12_advance I a1).2 a1)) 106 a1.toNatClampNeg 0)))) ∧ ((¬ (jX12_holds (up2 (jX12_putsM (jX12_advance I a1).2 a1) 106 a1.toNatClampNeg (jX12_puts (jX12_advance I a1).2 a1)) 0) = 0) → vp_in a1 8))))))))))))
theorem jX12_letInI_36 (a1 : Int32) (n : Nat) (I : IM) : jX12_letInI a1 (n + 1)  I = (if ((jX12_advance I a1).1) = 0 then ((jX12_finds (-1000005)), (jX12_findsM (jX12_advance I a1).2)) else (if (jX12_puts (jX12_advance I a1).2 a1) = 0 then (jX12_letInI a1 n  (up2 (up2 (jX12_putsM (jX12_advance I a1).2 a1) 106 a1.toNatClampNeg (jX12_puts (jX12_advance I a1).2 a1)) 106 a1.toNatClampNeg 0)) else (if (jX12_holds (up2 (jX12_putsM (jX12_advance I a1).2 a1) 106 a1.toNatClampNeg (jX12_puts (jX12_advance I a1).2 a1)) 0) = 0 then (jX12_letInI a1 n  (up2 (up2 (jX12_putsM (jX12_advance I a1).2 a1) 106 a1.toNatClampNeg (jX12_puts (jX12_advance I a1).2 a1)) 106 a1.toNatClampNeg 0)) else (((jX12_putsM (jX12_advance I a1).2 a1) 127 a1.toNatClampNeg), (up2 (jX12_putsM (jX12_advance I a1).2 a1) 106 a1.toNatClampNeg (jX12_puts (jX12_advance I a1).2 a1)))))) := rfl
theorem jX12_letInO_36 (a1 : Int32) (n : Nat) (I : IM) : jX12_letInO a1 (n + 1)  I = (((jX12_advanceK I a1)) ∧ (((((jX12_advance I a1).1) = 0) → True) ∧ ((¬ ((jX12_advance I a1).1) = 0) → (((jX12_putsK (jX12_advance I a1).2 a1)) ∧ (vp_in a1 8 ∧ (((jX12_puts (jX12_advance I a1).2 a1) = 0 ∨ (jX12_puts (jX12_advance I a1).2 a1) = 1) ∧ (vp_in a1 8 ∧ ((((jX12_puts (jX12_advance I a1).2 a1) = 0) → (vp_in a1 8 ∧ (jX12_letInO a1 n  (up2 (up2 (jX12_putsM (jX12_advance I a1).2 a1) 106 a1.toNatClampNeg (jX12_puts (jX12_advance I a1).2 a1)) 106 a1.toNatClampNeg 0)))) ∧ ((¬ (jX12_puts (jX12_advance I a1).2 a1) = 0) → (((jX12_holdsK (up2 (jX12_putsM (jX12_advance I a1).2 a1) 106 a1.toNatClampNeg (jX12_puts (jX12_advance I a1).2 a1)) 0)) ∧ ((((jX12_holds (up2 (jX12_putsM (jX12_advance I a1).2 a1) 106 a1.toNatClampNeg (jX12_puts (jX12_advance I a1).2 a1)) 0) = 0) → (vp_in a1 8 ∧ (jX12_letInO a1 n  (up2 (up2 (jX12_putsM (jX12_advance I a1).2 a1) 106 a1.toNatClampNeg (jX12_puts (jX12_advance I a1).2 a1)) 106 a1.toNatClampNeg 0)))) ∧ ((¬ (jX12_holds (up2 (jX12_putsM (jX12_advance I a1).2 a1) 106 a1.toNatClampNeg (jX12_puts (jX12_advance I a1).2 a1)) 0) = 0) → vp_in a1 8)))))))))))) := rfl
def jX12_letIn (I : IM) (a1 : Int32) : Int32 × IM := (if wi a1 0 (I 79 2 - 1) then (if (I 106 a1.toNatClampNeg) = 0 then (jX12_letInI a1 FU  (jX12_startM I a1)) else ((jX12_finds (-1000003)), (jX12_findsM I))) else ((jX12_finds (-1000001)), (jX12_findsM I)))
def jX12_letInK (I : IM) (a1 : Int32) : Prop := (((wi a1 0 (I 79 2 - 1)) → (vp_in a1 8 ∧ ((((I 106 a1.toNatClampNeg) = 0) → (((jX12_startK I a1)) ∧ (jX12_letInO a1 FU  (jX12_startM I a1)))) ∧ ((¬ (I 106 a1.toNatClampNeg) = 0) → True)))) ∧ ((¬ (wi a1 0 (I 79 2 - 1))) → True))
set_option maxRecDepth 10000 in
set_option maxHeartbeats 1000000 in
theorem uX12_letIn (d : Nat) {T : Topo} (hT : Lay T) (a1 : Int32)   {R : Int32 × IM} : ∀ n : Nat, (∀ (I : IM), jX12_letInO a1 n  I → jX12_letInI a1 n  I = R → J (d + 4) mX12_letIn (PI (fun x T' I' => T' = T ∧ x = R.1 ∧ I' = R.2)) 0 0 36 [some (.ref 79), some (.int a1)] [] T I 0 0) := by
  intro n
  induction n with
  | zero => exact fun _ hz => hz.elim
  | succ n ih =>
    exact fun I hok hit => by
        rw [jX12_letInO_36] at hok
        exact sX12_letIn_36 d hT a1   (K36 := fun I_ => (jX12_letInO a1 n  I_ ∧ jX12_letInI a1 n  I_ = R)) (fun I_ hw => ih I_ hw.1 hw.2) I (by
          unfold fX12_letIn_36
          exact ⟨(hok).1, ⟨fun hc1 => (by rw [jX12_letInI_36, if_pos hc1] at hit; exact ⟨rfl, by rw [← hit], by rw [← hit]⟩), fun hc1 => ⟨(((hok).2).2 hc1).1, ⟨((((hok).2).2 hc1).2).1, ⟨(((((hok).2).2 hc1).2).2).1, ⟨((((((hok).2).2 hc1).2).2).2).1, ⟨fun hc2 => ⟨((((((((hok).2).2 hc1).2).2).2).2).1 hc2).1, ⟨((((((((hok).2).2 hc1).2).2).2).2).1 hc2).2, by rw [jX12_letInI_36, if_neg hc1, if_pos hc2] at hit; exact hit⟩⟩, fun hc2 => ⟨((((((((hok).2).2 hc1).2).2).2).2).2 hc2).1, ⟨fun hc3 => ⟨((((((((((hok).2).2 hc1).2).2).2).2).2 hc2).2).1 hc3).1, ⟨((((((((((hok).2).2 hc1).2).2).2).2).2 hc2).2).1 hc3).2, by rw [jX12_letInI_36, if_neg hc1, if_neg hc2, if_pos hc3] at hit; exact hit⟩⟩, fun hc3 => ⟨(((((((((hok).2).2 hc1).2).2).2).2).2 hc2).2).2 hc3, (by rw [jX12_letInI_36, if_neg hc1, if_neg hc2, if_neg hc3] at hit; exact ⟨rfl, by rw [← hit], by rw [← hit]⟩)⟩⟩⟩⟩⟩⟩⟩⟩⟩⟩)
set_option maxRecDepth 10000 in
set_option maxHeartbeats 1000000 in
theorem qX12_letIn (d : Nat) {T : Topo} {I : IM} (hT : Lay T) (a1 : Int32)  (hp : (jX12_letInK I a1)) : CtI (d + 4) mX12_letIn [.ref 79, .int a1] T I (fun x_ J_ => x_ = (jX12_letIn I a1).1 ∧ J_ = (jX12_letIn I a1).2) := by
  unfold jX12_letInK at hp
  exact Ct.ofJ (by decide +kernel) rfl (by intro v hv; revert v hv; simp [Value.category]) rfl (sX12_letIn_0 d hT a1   (K36 := fun I_ => (jX12_letInO a1 FU  I_ ∧ jX12_letInI a1 FU  I_ = (jX12_letIn I a1))) (fun I_ hw => uX12_letIn d hT a1   FU I_ hw.1 hw.2) I (by
    unfold fX12_letIn_0
    exact ⟨fun hc1 => ⟨((hp).1 hc1).1, ⟨fun hc2 => ⟨((((hp).1 hc1).2).1 hc2).1, ⟨((((hp).1 hc1).2).1 hc2).2, by unfold jX12_letIn; rw [if_pos hc1, if_pos hc2]⟩⟩, fun hc2 => ⟨rfl, by unfold jX12_letIn; rw [if_pos hc1, if_neg hc2], by unfold jX12_letIn; rw [if_pos hc1, if_neg hc2]⟩⟩⟩, fun hc1 => ⟨rfl, by unfold jX12_letIn; rw [if_neg hc1], by unfold jX12_letIn; rw [if_neg hc1]⟩⟩))

def fX12_why_0 (T : Topo) (a1 : Int32) (Q : Int32 → Topo → IM → Prop) (K38 : Int32 → IM → Prop) (I : IM) : Prop :=
  ((((wi a1 0 (I 79 2 - 1)) → (vp_in a1 8 ∧ ((((I 106 a1.toNatClampNeg) = 0) → (((jX12_startK I a1)) ∧ K38 1 (jX12_startM I a1))) ∧ ((¬ (I 106 a1.toNatClampNeg) = 0) → (Q (jX12_finds (-1000003)) T (jX12_findsM I)))))) ∧ ((¬ (wi a1 0 (I 79 2 - 1))) → (Q (jX12_finds (-1000001)) T (jX12_findsM I)))))
def fX12_why_38 (T : Topo) (a1 : Int32) (Q : Int32 → Topo → IM → Prop) (K38 : Int32 → IM → Prop) (v2 : Int32) (I : IM) : Prop :=
  (((jX12_advanceK I a1)) ∧ (((((jX12_advance I a1).1) = 0) → Q v2 T (jX12_advance I a1).2) ∧ ((¬ ((jX12_advance I a1).1) = 0) → (((jX12_putsK (jX12_advance I a1).2 a1)) ∧ (vp_in a1 8 ∧ ((jX12_puts (jX12_advance I a1).2 a1) = 0 ∨ (jX12_puts (jX12_advance I a1).2 a1) = 1) ∧ ((((jX12_puts (jX12_advance I a1).2 a1) = 0) → (vp_in a1 8 ∧ (((2 ≤ v2) → K38 v2 (up2 (up2 (jX12_putsM (jX12_advance I a1).2 a1) 106 a1.toNatClampNeg (jX12_puts (jX12_advance I a1).2 a1)) 106 a1.toNatClampNeg 0)) ∧ ((¬ 2 ≤ v2) → K38 2 (up2 (up2 (jX12_putsM (jX12_advance I a1).2 a1) 106 a1.toNatClampNeg (jX12_puts (jX12_advance I a1).2 a1)) 106 a1.toNatClampNeg 0))))) ∧ ((¬ (jX12_puts (jX12_advance I a1).2 a1) = 0) → (((jX12_holdsK (up2 (jX12_putsM (jX12_advance I a1).2 a1) 106 a1.toNatClampNeg (jX12_puts (jX12_advance I a1).2 a1)) 0)) ∧ ((((jX12_holds (up2 (jX12_putsM (jX12_advance I a1).2 a1) 106 a1.toNatClampNeg (jX12_puts (jX12_advance I a1).2 a1)) 0) = 0) → (((jX12_holdsK (up2 (jX12_putsM (jX12_advance I a1).2 a1) 106 a1.toNatClampNeg (jX12_puts (jX12_advance I a1).2 a1)) 1)) ∧ ((((jX12_holds (up2 (jX12_putsM (jX12_advance I a1).2 a1) 106 a1.toNatClampNeg (jX12_puts (jX12_advance I a1).2 a1)) 1) = 0) → (vp_in a1 8 ∧ (((3 ≤ v2) → K38 v2 (up2 (up2 (jX12_putsM (jX12_advance I a1).2 a1) 106 a1.toNatClampNeg (jX12_puts (jX12_advance I a1).2 a1)) 106 a1.toNatClampNeg 0)) ∧ ((¬ 3 ≤ v2) → K38 3 (up2 (up2 (jX12_putsM (jX12_advance I a1).2 a1) 106 a1.toNatClampNeg (jX12_puts (jX12_advance I a1).2 a1)) 106 a1.toNatClampNeg 0))))) ∧ ((¬ (jX12_holds (up2 (jX12_putsM (jX12_advance I a1).2 a1) 106 a1.toNatClampNeg (jX12_puts (jX12_advance I a1).2 a1)) 1) = 0) → (vp_in a1 8 ∧ (((4 ≤ v2) → K38 v2 (up2 (up2 (jX12_putsM (jX12_advance I a1).2 a1) 106 a1.toNatClampNeg (jX12_puts (jX12_advance I a1).2 a1)) 106 a1.toNatClampNeg 0)) ∧ ((¬ 4 ≤ v2) → K38 4 (up2 (up2 (jX12_putsM (jX12_advance I a1).2 a1) 106 a1.toNatClampNeg (jX12_puts (jX12_advance I a1).2 a1)) 106 a1.toNatClampNeg 0)))))))) ∧ ((¬ (jX12_holds (up2 (jX12_putsM (jX12_advance I a1).2 a1) 106 a1.toNatClampNeg (jX12_puts (jX12_advance I a1).2 a1)) 0) = 0) → (((jX12_holdsK (up2 (jX12_putsM (jX12_advance I a1).2 a1) 106 a1.toNatClampNeg (jX12_puts (jX12_advance I a1).2 a1)) 1)) ∧ ((((jX12_holds (up2 (jX12_putsM (jX12_advance I a1).2 a1) 106 a1.toNatClampNeg (jX12_puts (jX12_advance I a1).2 a1)) 1) = 0) → (vp_in a1 8 ∧ Q 0 T (up2 (up2 (jX12_putsM (jX12_advance I a1).2 a1) 106 a1.toNatClampNeg (jX12_puts (jX12_advance I a1).2 a1)) 106 a1.toNatClampNeg 0))) ∧ ((¬ (jX12_holds (up2 (jX12_putsM (jX12_advance I a1).2 a1) 106 a1.toNatClampNeg (jX12_puts (jX12_advance I a1).2 a1)) 1) = 0) → (vp_in a1 8 ∧ Q 0 T (up2 (up2 (jX12_putsM (jX12_advance I a1).2 a1) 106 a1.toNatClampNeg (jX12_puts (jX12_advance I a1).2 a1)) 106 a1.toNatClampNeg 0)))))))))))))))
set_option maxHeartbeats 4000000 in
set_option maxRecDepth 100000 in
theorem sX12_why_0 (d : Nat) {T : Topo} (hT : Lay T) (a1 : Int32)    {Q : Int32 → Topo → IM → Prop} {K38 : Int32 → IM → Prop} (hK38 : ∀ (v2 : Int32) (I : IM), K38 v2 I → J (d + 4) mX12_why (PI Q) 0 0 38 [some (.ref 79), some (.int a1), some (.int v2), none, none, none, none] [] T I 0 0) (I : IM) (h : fX12_why_0 T a1 Q K38 I) : J (d + 4) mX12_why (PI Q) 0 0 0 [some (.ref 79), some (.int a1), none, none, none, none, none] [] T I 0 0 := by
  unfold fX12_why_0 at h
  refine J.aload_n dX12_why_0 rfl rfl ?_
  refine J.iload_n dX12_why_1 rfl rfl ?_
  refine J.callVP (k := 79) (as := [.int a1]) (rest := []) dX12_why_2 kX12_isSlice vX12_isSlice lX12_235 (hT.k 79 rfl) rfl rfl rfl rfl rfl (by omega) (Nat.le_refl _) (Nat.le_refl _) (qX12_isSlice (d + 2) hT a1 ) ?_
  refine J.bz_ne (tgt := 15) dX12_why_5 (by decide) (fun hc1 => ?_) (fun hc1 => ?_)
  · have h := h.1 hc1
    refine J.aload_n dX12_why_15 rfl rfl ?_
    refine J.getR (r := 106) dX12_why_16 fX12_93 (hT.k 79 rfl) rfl (hT.r 79 35 rfl rfl) ?_
    refine J.iload_n dX12_why_19 rfl rfl ?_
    obtain ⟨hs2, h⟩ := h
    refine J.bald dX12_why_20 (hT.k 106 rfl) (hT.l 106 rfl) hs2 ?_
    refine J.if_eq (tgt := 31) dX12_why_21 (by decide) (fun hc3 => ?_) (fun hc3 => ?_)
    · have h := h.1 hc3
      refine J.aload_n dX12_why_31 rfl rfl ?_
      refine J.iload_n dX12_why_32 rfl rfl ?_
      obtain ⟨hp4, h⟩ := h
      refine J.callVD (k := 79) (as := [.int a1]) (rest := []) dX12_why_33 kX12_start vX12_start lX12_284 (hT.k 79 rfl) rfl rfl rfl rfl rfl (by omega) (Nat.le_refl _) (Nat.le_refl _) (qX12_start (d + 0) hT a1 hp4) ?_
      refine J.iconst (v := 1) dX12_why_36 (by decide) ?_
      refine J.istore_n (ls' := [some (.ref 79), some (.int a1), some (.int 1), none, none, none, none]) dX12_why_37 rfl rfl rfl ?_
      exact J.weaken (ls' := [some (.ref 79), some (.int a1), some (.int 1), none, none, none, none]) (And.intro rfl (And.intro rfl (And.intro rfl trivial))) (hK38 1 (jX12_startM I a1) h)
    · have h := h.2 hc3
      refine J.aload_n dX12_why_24 rfl rfl ?_
      refine J.ldc (v := (-1000003)) dX12_why_25 kcX12_238 ?_
      refine J.callVE (k := 79) (as := [.int (-1000003)]) (rest := []) dX12_why_27 kX12_finds vX12_finds lX12_200 (hT.k 79 rfl) rfl rfl rfl rfl rfl (by omega) (Nat.le_refl _) (Nat.le_refl _) (qX12_finds (d + 3) hT (-1000003) ) ?_
      exact J.iretQ dX12_why_30 rfl (Nat.le_refl _) (Nat.le_refl _) h
  · have h := h.2 hc1
    refine J.aload_n dX12_why_8 rfl rfl ?_
    refine J.ldc (v := (-1000001)) dX12_why_9 kcX12_199 ?_
    refine J.callVE (k := 79) (as := [.int (-1000001)]) (rest := []) dX12_why_11 kX12_finds vX12_finds lX12_200 (hT.k 79 rfl) rfl rfl rfl rfl rfl (by omega) (Nat.le_refl _) (Nat.le_refl _) (qX12_finds (d + 3) hT (-1000001) ) ?_
    exact J.iretQ dX12_why_14 rfl (Nat.le_refl _) (Nat.le_refl _) h
set_option maxHeartbeats 4000000 in
set_option maxRecDepth 100000 in
theorem sX12_why_38 (d : Nat) {T : Topo} (hT : Lay T) (a1 : Int32)    {Q : Int32 → Topo → IM → Prop} {K38 : Int32 → IM → Prop} (hK38 : ∀ (v2 : Int32) (I : IM), K38 v2 I → J (d + 4) mX12_why (PI Q) 0 0 38 [some (.ref 79), some (.int a1), some (.int v2), none, none, none, none] [] T I 0 0) (v2 : Int32) (I : IM) (h : fX12_why_38 T a1 Q K38 v2 I) : J (d + 4) mX12_why (PI Q) 0 0 38 [some (.ref 79), some (.int a1), some (.int v2), none, none, none, none] [] T I 0 0 := by
  unfold fX12_why_38 at h
  refine J.aload_n dX12_why_38 rfl rfl ?_
  refine J.iload_n dX12_why_39 rfl rfl ?_
  obtain ⟨hp1, h⟩ := h
  refine J.callVE (k := 79) (as := [.int a1]) (rest := []) dX12_why_40 kX12_advance vX12_advance lX12_288 (hT.k 79 rfl) rfl rfl rfl rfl rfl (by omega) (Nat.le_refl _) (Nat.le_refl _) (qX12_advance (d + 2) hT a1 hp1) ?_
  refine J.if_eq (tgt := 147) dX12_why_43 (by decide) (fun hc2 => ?_) (fun hc2 => ?_)
  · have h := h.1 hc2
    refine J.iload_n dX12_why_147 rfl rfl ?_
    exact J.iretQ dX12_why_148 rfl (Nat.le_refl _) (Nat.le_refl _) h
  · have h := h.2 hc2
    refine J.aload_n dX12_why_46 rfl rfl ?_
    refine J.iload_n dX12_why_47 rfl rfl ?_
    obtain ⟨hp3, h⟩ := h
    refine J.callVE (k := 79) (as := [.int a1]) (rest := []) dX12_why_48 kX12_puts vX12_puts lX12_291 (hT.k 79 rfl) rfl rfl rfl rfl rfl (by omega) (Nat.le_refl _) (Nat.le_refl _) (qX12_puts (d + 1) hT a1 hp3) ?_
    refine J.istore_n (ls' := [some (.ref 79), some (.int a1), some (.int v2), some (.int (jX12_puts (jX12_advance I a1).2 a1)), none, none, none]) dX12_why_51 rfl rfl rfl ?_
    refine J.aload_n dX12_why_52 rfl rfl ?_
    refine J.getR (r := 106) dX12_why_53 fX12_93 (hT.k 79 rfl) rfl (hT.r 79 35 rfl rfl) ?_
    refine J.iload_n dX12_why_56 rfl rfl ?_
    refine J.iload_n dX12_why_57 rfl rfl ?_
    obtain ⟨hs4, h⟩ := h
    obtain ⟨hz5, h⟩ := h
    refine J.bast dX12_why_58 (hT.k 106 rfl) (hT.l 106 rfl) hs4 hz5 ?_
    refine J.iload_n dX12_why_59 rfl rfl ?_
    refine J.if_eq (tgt := 75) dX12_why_60 (by decide) (fun hc6 => ?_) (fun hc6 => ?_)
    · have h := h.1 hc6
      refine J.iconst (v := 0) dX12_why_75 (by decide) ?_
      refine J.istore (ls' := [some (.ref 79), some (.int a1), some (.int v2), some (.int (jX12_puts (jX12_advance I a1).2 a1)), some (.int 0), none, none]) dX12_why_76 rfl rfl ?_
      refine J.iload_n dX12_why_78 rfl rfl ?_
      refine J.if_eq (tgt := 94) dX12_why_79 (by decide) (fun hc => ?_) (fun hc => absurd hc6 hc)
      refine J.iconst (v := 0) dX12_why_94 (by decide) ?_
      refine J.istore (ls' := [some (.ref 79), some (.int a1), some (.int v2), some (.int (jX12_puts (jX12_advance I a1).2 a1)), some (.int 0), some (.int 0), none]) dX12_why_95 rfl rfl ?_
      refine J.aload_n dX12_why_97 rfl rfl ?_
      refine J.atpc (pc' := 98) rfl ?_
      refine J.getR (r := 106) dX12_why_98 fX12_93 (hT.k 79 rfl) rfl (hT.r 79 35 rfl rfl) ?_
      refine J.iload_n dX12_why_101 rfl rfl ?_
      refine J.iconst (v := 0) dX12_why_102 (by decide) ?_
      obtain ⟨hs7, h⟩ := h
      refine J.bast dX12_why_103 (hT.k 106 rfl) (hT.l 106 rfl) hs7 (Or.inl rfl) ?_
      refine J.iload dX12_why_104 rfl ?_
      refine J.if_eq (tgt := 111) dX12_why_106 (by decide) (fun hc => ?_) (fun hc => absurd (by decide) hc)
      refine J.iload_n dX12_why_111 rfl rfl ?_
      refine J.if_ne (tgt := 119) dX12_why_112 (by decide) (fun hc => absurd hc6 hc) (fun hc => ?_)
      refine J.iconst (v := 2) dX12_why_115 (by decide) ?_
      refine J.goto (tgt := 129) dX12_why_116 (by decide) ?_
      refine J.istore (ls' := [some (.ref 79), some (.int a1), some (.int v2), some (.int (jX12_puts (jX12_advance I a1).2 a1)), some (.int 0), some (.int 0), some (.int 2)]) dX12_why_129 rfl rfl ?_
      refine J.atpc (pc' := 131) rfl ?_
      refine J.iload dX12_why_131 rfl ?_
      refine J.iload_n dX12_why_133 rfl rfl ?_
      refine J.icmp_le (tgt := 142) dX12_why_134 (by decide) (fun hc8 => ?_) (fun hc8 => ?_)
      · have h := h.1 hc8
        refine J.iload_n dX12_why_142 rfl rfl ?_
        refine J.istore_n (ls' := [some (.ref 79), some (.int a1), some (.int v2), some (.int (jX12_puts (jX12_advance I a1).2 a1)), some (.int 0), some (.int 0), some (.int 2)]) dX12_why_143 rfl rfl rfl ?_
        refine J.goto (tgt := 38) dX12_why_144 (by decide) ?_
        exact J.weaken (ls' := [some (.ref 79), some (.int a1), some (.int v2), none, none, none, none]) (And.intro rfl (And.intro rfl (And.intro rfl trivial))) (hK38 v2 (up2 (up2 (jX12_putsM (jX12_advance I a1).2 a1) 106 a1.toNatClampNeg (jX12_puts (jX12_advance I a1).2 a1)) 106 a1.toNatClampNeg 0) h)
      · have h := h.2 hc8
        refine J.iload dX12_why_137 rfl ?_
        refine J.goto (tgt := 143) dX12_why_139 (by decide) ?_
        refine J.istore_n (ls' := [some (.ref 79), some (.int a1), some (.int 2), some (.int (jX12_puts (jX12_advance I a1).2 a1)), some (.int 0), some (.int 0), some (.int 2)]) dX12_why_143 rfl rfl rfl ?_
        refine J.goto (tgt := 38) dX12_why_144 (by decide) ?_
        exact J.weaken (ls' := [some (.ref 79), some (.int a1), some (.int 2), none, none, none, none]) (And.intro rfl (And.intro rfl (And.intro rfl trivial))) (hK38 2 (up2 (up2 (jX12_putsM (jX12_advance I a1).2 a1) 106 a1.toNatClampNeg (jX12_puts (jX12_advance I a1).2 a1)) 106 a1.toNatClampNeg 0) h)
    · have h := h.2 hc6
      refine J.aload_n dX12_why_63 rfl rfl ?_
      refine J.iconst (v := 0) dX12_why_64 (by decide) ?_
      obtain ⟨hp9, h⟩ := h
      refine J.callVP (k := 79) (as := [.int 0]) (rest := []) dX12_why_65 kX12_holds vX12_holds lX12_294 (hT.k 79 rfl) rfl rfl rfl rfl rfl (by omega) (Nat.le_refl _) (Nat.le_refl _) (qX12_holds (d + 0) hT 0 hp9) ?_
      refine J.if_eq (tgt := 75) dX12_why_68 (by decide) (fun hc10 => ?_) (fun hc10 => ?_)
      · have h := h.1 hc10
        refine J.iconst (v := 0) dX12_why_75 (by decide) ?_
        refine J.istore (ls' := [some (.ref 79), some (.int a1), some (.int v2), some (.int (jX12_puts (jX12_advance I a1).2 a1)), some (.int 0), none, none]) dX12_why_76 rfl rfl ?_
        refine J.iload_n dX12_why_78 rfl rfl ?_
        refine J.if_eq (tgt := 94) dX12_why_79 (by decide) (fun hc => absurd hc hc6) (fun hc => ?_)
        refine J.aload_n dX12_why_82 rfl rfl ?_
        refine J.iconst (v := 1) dX12_why_83 (by decide) ?_
        obtain ⟨hp11, h⟩ := h
        refine J.callVP (k := 79) (as := [.int 1]) (rest := []) dX12_why_84 kX12_holds vX12_holds lX12_294 (hT.k 79 rfl) rfl rfl rfl rfl rfl (by omega) (Nat.le_refl _) (Nat.le_refl _) (qX12_holds (d + 0) hT 1 hp11) ?_
        refine J.if_eq (tgt := 94) dX12_why_87 (by decide) (fun hc12 => ?_) (fun hc12 => ?_)
        · have h := h.1 hc12
          refine J.iconst (v := 0) dX12_why_94 (by decide) ?_
          refine J.istore (ls' := [some (.ref 79), some (.int a1), some (.int v2), some (.int (jX12_puts (jX12_advance I a1).2 a1)), some (.int 0), some (.int 0), none]) dX12_why_95 rfl rfl ?_
          refine J.aload_n dX12_why_97 rfl rfl ?_
          refine J.getR (r := 106) dX12_why_98 fX12_93 (hT.k 79 rfl) rfl (hT.r 79 35 rfl rfl) ?_
          refine J.iload_n dX12_why_101 rfl rfl ?_
          refine J.iconst (v := 0) dX12_why_102 (by decide) ?_
          obtain ⟨hs13, h⟩ := h
          refine J.bast dX12_why_103 (hT.k 106 rfl) (hT.l 106 rfl) hs13 (Or.inl rfl) ?_
          refine J.iload dX12_why_104 rfl ?_
          refine J.if_eq (tgt := 111) dX12_why_106 (by decide) (fun hc => ?_) (fun hc => absurd (by decide) hc)
          refine J.iload_n dX12_why_111 rfl rfl ?_
          refine J.if_ne (tgt := 119) dX12_why_112 (by decide) (fun hc => ?_) (fun hc => absurd hc hc6)
          refine J.iload dX12_why_119 rfl ?_
          refine J.if_ne (tgt := 128) dX12_why_121 (by decide) (fun hc => absurd (by decide) hc) (fun hc => ?_)
          refine J.iconst (v := 3) dX12_why_124 (by decide) ?_
          refine J.atpc (pc' := 125) rfl ?_
          refine J.goto (tgt := 129) dX12_why_125 (by decide) ?_
          refine J.istore (ls' := [some (.ref 79), some (.int a1), some (.int v2), some (.int (jX12_puts (jX12_advance I a1).2 a1)), some (.int 0), some (.int 0), some (.int 3)]) dX12_why_129 rfl rfl ?_
          refine J.iload dX12_why_131 rfl ?_
          refine J.iload_n dX12_why_133 rfl rfl ?_
          refine J.icmp_le (tgt := 142) dX12_why_134 (by decide) (fun hc14 => ?_) (fun hc14 => ?_)
          · have h := h.1 hc14
            refine J.iload_n dX12_why_142 rfl rfl ?_
            refine J.istore_n (ls' := [some (.ref 79), some (.int a1), some (.int v2), some (.int (jX12_puts (jX12_advance I a1).2 a1)), some (.int 0), some (.int 0), some (.int 3)]) dX12_why_143 rfl rfl rfl ?_
            refine J.goto (tgt := 38) dX12_why_144 (by decide) ?_
            exact J.weaken (ls' := [some (.ref 79), some (.int a1), some (.int v2), none, none, none, none]) (And.intro rfl (And.intro rfl (And.intro rfl trivial))) (hK38 v2 (up2 (up2 (jX12_putsM (jX12_advance I a1).2 a1) 106 a1.toNatClampNeg (jX12_puts (jX12_advance I a1).2 a1)) 106 a1.toNatClampNeg 0) h)
          · have h := h.2 hc14
            refine J.iload dX12_why_137 rfl ?_
            refine J.goto (tgt := 143) dX12_why_139 (by decide) ?_
            refine J.istore_n (ls' := [some (.ref 79), some (.int a1), some (.int 3), some (.int (jX12_puts (jX12_advance I a1).2 a1)), some (.int 0), some (.int 0), some (.int 3)]) dX12_why_143 rfl rfl rfl ?_
            refine J.goto (tgt := 38) dX12_why_144 (by decide) ?_
            exact J.weaken (ls' := [some (.ref 79), some (.int a1), some (.int 3), none, none, none, none]) (And.intro rfl (And.intro rfl (And.intro rfl trivial))) (hK38 3 (up2 (up2 (jX12_putsM (jX12_advance I a1).2 a1) 106 a1.toNatClampNeg (jX12_puts (jX12_advance I a1).2 a1)) 106 a1.toNatClampNeg 0) h)
        · have h := h.2 hc12
          refine J.iconst (v := 1) dX12_why_90 (by decide) ?_
          refine J.goto (tgt := 95) dX12_why_91 (by decide) ?_
          refine J.istore (ls' := [some (.ref 79), some (.int a1), some (.int v2), some (.int (jX12_puts (jX12_advance I a1).2 a1)), some (.int 0), some (.int 1), none]) dX12_why_95 rfl rfl ?_
          refine J.aload_n dX12_why_97 rfl rfl ?_
          refine J.getR (r := 106) dX12_why_98 fX12_93 (hT.k 79 rfl) rfl (hT.r 79 35 rfl rfl) ?_
          refine J.iload_n dX12_why_101 rfl rfl ?_
          refine J.iconst (v := 0) dX12_why_102 (by decide) ?_
          refine J.atpc (pc' := 103) rfl ?_
          obtain ⟨hs15, h⟩ := h
          refine J.bast dX12_why_103 (hT.k 106 rfl) (hT.l 106 rfl) hs15 (Or.inl rfl) ?_
          refine J.iload dX12_why_104 rfl ?_
          refine J.if_eq (tgt := 111) dX12_why_106 (by decide) (fun hc => ?_) (fun hc => absurd (by decide) hc)
          refine J.iload_n dX12_why_111 rfl rfl ?_
          refine J.if_ne (tgt := 119) dX12_why_112 (by decide) (fun hc => ?_) (fun hc => absurd hc hc6)
          refine J.iload dX12_why_119 rfl ?_
          refine J.if_ne (tgt := 128) dX12_why_121 (by decide) (fun hc => ?_) (fun hc => absurd hc (by decide))
          refine J.iconst (v := 4) dX12_why_128 (by decide) ?_
          refine J.atpc (pc' := 129) rfl ?_
          refine J.istore (ls' := [some (.ref 79), some (.int a1), some (.int v2), some (.int (jX12_puts (jX12_advance I a1).2 a1)), some (.int 0), some (.int 1), some (.int 4)]) dX12_why_129 rfl rfl ?_
          refine J.iload dX12_why_131 rfl ?_
          refine J.iload_n dX12_why_133 rfl rfl ?_
          refine J.icmp_le (tgt := 142) dX12_why_134 (by decide) (fun hc16 => ?_) (fun hc16 => ?_)
          · have h := h.1 hc16
            refine J.iload_n dX12_why_142 rfl rfl ?_
            refine J.istore_n (ls' := [some (.ref 79), some (.int a1), some (.int v2), some (.int (jX12_puts (jX12_advance I a1).2 a1)), some (.int 0), some (.int 1), some (.int 4)]) dX12_why_143 rfl rfl rfl ?_
            refine J.goto (tgt := 38) dX12_why_144 (by decide) ?_
            exact J.weaken (ls' := [some (.ref 79), some (.int a1), some (.int v2), none, none, none, none]) (And.intro rfl (And.intro rfl (And.intro rfl trivial))) (hK38 v2 (up2 (up2 (jX12_putsM (jX12_advance I a1).2 a1) 106 a1.toNatClampNeg (jX12_puts (jX12_advance I a1).2 a1)) 106 a1.toNatClampNeg 0) h)
          · have h := h.2 hc16
            refine J.iload dX12_why_137 rfl ?_
            refine J.goto (tgt := 143) dX12_why_139 (by decide) ?_
            refine J.istore_n (ls' := [some (.ref 79), some (.int a1), some (.int 4), some (.int (jX12_puts (jX12_advance I a1).2 a1)), some (.int 0), some (.int 1), some (.int 4)]) dX12_why_143 rfl rfl rfl ?_
            refine J.goto (tgt := 38) dX12_why_144 (by decide) ?_
            exact J.weaken (ls' := [some (.ref 79), some (.int a1), some (.int 4), none, none, none, none]) (And.intro rfl (And.intro rfl (And.intro rfl trivial))) (hK38 4 (up2 (up2 (jX12_putsM (jX12_advance I a1).2 a1) 106 a1.toNatClampNeg (jX12_puts (jX12_advance I a1).2 a1)) 106 a1.toNatClampNeg 0) h)
      · have h := h.2 hc10
        refine J.iconst (v := 1) dX12_why_71 (by decide) ?_
        refine J.goto (tgt := 76) dX12_why_72 (by decide) ?_
        refine J.istore (ls' := [some (.ref 79), some (.int a1), some (.int v2), some (.int (jX12_puts (jX12_advance I a1).2 a1)), some (.int 1), none, none]) dX12_why_76 rfl rfl ?_
        refine J.iload_n dX12_why_78 rfl rfl ?_
        refine J.if_eq (tgt := 94) dX12_why_79 (by decide) (fun hc => absurd hc hc6) (fun hc => ?_)
        refine J.aload_n dX12_why_82 rfl rfl ?_
        refine J.iconst (v := 1) dX12_why_83 (by decide) ?_
        refine J.atpc (pc' := 84) rfl ?_
        obtain ⟨hp17, h⟩ := h
        refine J.callVP (k := 79) (as := [.int 1]) (rest := []) dX12_why_84 kX12_holds vX12_holds lX12_294 (hT.k 79 rfl) rfl rfl rfl rfl rfl (by omega) (Nat.le_refl _) (Nat.le_refl _) (qX12_holds (d + 0) hT 1 hp17) ?_
        refine J.if_eq (tgt := 94) dX12_why_87 (by decide) (fun hc18 => ?_) (fun hc18 => ?_)
        · have h := h.1 hc18
          refine J.iconst (v := 0) dX12_why_94 (by decide) ?_
          refine J.istore (ls' := [some (.ref 79), some (.int a1), some (.int v2), some (.int (jX12_puts (jX12_advance I a1).2 a1)), some (.int 1), some (.int 0), none]) dX12_why_95 rfl rfl ?_
          refine J.aload_n dX12_why_97 rfl rfl ?_
          refine J.getR (r := 106) dX12_why_98 fX12_93 (hT.k 79 rfl) rfl (hT.r 79 35 rfl rfl) ?_
          refine J.iload_n dX12_why_101 rfl rfl ?_
          refine J.iconst (v := 0) dX12_why_102 (by decide) ?_
          obtain ⟨hs19, h⟩ := h
          refine J.bast dX12_why_103 (hT.k 106 rfl) (hT.l 106 rfl) hs19 (Or.inl rfl) ?_
          refine J.iload dX12_why_104 rfl ?_
          refine J.if_eq (tgt := 111) dX12_why_106 (by decide) (fun hc => absurd hc (by decide)) (fun hc => ?_)
          refine J.iconst (v := 0) dX12_why_109 (by decide) ?_
          exact J.iretQ dX12_why_110 rfl (Nat.le_refl _) (Nat.le_refl _) h
        · have h := h.2 hc18
          refine J.iconst (v := 1) dX12_why_90 (by decide) ?_
          refine J.goto (tgt := 95) dX12_why_91 (by decide) ?_
          refine J.istore (ls' := [some (.ref 79), some (.int a1), some (.int v2), some (.int (jX12_puts (jX12_advance I a1).2 a1)), some (.int 1), some (.int 1), none]) dX12_why_95 rfl rfl ?_
          refine J.aload_n dX12_why_97 rfl rfl ?_
          refine J.getR (r := 106) dX12_why_98 fX12_93 (hT.k 79 rfl) rfl (hT.r 79 35 rfl rfl) ?_
          refine J.iload_n dX12_why_101 rfl rfl ?_
          refine J.iconst (v := 0) dX12_why_102 (by decide) ?_
          refine J.atpc (pc' := 103) rfl ?_
          obtain ⟨hs20, h⟩ := h
          refine J.bast dX12_why_103 (hT.k 106 rfl) (hT.l 106 rfl) hs20 (Or.inl rfl) ?_
          refine J.iload dX12_why_104 rfl ?_
          refine J.if_eq (tgt := 111) dX12_why_106 (by decide) (fun hc => absurd hc (by decide)) (fun hc => ?_)
          refine J.iconst (v := 0) dX12_why_109 (by decide) ?_
          exact J.iretQ dX12_why_110 rfl (Nat.le_refl _) (Nat.le_refl _) h
set_option maxHeartbeats 4000000 in
set_option maxRecDepth 100000 in
theorem wX12_why (d : Nat) {T : Topo} (hT : Lay T) (a1 : Int32)   {Q : Int32 → Topo → IM → Prop} (V38 : Int32 → IM → Prop) (μ38 : Int32 → IM → Nat) (vc38 : ∀ (v2 : Int32) (I : IM), V38 v2 I → fX12_why_38 T a1 Q (fun w2 I_ => V38 w2 I_ ∧ μ38 w2 I_ < μ38 v2 I) v2 I) {I : IM} (h : fX12_why_0 T a1 Q V38 I) : Ct (d + 4) mX12_why [.ref 79, .int a1] T I 0 0 (PI Q) := by
  have all : ∀ n : Nat, (∀ (v2 : Int32) (I : IM), V38 v2 I → μ38 v2 I < n → J (d + 4) mX12_why (PI Q) 0 0 38 [some (.ref 79), some (.int a1), some (.int v2), none, none, none, none] [] T I 0 0) := by
    intro n
    induction n with
    | zero => exact fun _ _ _ hn => absurd hn (Nat.not_lt_zero _)
    | succ n ih =>
      exact fun v2 I hv hn => sX12_why_38 d hT a1   (fun w2 I_ hw => ih w2 I_ hw.1 (by have := hw.2; omega)) v2 I (vc38 v2 I hv)
  exact Ct.ofJ (by decide +kernel) rfl (by intro v hv; revert v hv; simp [Value.category]) rfl (sX12_why_0 d hT a1   (fun w2 I_ hw => (all (μ38 w2 I_ + 1)) w2 I_ hw (Nat.lt_succ_self _)) I h)

def jX12_whyI (a1 : Int32) : Nat → Int32 → IM → Int32 × IM
  | 0 => fun _ I => (0, I)
  | n + 1 => fun v2 I => (if ((jX12_advance I a1).1) = 0 then (v2, (jX12_advance I a1).2) else (if (jX12_puts (jX12_advance I a1).2 a1) = 0 then (if 2 ≤ v2 then (jX12_whyI a1 n v2 (up2 (up2 (jX12_putsM (jX12_advance I a1).2 a1) 106 a1.toNatClampNeg (jX12_puts (jX12_advance I a1).2 a1)) 106 a1.toNatClampNeg 0)) else (jX12_whyI a1 n 2 (up2 (up2 (jX12_putsM (jX12_advance I a1).2 a1) 106 a1.toNatClampNeg (jX12_puts (jX12_advance I a1).2 a1)) 106 a1.toNatClampNeg 0))) else (if (jX12_holds (up2 (jX12_putsM (jX12_advance I a1).2 a1) 106 a1.toNatClampNeg (jX12_puts (jX12_advance I a1).2 a1)) 0) = 0 then (if (jX12_holds (up2 (jX12_putsM (jX12_advance I a1).2 a1) 106 a1.toNatClampNeg (jX12_puts (jX12_advance I a1).2 a1)) 1) = 0 then (if 3 ≤ v2 then (jX12_whyI a1 n v2 (up2 (up2 (jX12_putsM (jX12_advance I a1).2 a1) 106 a1.toNatClampNeg (jX12_puts (jX12_advance I a1).2 a1)) 106 a1.toNatClampNeg 0)) else (jX12_whyI a1 n 3 (up2 (up2 (jX12_putsM (jX12_advance I a1).2 a1) 106 a1.toNatClampNeg (jX12_puts (jX12_advance I a1).2 a1)) 106 a1.toNatClampNeg 0))) else (if 4 ≤ v2 then (jX12_whyI a1 n v2 (up2 (up2 (jX12_putsM (jX12_advance I a1).2 a1) 106 a1.toNatClampNeg (jX12_puts (jX12_advance I a1).2 a1)) 106 a1.toNatClampNeg 0)) else (jX12_whyI a1 n 4 (up2 (up2 (jX12_putsM (jX12_advance I a1).2 a1) 106 a1.toNatClampNeg (jX12_puts (jX12_advance I a1).2 a1)) 106 a1.toNatClampNeg 0)))) else (0, (up2 (up2 (jX12_putsM (jX12_advance I a1).2 a1) 106 a1.toNatClampNeg (jX12_puts (jX12_advance I a1).2 a1)) 106 a1.toNatClampNeg 0)))))
def jX12_whyO (a1 : Int32) : Nat → Int32 → IM → Prop
  | 0 => fun _ _ => False
  | n + 1 => fun v2 I => (((jX12_advanceK I a1)) ∧ (((((jX12_advance I a1).1) = 0) → True) ∧ ((¬ ((jX12_advance I a1).1) = 0) → (((jX12_putsK (jX12_advance I a1).2 a1)) ∧ (vp_in a1 8 ∧ (((jX12_puts (jX12_advance I a1).2 a1) = 0 ∨ (jX12_puts (jX12_advance I a1).2 a1) = 1) ∧ ((((jX12_puts (jX12_advance I a1).2 a1) = 0) → (vp_in a1 8 ∧ (((2 ≤ v2) → (jX12_whyO a1 n v2 (up2 (up2 (jX12_putsM (jX12_advance I a1).2 a1) 106 a1.toNatClampNeg (jX12_puts (jX12_advance I a1).2 a1)) 106 a1.toNatClampNeg 0))) ∧ ((¬ 2 ≤ v2) → (jX12_whyO a1 n 2 (up2 (up2 (jX12_putsM (jX12_advance I a1).2 a1) 106 a1.toNatClampNeg (jX12_puts (jX12_advance I a1).2 a1)) 106 a1.toNatClampNeg 0)))))) ∧ ((¬ (jX12_puts (jX12_advance I a1).2 a1) = 0) → (((jX12_holdsK (up2 (jX12_putsM (jX12_advance I a1).2 a1) 106 a1.toNatClampNeg (jX12_puts (jX12_advance I a1).2 a1)) 0)) ∧ ((((jX12_holds (up2 (jX12_putsM (jX12_advance I a1).2 a1) 106 a1.toNatClampNeg (jX12_puts (jX12_advance I a1).2 a1)) 0) = 0) → (((jX12_holdsK (up2 (jX12_putsM (jX12_advance I a1).2 a1) 106 a1.toNatClampNeg (jX12_puts (jX12_advance I a1).2 a1)) 1)) ∧ ((((jX12_holds (up2 (jX12_putsM (jX12_advance I a1).2 a1) 106 a1.toNatClampNeg (jX12_puts (jX12_advance I a1).2 a1)) 1) = 0) → (vp_in a1 8 ∧ (((3 ≤ v2) → (jX12_whyO a1 n v2 (up2 (up2 (jX12_putsM (jX12_advance I a1).2 a1) 106 a1.toNatClampNeg (jX12_puts (jX12_advance I a1).2 a1)) 106 a1.toNatClampNeg 0))) ∧ ((¬ 3 ≤ v2) → (jX12_whyO a1 n 3 (up2 (up2 (jX12_putsM (jX12_advance I a1).2 a1) 106 a1.toNatClampNeg (jX12_puts (jX12_advance I a1).2 a1)) 106 a1.toNatClampNeg 0)))))) ∧ ((¬ (jX12_holds (up2 (jX12_putsM (jX12_advance I a1).2 a1) 106 a1.toNatClampNeg (jX12_puts (jX12_advance I a1).2 a1)) 1) = 0) → (vp_in a1 8 ∧ (((4 ≤ v2) → (jX12_whyO a1 n v2 (up2 (up2 (jX12_putsM (jX12_advance I a1).2 a1) 106 a1.toNatClampNeg (jX12_puts (jX12_advance I a1).2 a1)) 106 a1.toNatClampNeg 0))) ∧ ((¬ 4 ≤ v2) → (jX12_whyO a1 n 4 (up2 (up2 (jX12_putsM (jX12_advance I a1).2 a1) 106 a1.toNatClampNeg (jX12_puts (jX12_advance I a1).2 a1)) 106 a1.toNatClampNeg 0))))))))) ∧ ((¬ (jX12_holds (up2 (jX12_putsM (jX12_advance I a1).2 a1) 106 a1.toNatClampNeg (jX12_puts (jX12_advance I a1).2 a1)) 0) = 0) → (((jX12_holdsK (up2 (jX12_putsM (jX12_advance I a1).2 a1) 106 a1.toNatClampNeg (jX12_puts (jX12_advance I a1).2 a1)) 1)) ∧ ((((jX12_holds (up2 (jX12_putsM (jX12_advance I a1).2 a1) 106 a1.toNatClampNeg (jX12_puts (jX12_advance I a1).2 a1)) 1) = 0) → vp_in a1 8) ∧ ((¬ (jX12_holds (up2 (jX12_putsM (jX12_advance I a1).2 a1) 106 a1.toNatClampNeg (jX12_puts (jX12_advance I a1).2 a1)) 1) = 0) → vp_in a1 8))))))))))))))
theorem jX12_whyI_38 (a1 : Int32) (n : Nat) (v2 : Int32) (I : IM) : jX12_whyI a1 (n + 1) v2 I = (if ((jX12_advance I a1).1) = 0 then (v2, (jX12_advance I a1).2) else (if (jX12_puts (jX12_advance I a1).2 a1) = 0 then (if 2 ≤ v2 then (jX12_whyI a1 n v2 (up2 (up2 (jX12_putsM (jX12_advance I a1).2 a1) 106 a1.toNatClampNeg (jX12_puts (jX12_advance I a1).2 a1)) 106 a1.toNatClampNeg 0)) else (jX12_whyI a1 n 2 (up2 (up2 (jX12_putsM (jX12_advance I a1).2 a1) 106 a1.toNatClampNeg (jX12_puts (jX12_advance I a1).2 a1)) 106 a1.toNatClampNeg 0))) else (if (jX12_holds (up2 (jX12_putsM (jX12_advance I a1).2 a1) 106 a1.toNatClampNeg (jX12_puts (jX12_advance I a1).2 a1)) 0) = 0 then (if (jX12_holds (up2 (jX12_putsM (jX12_advance I a1).2 a1) 106 a1.toNatClampNeg (jX12_puts (jX12_advance I a1).2 a1)) 1) = 0 then (if 3 ≤ v2 then (jX12_whyI a1 n v2 (up2 (up2 (jX12_putsM (jX12_advance I a1).2 a1) 106 a1.toNatClampNeg (jX12_puts (jX12_advance I a1).2 a1)) 106 a1.toNatClampNeg 0)) else (jX12_whyI a1 n 3 (up2 (up2 (jX12_putsM (jX12_advance I a1).2 a1) 106 a1.toNatClampNeg (jX12_puts (jX12_advance I a1).2 a1)) 106 a1.toNatClampNeg 0))) else (if 4 ≤ v2 then (jX12_whyI a1 n v2 (up2 (up2 (jX12_putsM (jX12_advance I a1).2 a1) 106 a1.toNatClampNeg (jX12_puts (jX12_advance I a1).2 a1)) 106 a1.toNatClampNeg 0)) else (jX12_whyI a1 n 4 (up2 (up2 (jX12_putsM (jX12_advance I a1).2 a1) 106 a1.toNatClampNeg (jX12_puts (jX12_advance I a1).2 a1)) 106 a1.toNatClampNeg 0)))) else (0, (up2 (up2 (jX12_putsM (jX12_advance I a1).2 a1) 106 a1.toNatClampNeg (jX12_puts (jX12_advance I a1).2 a1)) 106 a1.toNatClampNeg 0))))) := rfl
theorem jX12_whyO_38 (a1 : Int32) (n : Nat) (v2 : Int32) (I : IM) : jX12_whyO a1 (n + 1) v2 I = (((jX12_advanceK I a1)) ∧ (((((jX12_advance I a1).1) = 0) → True) ∧ ((¬ ((jX12_advance I a1).1) = 0) → (((jX12_putsK (jX12_advance I a1).2 a1)) ∧ (vp_in a1 8 ∧ (((jX12_puts (jX12_advance I a1).2 a1) = 0 ∨ (jX12_puts (jX12_advance I a1).2 a1) = 1) ∧ ((((jX12_puts (jX12_advance I a1).2 a1) = 0) → (vp_in a1 8 ∧ (((2 ≤ v2) → (jX12_whyO a1 n v2 (up2 (up2 (jX12_putsM (jX12_advance I a1).2 a1) 106 a1.toNatClampNeg (jX12_puts (jX12_advance I a1).2 a1)) 106 a1.toNatClampNeg 0))) ∧ ((¬ 2 ≤ v2) → (jX12_whyO a1 n 2 (up2 (up2 (jX12_putsM (jX12_advance I a1).2 a1) 106 a1.toNatClampNeg (jX12_puts (jX12_advance I a1).2 a1)) 106 a1.toNatClampNeg 0)))))) ∧ ((¬ (jX12_puts (jX12_advance I a1).2 a1) = 0) → (((jX12_holdsK (up2 (jX12_putsM (jX12_advance I a1).2 a1) 106 a1.toNatClampNeg (jX12_puts (jX12_advance I a1).2 a1)) 0)) ∧ ((((jX12_holds (up2 (jX12_putsM (jX12_advance I a1).2 a1) 106 a1.toNatClampNeg (jX12_puts (jX12_advance I a1).2 a1)) 0) = 0) → (((jX12_holdsK (up2 (jX12_putsM (jX12_advance I a1).2 a1) 106 a1.toNatClampNeg (jX12_puts (jX12_advance I a1).2 a1)) 1)) ∧ ((((jX12_holds (up2 (jX12_putsM (jX12_advance I a1).2 a1) 106 a1.toNatClampNeg (jX12_puts (jX12_advance I a1).2 a1)) 1) = 0) → (vp_in a1 8 ∧ (((3 ≤ v2) → (jX12_whyO a1 n v2 (up2 (up2 (jX12_putsM (jX12_advance I a1).2 a1) 106 a1.toNatClampNeg (jX12_puts (jX12_advance I a1).2 a1)) 106 a1.toNatClampNeg 0))) ∧ ((¬ 3 ≤ v2) → (jX12_whyO a1 n 3 (up2 (up2 (jX12_putsM (jX12_advance I a1).2 a1) 106 a1.toNatClampNeg (jX12_puts (jX12_advance I a1).2 a1)) 106 a1.toNatClampNeg 0)))))) ∧ ((¬ (jX12_holds (up2 (jX12_putsM (jX12_advance I a1).2 a1) 106 a1.toNatClampNeg (jX12_puts (jX12_advance I a1).2 a1)) 1) = 0) → (vp_in a1 8 ∧ (((4 ≤ v2) → (jX12_whyO a1 n v2 (up2 (up2 (jX12_putsM (jX12_advance I a1).2 a1) 106 a1.toNatClampNeg (jX12_puts (jX12_advance I a1).2 a1)) 106 a1.toNatClampNeg 0))) ∧ ((¬ 4 ≤ v2) → (jX12_whyO a1 n 4 (up2 (up2 (jX12_putsM (jX12_advance I a1).2 a1) 106 a1.toNatClampNeg (jX12_puts (jX12_advance I a1).2 a1)) 106 a1.toNatClampNeg 0))))))))) ∧ ((¬ (jX12_holds (up2 (jX12_putsM (jX12_advance I a1).2 a1) 106 a1.toNatClampNeg (jX12_puts (jX12_advance I a1).2 a1)) 0) = 0) → (((jX12_holdsK (up2 (jX12_putsM (jX12_advance I a1).2 a1) 106 a1.toNatClampNeg (jX12_puts (jX12_advance I a1).2 a1)) 1)) ∧ ((((jX12_holds (up2 (jX12_putsM (jX12_advance I a1).2 a1) 106 a1.toNatClampNeg (jX12_puts (jX12_advance I a1).2 a1)) 1) = 0) → vp_in a1 8) ∧ ((¬ (jX12_holds (up2 (jX12_putsM (jX12_advance I a1).2 a1) 106 a1.toNatClampNeg (jX12_puts (jX12_advance I a1).2 a1)) 1) = 0) → vp_in a1 8)))))))))))))) := rfl
def jX12_why (I : IM) (a1 : Int32) : Int32 × IM := (if wi a1 0 (I 79 2 - 1) then (if (I 106 a1.toNatClampNeg) = 0 then (jX12_whyI a1 FU 1 (jX12_startM I a1)) else ((jX12_finds (-1000003)), (jX12_findsM I))) else ((jX12_finds (-1000001)), (jX12_findsM I)))
def jX12_whyK (I : IM) (a1 : Int32) : Prop := (((wi a1 0 (I 79 2 - 1)) → (vp_in a1 8 ∧ ((((I 106 a1.toNatClampNeg) = 0) → (((jX12_startK I a1)) ∧ (jX12_whyO a1 FU 1 (jX12_startM I a1)))) ∧ ((¬ (I 106 a1.toNatClampNeg) = 0) → True)))) ∧ ((¬ (wi a1 0 (I 79 2 - 1))) → True))
set_option maxRecDepth 10000 in
set_option maxHeartbeats 1000000 in
theorem uX12_why (d : Nat) {T : Topo} (hT : Lay T) (a1 : Int32)   {R : Int32 × IM} : ∀ n : Nat, (∀ (v2 : Int32) (I : IM), jX12_whyO a1 n v2 I → jX12_whyI a1 n v2 I = R → J (d + 4) mX12_why (PI (fun x T' I' => T' = T ∧ x = R.1 ∧ I' = R.2)) 0 0 38 [some (.ref 79), some (.int a1), some (.int v2), none, none, none, none] [] T I 0 0) := by
  intro n
  induction n with
  | zero => exact fun _ _ hz => hz.elim
  | succ n ih =>
    exact fun v2 I hok hit => by
        rw [jX12_whyO_38] at hok
        exact sX12_why_38 d hT a1   (K38 := fun w2 I_ => (jX12_whyO a1 n w2 I_ ∧ jX12_whyI a1 n w2 I_ = R)) (fun w2 I_ hw => ih w2 I_ hw.1 hw.2) v2 I (by
          unfold fX12_why_38
          exact ⟨(hok).1, ⟨fun hc1 => (by rw [jX12_whyI_38, if_pos hc1] at hit; exact ⟨rfl, by rw [← hit], by rw [← hit]⟩), fun hc1 => ⟨(((hok).2).2 hc1).1, ⟨((((hok).2).2 hc1).2).1, ⟨(((((hok).2).2 hc1).2).2).1, ⟨fun hc2 => ⟨(((((((hok).2).2 hc1).2).2).2).1 hc2).1, ⟨fun hc3 => ⟨((((((((hok).2).2 hc1).2).2).2).1 hc2).2).1 hc3, by rw [jX12_whyI_38, if_neg hc1, if_pos hc2, if_pos hc3] at hit; exact hit⟩, fun hc3 => ⟨((((((((hok).2).2 hc1).2).2).2).1 hc2).2).2 hc3, by rw [jX12_whyI_38, if_neg hc1, if_pos hc2, if_neg hc3] at hit; exact hit⟩⟩⟩, fun hc2 => ⟨(((((((hok).2).2 hc1).2).2).2).2 hc2).1, ⟨fun hc4 => ⟨(((((((((hok).2).2 hc1).2).2).2).2 hc2).2).1 hc4).1, ⟨fun hc5 => ⟨(((((((((((hok).2).2 hc1).2).2).2).2 hc2).2).1 hc4).2).1 hc5).1, ⟨fun hc6 => ⟨((((((((((((hok).2).2 hc1).2).2).2).2 hc2).2).1 hc4).2).1 hc5).2).1 hc6, by rw [jX12_whyI_38, if_neg hc1, if_neg hc2, if_pos hc4, if_pos hc5, if_pos hc6] at hit; exact hit⟩, fun hc6 => ⟨((((((((((((hok).2).2 hc1).2).2).2).2 hc2).2).1 hc4).2).1 hc5).2).2 hc6, by rw [jX12_whyI_38, if_neg hc1, if_neg hc2, if_pos hc4, if_pos hc5, if_neg hc6] at hit; exact hit⟩⟩⟩, fun hc5 => ⟨(((((((((((hok).2).2 hc1).2).2).2).2 hc2).2).1 hc4).2).2 hc5).1, ⟨fun hc7 => ⟨((((((((((((hok).2).2 hc1).2).2).2).2 hc2).2).1 hc4).2).2 hc5).2).1 hc7, by rw [jX12_whyI_38, if_neg hc1, if_neg hc2, if_pos hc4, if_neg hc5, if_pos hc7] at hit; exact hit⟩, fun hc7 => ⟨((((((((((((hok).2).2 hc1).2).2).2).2 hc2).2).1 hc4).2).2 hc5).2).2 hc7, by rw [jX12_whyI_38, if_neg hc1, if_neg hc2, if_pos hc4, if_neg hc5, if_neg hc7] at hit; exact hit⟩⟩⟩⟩⟩, fun hc4 => ⟨(((((((((hok).2).2 hc1).2).2).2).2 hc2).2).2 hc4).1, ⟨fun hc8 => ⟨((((((((((hok).2).2 hc1).2).2).2).2 hc2).2).2 hc4).2).1 hc8, (by rw [jX12_whyI_38, if_neg hc1, if_neg hc2, if_neg hc4] at hit; exact ⟨rfl, by rw [← hit], by rw [← hit]⟩)⟩, fun hc8 => ⟨((((((((((hok).2).2 hc1).2).2).2).2 hc2).2).2 hc4).2).2 hc8, (by rw [jX12_whyI_38, if_neg hc1, if_neg hc2, if_neg hc4] at hit; exact ⟨rfl, by rw [← hit], by rw [← hit]⟩)⟩⟩⟩⟩⟩⟩⟩⟩⟩⟩⟩)
set_option maxRecDepth 10000 in
set_option maxHeartbeats 1000000 in
theorem qX12_why (d : Nat) {T : Topo} {I : IM} (hT : Lay T) (a1 : Int32)  (hp : (jX12_whyK I a1)) : CtI (d + 4) mX12_why [.ref 79, .int a1] T I (fun x_ J_ => x_ = (jX12_why I a1).1 ∧ J_ = (jX12_why I a1).2) := by
  unfold jX12_whyK at hp
  exact Ct.ofJ (by decide +kernel) rfl (by intro v hv; revert v hv; simp [Value.category]) rfl (sX12_why_0 d hT a1   (K38 := fun w2 I_ => (jX12_whyO a1 FU w2 I_ ∧ jX12_whyI a1 FU w2 I_ = (jX12_why I a1))) (fun w2 I_ hw => uX12_why d hT a1   FU w2 I_ hw.1 hw.2) I (by
    unfold fX12_why_0
    exact ⟨fun hc1 => ⟨((hp).1 hc1).1, ⟨fun hc2 => ⟨((((hp).1 hc1).2).1 hc2).1, ⟨((((hp).1 hc1).2).1 hc2).2, by unfold jX12_why; rw [if_pos hc1, if_pos hc2]⟩⟩, fun hc2 => ⟨rfl, by unfold jX12_why; rw [if_pos hc1, if_neg hc2], by unfold jX12_why; rw [if_pos hc1, if_neg hc2]⟩⟩⟩, fun hc1 => ⟨rfl, by unfold jX12_why; rw [if_neg hc1], by unfold jX12_why; rw [if_neg hc1]⟩⟩))

def fX12_took_0 (T : Topo) (a1 : Int32) (Q : Int32 → Topo → IM → Prop) (K24 : Int32 → Int32 → IM → Prop) (I : IM) : Prop :=
  (((a1 = (-1)) → K24 0 0 I) ∧ ((¬ a1 = (-1)) → ((((wi a1 0 (I 79 1 - 1)) → K24 0 0 I) ∧ ((¬ (wi a1 0 (I 79 1 - 1))) → (Q (jX12_finds (-1000001)) T (jX12_findsM I)))))))
def fX12_took_24 (T : Topo) (a1 : Int32) (Q : Int32 → Topo → IM → Prop) (K24 : Int32 → Int32 → IM → Prop) (v2 v3 : Int32) (I : IM) : Prop :=
  ((((I 79 2) ≤ v3) → Q v2 T I) ∧ ((¬ (I 79 2) ≤ v3) → (vp_in v3 8 ∧ ((((I 106 v3.toNatClampNeg) = 0) → K24 (v2 ||| 0) (v3 + 1) I) ∧ ((¬ (I 106 v3.toNatClampNeg) = 0) → (((jX12_takesK I v3 a1)) ∧ (((¬ (jX12_takes I v3 a1) = 0) → K24 (v2 ||| 0) (v3 + 1) I) ∧ (((jX12_takes I v3 a1) = 0) → K24 (v2 ||| ((1 : Int32) <<< (v3 &&& 31))) (v3 + 1) I))))))))
set_option maxHeartbeats 4000000 in
set_option maxRecDepth 100000 in
theorem sX12_took_0 (d : Nat) {T : Topo} (hT : Lay T) (a1 : Int32)    {Q : Int32 → Topo → IM → Prop} {K24 : Int32 → Int32 → IM → Prop} (hK24 : ∀ (v2 v3 : Int32) (I : IM), K24 v2 v3 I → J (d + 3) mX12_took (PI Q) 0 0 24 [some (.ref 79), some (.int a1), some (.int v2), some (.int v3)] [] T I 0 0) (I : IM) (h : fX12_took_0 T a1 Q K24 I) : J (d + 3) mX12_took (PI Q) 0 0 0 [some (.ref 79), some (.int a1), none, none] [] T I 0 0 := by
  unfold fX12_took_0 at h
  refine J.iload_n dX12_took_0 rfl rfl ?_
  refine J.iconst (v := (-1)) dX12_took_1 (by decide) ?_
  refine J.icmp_eq (tgt := 20) dX12_took_2 (by decide) (fun hc1 => ?_) (fun hc1 => ?_)
  · have h := h.1 hc1
    refine J.iconst (v := 0) dX12_took_20 (by decide) ?_
    refine J.istore_n (ls' := [some (.ref 79), some (.int a1), some (.int 0), none]) dX12_took_21 rfl rfl rfl ?_
    refine J.iconst (v := 0) dX12_took_22 (by decide) ?_
    refine J.istore_n (ls' := [some (.ref 79), some (.int a1), some (.int 0), some (.int 0)]) dX12_took_23 rfl rfl rfl ?_
    exact J.weaken (ls' := [some (.ref 79), some (.int a1), some (.int 0), some (.int 0)]) (And.intro rfl (And.intro rfl (And.intro rfl (And.intro rfl trivial)))) (hK24 0 0 I h)
  · have h := h.2 hc1
    refine J.aload_n dX12_took_5 rfl rfl ?_
    refine J.iload_n dX12_took_6 rfl rfl ?_
    refine J.callVP (k := 79) (as := [.int a1]) (rest := []) dX12_took_7 kX12_isLine vX12_isLine lX12_209 (hT.k 79 rfl) rfl rfl rfl rfl rfl (by omega) (Nat.le_refl _) (Nat.le_refl _) (qX12_isLine (d + 1) hT a1 ) ?_
    refine J.bz_ne (tgt := 20) dX12_took_10 (by decide) (fun hc2 => ?_) (fun hc2 => ?_)
    · have h := h.1 hc2
      refine J.iconst (v := 0) dX12_took_20 (by decide) ?_
      refine J.istore_n (ls' := [some (.ref 79), some (.int a1), some (.int 0), none]) dX12_took_21 rfl rfl rfl ?_
      refine J.iconst (v := 0) dX12_took_22 (by decide) ?_
      refine J.istore_n (ls' := [some (.ref 79), some (.int a1), some (.int 0), some (.int 0)]) dX12_took_23 rfl rfl rfl ?_
      exact J.weaken (ls' := [some (.ref 79), some (.int a1), some (.int 0), some (.int 0)]) (And.intro rfl (And.intro rfl (And.intro rfl (And.intro rfl trivial)))) (hK24 0 0 I h)
    · have h := h.2 hc2
      refine J.aload_n dX12_took_13 rfl rfl ?_
      refine J.ldc (v := (-1000001)) dX12_took_14 kcX12_199 ?_
      refine J.callVE (k := 79) (as := [.int (-1000001)]) (rest := []) dX12_took_16 kX12_finds vX12_finds lX12_200 (hT.k 79 rfl) rfl rfl rfl rfl rfl (by omega) (Nat.le_refl _) (Nat.le_refl _) (qX12_finds (d + 2) hT (-1000001) ) ?_
      exact J.iretQ dX12_took_19 rfl (Nat.le_refl _) (Nat.le_refl _) h
set_option maxHeartbeats 4000000 in
set_option maxRecDepth 100000 in
theorem sX12_took_24 (d : Nat) {T : Topo} (hT : Lay T) (a1 : Int32)    {Q : Int32 → Topo → IM → Prop} {K24 : Int32 → Int32 → IM → Prop} (hK24 : ∀ (v2 v3 : Int32) (I : IM), K24 v2 v3 I → J (d + 3) mX12_took (PI Q) 0 0 24 [some (.ref 79), some (.int a1), some (.int v2), some (.int v3)] [] T I 0 0) (v2 v3 : Int32) (I : IM) (h : fX12_took_24 T a1 Q K24 v2 v3 I) : J (d + 3) mX12_took (PI Q) 0 0 24 [some (.ref 79), some (.int a1), some (.int v2), some (.int v3)] [] T I 0 0 := by
  unfold fX12_took_24 at h
  refine J.iload_n dX12_took_24 rfl rfl ?_
  refine J.aload_n dX12_took_25 rfl rfl ?_
  refine J.getI dX12_took_26 fX12_196 (hT.k 79 rfl) rfl ?_
  refine J.icmp_ge (tgt := 66) dX12_took_29 (by decide) (fun hc1 => ?_) (fun hc1 => ?_)
  · have h := h.1 hc1
    refine J.iload_n dX12_took_66 rfl rfl ?_
    exact J.iretQ dX12_took_67 rfl (Nat.le_refl _) (Nat.le_refl _) h
  · have h := h.2 hc1
    refine J.iload_n dX12_took_32 rfl rfl ?_
    refine J.aload_n dX12_took_33 rfl rfl ?_
    refine J.getR (r := 106) dX12_took_34 fX12_93 (hT.k 79 rfl) rfl (hT.r 79 35 rfl rfl) ?_
    refine J.iload_n dX12_took_37 rfl rfl ?_
    obtain ⟨hs2, h⟩ := h
    refine J.bald dX12_took_38 (hT.k 106 rfl) (hT.l 106 rfl) hs2 ?_
    refine J.if_eq (tgt := 57) dX12_took_39 (by decide) (fun hc3 => ?_) (fun hc3 => ?_)
    · have h := h.1 hc3
      refine J.iconst (v := 0) dX12_took_57 (by decide) ?_
      refine J.ior dX12_took_58 ?_
      refine J.istore_n (ls' := [some (.ref 79), some (.int a1), some (.int (v2 ||| 0)), some (.int v3)]) dX12_took_59 rfl rfl rfl ?_
      refine J.iinc (v := (v3 + 1)) (ls' := [some (.ref 79), some (.int a1), some (.int (v2 ||| 0)), some (.int (v3 + 1))]) dX12_took_60 rfl (by rfl) rfl ?_
      refine J.goto (tgt := 24) dX12_took_63 (by decide) ?_
      exact J.weaken (ls' := [some (.ref 79), some (.int a1), some (.int (v2 ||| 0)), some (.int (v3 + 1))]) (And.intro rfl (And.intro rfl (And.intro rfl (And.intro rfl trivial)))) (hK24 (v2 ||| 0) (v3 + 1) I h)
    · have h := h.2 hc3
      refine J.aload_n dX12_took_42 rfl rfl ?_
      refine J.iload_n dX12_took_43 rfl rfl ?_
      refine J.iload_n dX12_took_44 rfl rfl ?_
      obtain ⟨hp4, h⟩ := h
      refine J.callVP (k := 79) (as := [.int v3, .int a1]) (rest := [.int v2]) dX12_took_45 kX12_takes vX12_takes lX12_298 (hT.k 79 rfl) rfl rfl rfl rfl rfl (by omega) (Nat.le_refl _) (Nat.le_refl _) (qX12_takes (d + 0) hT v3 a1 hp4) ?_
      refine J.if_ne (tgt := 57) dX12_took_48 (by decide) (fun hc5 => ?_) (fun hc5 => ?_)
      · have h := h.1 hc5
        refine J.iconst (v := 0) dX12_took_57 (by decide) ?_
        refine J.ior dX12_took_58 ?_
        refine J.istore_n (ls' := [some (.ref 79), some (.int a1), some (.int (v2 ||| 0)), some (.int v3)]) dX12_took_59 rfl rfl rfl ?_
        refine J.iinc (v := (v3 + 1)) (ls' := [some (.ref 79), some (.int a1), some (.int (v2 ||| 0)), some (.int (v3 + 1))]) dX12_took_60 rfl (by rfl) rfl ?_
        refine J.goto (tgt := 24) dX12_took_63 (by decide) ?_
        exact J.weaken (ls' := [some (.ref 79), some (.int a1), some (.int (v2 ||| 0)), some (.int (v3 + 1))]) (And.intro rfl (And.intro rfl (And.intro rfl (And.intro rfl trivial)))) (hK24 (v2 ||| 0) (v3 + 1) I h)
      · have h := h.2 hc5
        refine J.iconst (v := 1) dX12_took_51 (by decide) ?_
        refine J.iload_n dX12_took_52 rfl rfl ?_
        refine J.ishl dX12_took_53 ?_
        refine J.goto (tgt := 58) dX12_took_54 (by decide) ?_
        refine J.ior dX12_took_58 ?_
        refine J.istore_n (ls' := [some (.ref 79), some (.int a1), some (.int (v2 ||| ((1 : Int32) <<< (v3 &&& 31)))), some (.int v3)]) dX12_took_59 rfl rfl rfl ?_
        refine J.iinc (v := (v3 + 1)) (ls' := [some (.ref 79), some (.int a1), some (.int (v2 ||| ((1 : Int32) <<< (v3 &&& 31)))), some (.int (v3 + 1))]) dX12_took_60 rfl (by rfl) rfl ?_
        refine J.atpc (pc' := 63) rfl ?_
        refine J.goto (tgt := 24) dX12_took_63 (by decide) ?_
        exact J.weaken (ls' := [some (.ref 79), some (.int a1), some (.int (v2 ||| ((1 : Int32) <<< (v3 &&& 31)))), some (.int (v3 + 1))]) (And.intro rfl (And.intro rfl (And.intro rfl (And.intro rfl trivial)))) (hK24 (v2 ||| ((1 : Int32) <<< (v3 &&& 31))) (v3 + 1) I h)
set_option maxHeartbeats 4000000 in
set_option maxRecDepth 100000 in
theorem wX12_took (d : Nat) {T : Topo} (hT : Lay T) (a1 : Int32)   {Q : Int32 → Topo → IM → Prop} (V24 : Int32 → Int32 → IM → Prop) (μ24 : Int32 → Int32 → IM → Nat) (vc24 : ∀ (v2 v3 : Int32) (I : IM), V24 v2 v3 I → fX12_took_24 T a1 Q (fun w2 w3 I_ => V24 w2 w3 I_ ∧ μ24 w2 w3 I_ < μ24 v2 v3 I) v2 v3 I) {I : IM} (h : fX12_took_0 T a1 Q V24 I) : Ct (d + 3) mX12_took [.ref 79, .int a1] T I 0 0 (PI Q) := by
  have all : ∀ n : Nat, (∀ (v2 v3 : Int32) (I : IM), V24 v2 v3 I → μ24 v2 v3 I < n → J (d + 3) mX12_took (PI Q) 0 0 24 [some (.ref 79), some (.int a1), some (.int v2), some (.int v3)] [] T I 0 0) := by
    intro n
    induction n with
    | zero => exact fun _ _ _ _ hn => absurd hn (Nat.not_lt_zero _)
    | succ n ih =>
      exact fun v2 v3 I hv hn => sX12_took_24 d hT a1   (fun w2 w3 I_ hw => ih w2 w3 I_ hw.1 (by have := hw.2; omega)) v2 v3 I (vc24 v2 v3 I hv)
  exact Ct.ofJ (by decide +kernel) rfl (by intro v hv; revert v hv; simp [Value.category]) rfl (sX12_took_0 d hT a1   (fun w2 w3 I_ hw => (all (μ24 w2 w3 I_ + 1)) w2 w3 I_ hw (Nat.lt_succ_self _)) I h)

def jX12_tookI (a1 : Int32) : Nat → Int32 → Int32 → IM → Int32 × IM
  | 0 => fun _ _ I => (0, I)
  | n + 1 => fun v2 v3 I => (if (I 79 2) ≤ v3 then (v2, I) else (if (I 106 v3.toNatClampNeg) = 0 then (jX12_tookI a1 n (v2 ||| 0) (v3 + 1) I) else (if (jX12_takes I v3 a1) = 0 then (jX12_tookI a1 n (v2 ||| ((1 : Int32) <<< (v3 &&& 31))) (v3 + 1) I) else (jX12_tookI a1 n (v2 ||| 0) (v3 + 1) I))))
def jX12_tookO (a1 : Int32) : Nat → Int32 → Int32 → IM → Prop
  | 0 => fun _ _ _ => False
  | n + 1 => fun v2 v3 I => ((((I 79 2) ≤ v3) → True) ∧ ((¬ (I 79 2) ≤ v3) → (vp_in v3 8 ∧ ((((I 106 v3.toNatClampNeg) = 0) → (jX12_tookO a1 n (v2 ||| 0) (v3 + 1) I)) ∧ ((¬ (I 106 v3.toNatClampNeg) = 0) → (((jX12_takesK I v3 a1)) ∧ (((¬ (jX12_takes I v3 a1) = 0) → (jX12_tookO a1 n (v2 ||| 0) (v3 + 1) I)) ∧ (((jX12_takes I v3 a1) = 0) → (jX12_tookO a1 n (v2 ||| ((1 : Int32) <<< (v3 &&& 31))) (v3 + 1) I)))))))))
theorem jX12_tookI_24 (a1 : Int32) (n : Nat) (v2 v3 : Int32) (I : IM) : jX12_tookI a1 (n + 1) v2 v3 I = (if (I 79 2) ≤ v3 then (v2, I) else (if (I 106 v3.toNatClampNeg) = 0 then (jX12_tookI a1 n (v2 ||| 0) (v3 + 1) I) else (if (jX12_takes I v3 a1) = 0 then (jX12_tookI a1 n (v2 ||| ((1 : Int32) <<< (v3 &&& 31))) (v3 + 1) I) else (jX12_tookI a1 n (v2 ||| 0) (v3 + 1) I)))) := rfl
theorem jX12_tookO_24 (a1 : Int32) (n : Nat) (v2 v3 : Int32) (I : IM) : jX12_tookO a1 (n + 1) v2 v3 I = ((((I 79 2) ≤ v3) → True) ∧ ((¬ (I 79 2) ≤ v3) → (vp_in v3 8 ∧ ((((I 106 v3.toNatClampNeg) = 0) → (jX12_tookO a1 n (v2 ||| 0) (v3 + 1) I)) ∧ ((¬ (I 106 v3.toNatClampNeg) = 0) → (((jX12_takesK I v3 a1)) ∧ (((¬ (jX12_takes I v3 a1) = 0) → (jX12_tookO a1 n (v2 ||| 0) (v3 + 1) I)) ∧ (((jX12_takes I v3 a1) = 0) → (jX12_tookO a1 n (v2 ||| ((1 : Int32) <<< (v3 &&& 31))) (v3 + 1) I))))))))) := rfl
def jX12_took (I : IM) (a1 : Int32) : Int32 × IM := (if a1 = (-1) then (jX12_tookI a1 FU 0 0 I) else (if wi a1 0 (I 79 1 - 1) then (jX12_tookI a1 FU 0 0 I) else ((jX12_finds (-1000001)), (jX12_findsM I))))
def jX12_tookK (I : IM) (a1 : Int32) : Prop := (((a1 = (-1)) → (jX12_tookO a1 FU 0 0 I)) ∧ ((¬ a1 = (-1)) → (((wi a1 0 (I 79 1 - 1)) → (jX12_tookO a1 FU 0 0 I)) ∧ ((¬ (wi a1 0 (I 79 1 - 1))) → True))))
set_option maxRecDepth 10000 in
set_option maxHeartbeats 1000000 in
theorem uX12_took (d : Nat) {T : Topo} (hT : Lay T) (a1 : Int32)   {R : Int32 × IM} : ∀ n : Nat, (∀ (v2 v3 : Int32) (I : IM), jX12_tookO a1 n v2 v3 I → jX12_tookI a1 n v2 v3 I = R → J (d + 3) mX12_took (PI (fun x T' I' => T' = T ∧ x = R.1 ∧ I' = R.2)) 0 0 24 [some (.ref 79), some (.int a1), some (.int v2), some (.int v3)] [] T I 0 0) := by
  intro n
  induction n with
  | zero => exact fun _ _ _ hz => hz.elim
  | succ n ih =>
    exact fun v2 v3 I hok hit => by
        rw [jX12_tookO_24] at hok
        exact sX12_took_24 d hT a1   (K24 := fun w2 w3 I_ => (jX12_tookO a1 n w2 w3 I_ ∧ jX12_tookI a1 n w2 w3 I_ = R)) (fun w2 w3 I_ hw => ih w2 w3 I_ hw.1 hw.2) v2 v3 I (by
          unfold fX12_took_24
          exact ⟨fun hc1 => (by rw [jX12_tookI_24, if_pos hc1] at hit; exact ⟨rfl, by rw [← hit], by rw [← hit]⟩), fun hc1 => ⟨((hok).2 hc1).1, ⟨fun hc2 => ⟨(((hok).2 hc1).2).1 hc2, by rw [jX12_tookI_24, if_neg hc1, if_pos hc2] at hit; exact hit⟩, fun hc2 => ⟨((((hok).2 hc1).2).2 hc2).1, ⟨fun hc3 => ⟨(((((hok).2 hc1).2).2 hc2).2).1 hc3, by rw [jX12_tookI_24, if_neg hc1, if_neg hc2, if_neg hc3] at hit; exact hit⟩, fun hc3 => ⟨(((((hok).2 hc1).2).2 hc2).2).2 hc3, by rw [jX12_tookI_24, if_neg hc1, if_neg hc2, if_pos hc3] at hit; exact hit⟩⟩⟩⟩⟩⟩)
set_option maxRecDepth 10000 in
set_option maxHeartbeats 1000000 in
theorem qX12_took (d : Nat) {T : Topo} {I : IM} (hT : Lay T) (a1 : Int32)  (hp : (jX12_tookK I a1)) : CtI (d + 3) mX12_took [.ref 79, .int a1] T I (fun x_ J_ => x_ = (jX12_took I a1).1 ∧ J_ = (jX12_took I a1).2) := by
  unfold jX12_tookK at hp
  exact Ct.ofJ (by decide +kernel) rfl (by intro v hv; revert v hv; simp [Value.category]) rfl (sX12_took_0 d hT a1   (K24 := fun w2 w3 I_ => (jX12_tookO a1 FU w2 w3 I_ ∧ jX12_tookI a1 FU w2 w3 I_ = (jX12_took I a1))) (fun w2 w3 I_ hw => uX12_took d hT a1   FU w2 w3 I_ hw.1 hw.2) I (by
    unfold fX12_took_0
    exact ⟨fun hc1 => ⟨(hp).1 hc1, by unfold jX12_took; rw [if_pos hc1]⟩, fun hc1 => ⟨fun hc2 => ⟨((hp).2 hc1).1 hc2, by unfold jX12_took; rw [if_neg hc1, if_pos hc2]⟩, fun hc2 => ⟨rfl, by unfold jX12_took; rw [if_neg hc1, if_neg hc2], by unfold jX12_took; rw [if_neg hc1, if_neg hc2]⟩⟩⟩))

end
