noncomputable section
def fX11_letIn_54 (T : Topo) (i : Nat) (Q : Int32 → Topo → IM → Prop) (K57 : Int32 → IM → Prop) (I : IM) : Prop :=
  K57 0 I
def fX11_letIn_57 (T : Topo) (i : Nat) (Q : Int32 → Topo → IM → Prop) (K57 : Int32 → IM → Prop) (v4 : Int32) (I : IM) : Prop :=
  ((((I (18 + 4 * i) 3) ≤ v4) → (Q (-1000005) T (fnd I))) ∧ ((¬ (I (18 + 4 * i) 3) ≤ v4) → (((jX6_placeAtK T i v4)) ∧ (((((¬ (((jLinesOf (jX6_placeAt T I i v4)) &&& I 1 5) = 0)) → K57 (v4 + 1) I) ∧ ((((jLinesOf (jX6_placeAt T I i v4)) &&& I 1 5) = 0) → (((jX0_linesHoldK I 49 i (jX6_placeAt T I i v4) (I (17 + 4 * i) 11))) ∧ ((((jX0_linesHold I 49 i (jX6_placeAt T I i v4) (I (17 + 4 * i) 11)) = 0) → K57 (v4 + 1) I) ∧ ((¬ (jX0_linesHold I 49 i (jX6_placeAt T I i v4) (I (17 + 4 * i) 11)) = 0) → (((jX0_hostHoldsK I 49 i (jX6_placeAt T I i v4) (I (17 + 4 * i) 11))) ∧ ((((jX0_hostHolds I 49 i (jX6_placeAt T I i v4) (I (17 + 4 * i) 11)) = 0) → K57 (v4 + 1) I) ∧ ((¬ (jX0_hostHolds I 49 i (jX6_placeAt T I i v4) (I (17 + 4 * i) 11)) = 0) → (((jX11_comeInK I i (jX6_placeAt T I i v4))) ∧ Q v4 T (jX11_comeInM I i (jX6_placeAt T I i v4))))))))))))))))
set_option maxHeartbeats 4000000 in
set_option maxRecDepth 100000 in
theorem sX11_letIn_54 (d : Nat) {T : Topo} (hT : Lay T) (i : Nat) (hi : i < 8) (hPl : Pl T)  {C S c sl : Nat} (hc : c ≤ C) (hs : sl ≤ S) {Q : Int32 → Topo → IM → Prop} {K57 : Int32 → IM → Prop} (hK57 : ∀ (v4 : Int32) (I : IM), K57 v4 I → J (d + 13) mX11_letIn (PI Q) C S 57 [some (.ref 0), none, some (.ref (17 + 4 * i)), some (.ref (18 + 4 * i)), some (.int v4), none] [] T I c sl) (I : IM) (h : fX11_letIn_54 T i Q K57 I) : J (d + 13) mX11_letIn (PI Q) C S 54 [some (.ref 0), none, some (.ref (17 + 4 * i)), some (.ref (18 + 4 * i)), none, none] [] T I c sl := by
  unfold fX11_letIn_54 at h
  refine J.iconst (v := 0) dX11_letIn_54 (by decide) ?_
  refine J.istore (ls' := [some (.ref 0), none, some (.ref (17 + 4 * i)), some (.ref (18 + 4 * i)), some (.int 0), none]) dX11_letIn_55 rfl rfl ?_
  exact J.weaken (ls' := [some (.ref 0), none, some (.ref (17 + 4 * i)), some (.ref (18 + 4 * i)), some (.int 0), none]) (And.intro rfl (And.intro rfl (And.intro rfl (And.intro rfl trivial)))) (hK57 0 I h)
set_option maxHeartbeats 4000000 in
set_option maxRecDepth 100000 in
theorem sX11_letIn_57 (d : Nat) {T : Topo} (hT : Lay T) (i : Nat) (hi : i < 8) (hPl : Pl T)  {C S c sl : Nat} (hc : c ≤ C) (hs : sl ≤ S) {Q : Int32 → Topo → IM → Prop} {K57 : Int32 → IM → Prop} (hK57 : ∀ (v4 : Int32) (I : IM), K57 v4 I → J (d + 13) mX11_letIn (PI Q) C S 57 [some (.ref 0), none, some (.ref (17 + 4 * i)), some (.ref (18 + 4 * i)), some (.int v4), none] [] T I c sl) (v4 : Int32) (I : IM) (h : fX11_letIn_57 T i Q K57 v4 I) : J (d + 13) mX11_letIn (PI Q) C S 57 [some (.ref 0), none, some (.ref (17 + 4 * i)), some (.ref (18 + 4 * i)), some (.int v4), none] [] T I c sl := by
  unfold fX11_letIn_57 at h
  refine J.iload dX11_letIn_57 rfl ?_
  refine J.aload_n dX11_letIn_59 rfl rfl ?_
  refine J.getI dX11_letIn_60 fX11_174 (hT.placesK hi) rfl ?_
  refine J.icmp_ge (tgt := 147) dX11_letIn_63 (by decide) (fun hc1 => ?_) (fun hc1 => ?_)
  · have h := h.1 hc1
    refine J.aload_n dX11_letIn_147 rfl rfl ?_
    refine J.ldc (v := (-1000005)) dX11_letIn_148 kcX11_105 ?_
    refine J.callVE (k := 0) (as := [.int (-1000005)]) (rest := []) dX11_letIn_150 kX11_finding vX11_finding lX11_65 (hT.k 0 rfl) rfl rfl rfl rfl rfl (by omega) hc hs (qX11_finding (d + 12) hT (-1000005) ) ?_
    exact J.iretQ dX11_letIn_153 rfl hc hs h
  · have h := h.2 hc1
    refine J.aload_n dX11_letIn_66 rfl rfl ?_
    refine J.iload dX11_letIn_67 rfl ?_
    obtain ⟨hp2, h⟩ := h
    refine J.callVP (k := (18 + 4 * i)) (as := [.int v4]) (rest := []) dX11_letIn_69 kX6_placeAt vX6_placeAt lX11_177 (hT.placesK hi) rfl rfl rfl rfl rfl (by omega) hc hs (qX6_placeAt (d + 12) hT i hi v4 hPl hp2) ?_
    refine J.istore (ls' := [some (.ref 0), none, some (.ref (17 + 4 * i)), some (.ref (18 + 4 * i)), some (.int v4), some (.int (jX6_placeAt T I i v4))]) dX11_letIn_72 rfl rfl ?_
    refine J.aload_n dX11_letIn_74 rfl rfl ?_
    refine J.getR (r := 1) dX11_letIn_75 fX11_15 (hT.k 0 rfl) rfl (hT.r 0 0 rfl rfl) ?_
    refine J.iload dX11_letIn_78 rfl ?_
    refine J.callSP (as := [.int (jX6_placeAt T I i v4)]) (rest := [.ref 1]) dX11_letIn_80 kX11_linesOf vX11_linesOf lX11_180 rfl rfl rfl (by omega) hc hs (qX11_linesOf (d + 11) hT (jX6_placeAt T I i v4) ) ?_
    refine J.callVP (k := 1) (as := [.int (jLinesOf (jX6_placeAt T I i v4))]) (rest := []) dX11_letIn_83 kX5_isUp vX5_isUp lX11_183 (hT.k 1 rfl) rfl rfl rfl rfl rfl (by omega) hc hs (qX5_isUp (d + 12) hT (jLinesOf (jX6_placeAt T I i v4)) ) ?_
    refine J.bz_eq (tgt := 141) dX11_letIn_86 (by decide) (fun hc3 => ?_) (fun hc3 => ?_)
    · have h := h.1 hc3
      refine J.iinc (v := (v4 + 1)) (ls' := [some (.ref 0), none, some (.ref (17 + 4 * i)), some (.ref (18 + 4 * i)), some (.int (v4 + 1)), some (.int (jX6_placeAt T I i v4))]) dX11_letIn_141 rfl (by rfl) rfl ?_
      refine J.goto (tgt := 57) dX11_letIn_144 (by decide) ?_
      exact J.weaken (ls' := [some (.ref 0), none, some (.ref (17 + 4 * i)), some (.ref (18 + 4 * i)), some (.int (v4 + 1)), none]) (And.intro rfl (And.intro rfl (And.intro rfl (And.intro rfl trivial)))) (hK57 (v4 + 1) I h)
    · have h := h.2 hc3
      refine J.aload_n dX11_letIn_89 rfl rfl ?_
      refine J.getR (r := 49) dX11_letIn_90 fX11_26 (hT.k 0 rfl) rfl (hT.r 0 2 rfl rfl) ?_
      refine J.aload_n dX11_letIn_93 rfl rfl ?_
      refine J.getR (r := 1) dX11_letIn_94 fX11_15 (hT.k 0 rfl) rfl (hT.r 0 0 rfl rfl) ?_
      refine J.aload_n dX11_letIn_97 rfl rfl ?_
      refine J.iload dX11_letIn_98 rfl ?_
      refine J.aload_n dX11_letIn_100 rfl rfl ?_
      refine J.atpc (pc' := 101) rfl ?_
      refine J.getI dX11_letIn_101 fX11_186 (hT.sliceK hi) rfl ?_
      obtain ⟨hp4, h⟩ := h
      refine J.callVP (k := 49) (as := [.ref 1, .ref (17 + 4 * i), .int (jX6_placeAt T I i v4), .int (I (17 + 4 * i) 11)]) (rest := []) dX11_letIn_104 kX0_linesHold vX0_linesHold lX11_189 (hT.k 49 rfl) rfl rfl rfl rfl rfl (by omega) hc hs (qX0_linesHold (d + 9) hT 49 (Or.inl rfl) i hi (jX6_placeAt T I i v4) (I (17 + 4 * i) 11) hp4) ?_
      refine J.if_eq (tgt := 141) dX11_letIn_107 (by decide) (fun hc5 => ?_) (fun hc5 => ?_)
      · have h := h.1 hc5
        refine J.iinc (v := (v4 + 1)) (ls' := [some (.ref 0), none, some (.ref (17 + 4 * i)), some (.ref (18 + 4 * i)), some (.int (v4 + 1)), some (.int (jX6_placeAt T I i v4))]) dX11_letIn_141 rfl (by rfl) rfl ?_
        refine J.goto (tgt := 57) dX11_letIn_144 (by decide) ?_
        exact J.weaken (ls' := [some (.ref 0), none, some (.ref (17 + 4 * i)), some (.ref (18 + 4 * i)), some (.int (v4 + 1)), none]) (And.intro rfl (And.intro rfl (And.intro rfl (And.intro rfl trivial)))) (hK57 (v4 + 1) I h)
      · have h := h.2 hc5
        refine J.aload_n dX11_letIn_110 rfl rfl ?_
        refine J.getR (r := 49) dX11_letIn_111 fX11_26 (hT.k 0 rfl) rfl (hT.r 0 2 rfl rfl) ?_
        refine J.aload_n dX11_letIn_114 rfl rfl ?_
        refine J.getR (r := 1) dX11_letIn_115 fX11_15 (hT.k 0 rfl) rfl (hT.r 0 0 rfl rfl) ?_
        refine J.aload_n dX11_letIn_118 rfl rfl ?_
        refine J.iload dX11_letIn_119 rfl ?_
        refine J.aload_n dX11_letIn_121 rfl rfl ?_
        refine J.atpc (pc' := 122) rfl ?_
        refine J.getI dX11_letIn_122 fX11_186 (hT.sliceK hi) rfl ?_
        obtain ⟨hp6, h⟩ := h
        refine J.callVP (k := 49) (as := [.ref 1, .ref (17 + 4 * i), .int (jX6_placeAt T I i v4), .int (I (17 + 4 * i) 11)]) (rest := []) dX11_letIn_125 kX0_hostHolds vX0_hostHolds lX11_193 (hT.k 49 rfl) rfl rfl rfl rfl rfl (by omega) hc hs (qX0_hostHolds (d + 11) hT 49 (Or.inl rfl) i hi (jX6_placeAt T I i v4) (I (17 + 4 * i) 11) hp6) ?_
        refine J.if_eq (tgt := 141) dX11_letIn_128 (by decide) (fun hc7 => ?_) (fun hc7 => ?_)
        · have h := h.1 hc7
          refine J.iinc (v := (v4 + 1)) (ls' := [some (.ref 0), none, some (.ref (17 + 4 * i)), some (.ref (18 + 4 * i)), some (.int (v4 + 1)), some (.int (jX6_placeAt T I i v4))]) dX11_letIn_141 rfl (by rfl) rfl ?_
          refine J.goto (tgt := 57) dX11_letIn_144 (by decide) ?_
          exact J.weaken (ls' := [some (.ref 0), none, some (.ref (17 + 4 * i)), some (.ref (18 + 4 * i)), some (.int (v4 + 1)), none]) (And.intro rfl (And.intro rfl (And.intro rfl (And.intro rfl trivial)))) (hK57 (v4 + 1) I h)
        · have h := h.2 hc7
          refine J.aload_n dX11_letIn_131 rfl rfl ?_
          refine J.aload_n dX11_letIn_132 rfl rfl ?_
          refine J.iload dX11_letIn_133 rfl ?_
          obtain ⟨hp8, h⟩ := h
          refine J.callVD (k := 0) (as := [.ref (17 + 4 * i), .int (jX6_placeAt T I i v4)]) (rest := []) dX11_letIn_135 kX11_comeIn vX11_comeIn lX11_196 (hT.k 0 rfl) rfl rfl rfl rfl rfl (by omega) hc hs (qX11_comeIn (d + 8) hT i hi (jX6_placeAt T I i v4) hp8) ?_
          refine J.iload dX11_letIn_138 rfl ?_
          exact J.iretQ dX11_letIn_140 rfl hc hs h

def jLetInRI (T : Topo) (i : Nat) : Nat → Int32 → IM → Int32 × IM
  | 0 => fun _ I => (0, I)
  | n + 1 => fun v4 I => (if (I (18 + 4 * i) 3) ≤ v4 then ((-1000005), (fnd I)) else (if ((jLinesOf (jX6_placeAt T I i v4)) &&& I 1 5) = 0 then (if (jX0_linesHold I 49 i (jX6_placeAt T I i v4) (I (17 + 4 * i) 11)) = 0 then (jLetInRI T i n (v4 + 1) I) else (if (jX0_hostHolds I 49 i (jX6_placeAt T I i v4) (I (17 + 4 * i) 11)) = 0 then (jLetInRI T i n (v4 + 1) I) else (v4, (jX11_comeInM I i (jX6_placeAt T I i v4))))) else (jLetInRI T i n (v4 + 1) I)))
def jLetInRO (T : Topo) (i : Nat) : Nat → Int32 → IM → Prop
  | 0 => fun _ _ => False
  | n + 1 => fun v4 I => ((((I (18 + 4 * i) 3) ≤ v4) → True) ∧ ((¬ (I (18 + 4 * i) 3) ≤ v4) → (((jX6_placeAtK T i v4)) ∧ (((¬ (((jLinesOf (jX6_placeAt T I i v4)) &&& I 1 5) = 0)) → (jLetInRO T i n (v4 + 1) I)) ∧ ((((jLinesOf (jX6_placeAt T I i v4)) &&& I 1 5) = 0) → (((jX0_linesHoldK I 49 i (jX6_placeAt T I i v4) (I (17 + 4 * i) 11))) ∧ ((((jX0_linesHold I 49 i (jX6_placeAt T I i v4) (I (17 + 4 * i) 11)) = 0) → (jLetInRO T i n (v4 + 1) I)) ∧ ((¬ (jX0_linesHold I 49 i (jX6_placeAt T I i v4) (I (17 + 4 * i) 11)) = 0) → (((jX0_hostHoldsK I 49 i (jX6_placeAt T I i v4) (I (17 + 4 * i) 11))) ∧ ((((jX0_hostHolds I 49 i (jX6_placeAt T I i v4) (I (17 + 4 * i) 11)) = 0) → (jLetInRO T i n (v4 + 1) I)) ∧ ((¬ (jX0_hostHolds I 49 i (jX6_placeAt T I i v4) (I (17 + 4 * i) 11)) = 0) → ((jX11_comeInK I i (jX6_placeAt T I i v4))))))))))))))
theorem jLetInRI_57 (T : Topo) (i : Nat) (n : Nat) (v4 : Int32) (I : IM) : jLetInRI T i (n + 1) v4 I = (if (I (18 + 4 * i) 3) ≤ v4 then ((-1000005), (fnd I)) else (if ((jLinesOf (jX6_placeAt T I i v4)) &&& I 1 5) = 0 then (if (jX0_linesHold I 49 i (jX6_placeAt T I i v4) (I (17 + 4 * i) 11)) = 0 then (jLetInRI T i n (v4 + 1) I) else (if (jX0_hostHolds I 49 i (jX6_placeAt T I i v4) (I (17 + 4 * i) 11)) = 0 then (jLetInRI T i n (v4 + 1) I) else (v4, (jX11_comeInM I i (jX6_placeAt T I i v4))))) else (jLetInRI T i n (v4 + 1) I))) := rfl
theorem jLetInRO_57 (T : Topo) (i : Nat) (n : Nat) (v4 : Int32) (I : IM) : jLetInRO T i (n + 1) v4 I = ((((I (18 + 4 * i) 3) ≤ v4) → True) ∧ ((¬ (I (18 + 4 * i) 3) ≤ v4) → (((jX6_placeAtK T i v4)) ∧ (((¬ (((jLinesOf (jX6_placeAt T I i v4)) &&& I 1 5) = 0)) → (jLetInRO T i n (v4 + 1) I)) ∧ ((((jLinesOf (jX6_placeAt T I i v4)) &&& I 1 5) = 0) → (((jX0_linesHoldK I 49 i (jX6_placeAt T I i v4) (I (17 + 4 * i) 11))) ∧ ((((jX0_linesHold I 49 i (jX6_placeAt T I i v4) (I (17 + 4 * i) 11)) = 0) → (jLetInRO T i n (v4 + 1) I)) ∧ ((¬ (jX0_linesHold I 49 i (jX6_placeAt T I i v4) (I (17 + 4 * i) 11)) = 0) → (((jX0_hostHoldsK I 49 i (jX6_placeAt T I i v4) (I (17 + 4 * i) 11))) ∧ ((((jX0_hostHolds I 49 i (jX6_placeAt T I i v4) (I (17 + 4 * i) 11)) = 0) → (jLetInRO T i n (v4 + 1) I)) ∧ ((¬ (jX0_hostHolds I 49 i (jX6_placeAt T I i v4) (I (17 + 4 * i) 11)) = 0) → ((jX11_comeInK I i (jX6_placeAt T I i v4)))))))))))))) := rfl
def jLetInR (T : Topo) (I : IM) (i : Nat) : Int32 × IM := (jLetInRI T i FU 0 I)
def jLetInRK (T : Topo) (I : IM) (i : Nat) : Prop := (jLetInRO T i FU 0 I)
set_option maxRecDepth 10000 in
set_option maxHeartbeats 1000000 in
theorem uX11_letIn (d : Nat) {T : Topo} (hT : Lay T) (i : Nat) (hi : i < 8) (hPl : Pl T) {C S c sl : Nat} (hc : c ≤ C) (hs : sl ≤ S) {R : Int32 × IM} : ∀ n : Nat, (∀ (v4 : Int32) (I : IM), jLetInRO T i n v4 I → jLetInRI T i n v4 I = R → J (d + 13) mX11_letIn (PI (fun x T' I' => T' = T ∧ x = R.1 ∧ I' = R.2)) C S 57 [some (.ref 0), none, some (.ref (17 + 4 * i)), some (.ref (18 + 4 * i)), some (.int v4), none] [] T I c sl) := by
  intro n
  induction n with
  | zero => exact fun _ _ hz => hz.elim
  | succ n ih =>
    exact fun v4 I hok hit => by
        rw [jLetInRO_57] at hok
        exact sX11_letIn_57 d hT i hi hPl hc hs (K57 := fun w4 I_ => (jLetInRO T i n w4 I_ ∧ jLetInRI T i n w4 I_ = R)) (fun w4 I_ hw => ih w4 I_ hw.1 hw.2) v4 I (by
          unfold fX11_letIn_57
          exact ⟨fun hc1 => (by rw [jLetInRI_57, if_pos hc1] at hit; exact ⟨rfl, by rw [← hit], by rw [← hit]⟩), fun hc1 => ⟨((hok).2 hc1).1, ⟨fun hc2 => ⟨(((hok).2 hc1).2).1 hc2, by rw [jLetInRI_57, if_neg hc1, if_neg hc2] at hit; exact hit⟩, fun hc2 => ⟨((((hok).2 hc1).2).2 hc2).1, ⟨fun hc3 => ⟨(((((hok).2 hc1).2).2 hc2).2).1 hc3, by rw [jLetInRI_57, if_neg hc1, if_pos hc2, if_pos hc3] at hit; exact hit⟩, fun hc3 => ⟨((((((hok).2 hc1).2).2 hc2).2).2 hc3).1, ⟨fun hc4 => ⟨(((((((hok).2 hc1).2).2 hc2).2).2 hc3).2).1 hc4, by rw [jLetInRI_57, if_neg hc1, if_pos hc2, if_neg hc3, if_pos hc4] at hit; exact hit⟩, fun hc4 => ⟨(((((((hok).2 hc1).2).2 hc2).2).2 hc3).2).2 hc4, (by rw [jLetInRI_57, if_neg hc1, if_pos hc2, if_neg hc3, if_neg hc4] at hit; exact ⟨rfl, by rw [← hit], by rw [← hit]⟩)⟩⟩⟩⟩⟩⟩⟩⟩)
set_option maxRecDepth 10000 in
set_option maxHeartbeats 1000000 in
theorem tX11_letIn (d : Nat) {T : Topo} {I : IM} (hT : Lay T) (i : Nat) (hi : i < 8) (hPl : Pl T) {C S c sl : Nat} (hc : c ≤ C) (hs : sl ≤ S) (hp : (jLetInRK T I i)) : J (d + 13) mX11_letIn (PI (fun x T' I' => T' = T ∧ x = (jLetInR T I i).1 ∧ I' = (jLetInR T I i).2)) C S 54 [some (.ref 0), none, some (.ref (17 + 4 * i)), some (.ref (18 + 4 * i)), none, none] [] T I c sl := by
  unfold jLetInRK at hp
  exact sX11_letIn_54 d hT i hi hPl hc hs (K57 := fun w4 I_ => (jLetInRO T i FU w4 I_ ∧ jLetInRI T i FU w4 I_ = (jLetInR T I i))) (fun w4 I_ hw => uX11_letIn d hT i hi hPl hc hs FU w4 I_ hw.1 hw.2) I (by
    unfold fX11_letIn_54
    exact ⟨hp, rfl⟩)

def fX11_why_54 (T : Topo) (i : Nat) (Q : Int32 → Topo → IM → Prop)  (I : IM) : Prop :=
  (((jX6_keepUpK T I i)) ∧ (((¬ ((jX6_keepUp T I i) (18 + 4 * i) 3) = 0) → (((¬ ((jX6_keepUp T I i) (18 + 4 * i) 4) = 0) → (((jX11_whyNoRoomK T (jX6_keepUp T I i) i i)) ∧ Q (jX11_whyNoRoom T (jX6_keepUp T I i) i i) T (jX6_keepUp T I i))) ∧ ((((jX6_keepUp T I i) (18 + 4 * i) 4) = 0) → Q 2 T (jX6_keepUp T I i)))) ∧ ((((jX6_keepUp T I i) (18 + 4 * i) 3) = 0) → Q 1 T (jX6_keepUp T I i))))
set_option maxHeartbeats 4000000 in
set_option maxRecDepth 100000 in
theorem sX11_why_54 (d : Nat) {T : Topo} (hT : Lay T) (i : Nat) (hi : i < 8) (hPl : Pl T)  {C S c sl : Nat} (hc : c ≤ C) (hs : sl ≤ S) {Q : Int32 → Topo → IM → Prop}   (I : IM) (h : fX11_why_54 T i Q  I) : J (d + 13) mX11_why (PI Q) C S 54 [some (.ref 0), none, some (.ref (17 + 4 * i)), some (.ref (18 + 4 * i))] [] T I c sl := by
  unfold fX11_why_54 at h
  refine J.aload_n dX11_why_54 rfl rfl ?_
  refine J.aload_n dX11_why_55 rfl rfl ?_
  refine J.getR (r := 1) dX11_why_56 fX11_15 (hT.k 0 rfl) rfl (hT.r 0 0 rfl rfl) ?_
  obtain ⟨hp1, h⟩ := h
  refine J.callVD (k := (18 + 4 * i)) (as := [.ref 1]) (rest := []) dX11_why_59 kX6_keepUp vX6_keepUp lX11_200 (hT.placesK hi) rfl rfl rfl rfl rfl (by omega) hc hs (qX6_keepUp (d + 10) hT i hi hPl hp1) ?_
  refine J.aload_n dX11_why_62 rfl rfl ?_
  refine J.getI dX11_why_63 fX11_174 (hT.placesK hi) rfl ?_
  refine J.if_ne (tgt := 71) dX11_why_66 (by decide) (fun hc2 => ?_) (fun hc2 => ?_)
  · have h := h.1 hc2
    refine J.aload_n dX11_why_71 rfl rfl ?_
    refine J.getI dX11_why_72 fX11_204 (hT.placesK hi) rfl ?_
    refine J.if_ne (tgt := 82) dX11_why_75 (by decide) (fun hc3 => ?_) (fun hc3 => ?_)
    · have h := h.1 hc3
      refine J.aload_n dX11_why_82 rfl rfl ?_
      refine J.aload_n dX11_why_83 rfl rfl ?_
      refine J.aload_n dX11_why_84 rfl rfl ?_
      obtain ⟨hp4, h⟩ := h
      refine J.callVP (k := 0) (as := [.ref (17 + 4 * i), .ref (18 + 4 * i)]) (rest := []) dX11_why_85 kX11_whyNoRoom vX11_whyNoRoom lX11_207 (hT.k 0 rfl) rfl rfl rfl rfl rfl (by omega) hc hs (qX11_whyNoRoom (d + 8) hT i hi i hi hPl hp4) ?_
      exact J.iretQ dX11_why_88 rfl hc hs h
    · have h := h.2 hc3
      refine J.iconst (v := 2) dX11_why_78 (by decide) ?_
      refine J.goto (tgt := 88) dX11_why_79 (by decide) ?_
      exact J.iretQ dX11_why_88 rfl hc hs h
  · have h := h.2 hc2
    refine J.iconst (v := 1) dX11_why_69 (by decide) ?_
    exact J.iretQ dX11_why_70 rfl hc hs h

def jWhyR (T : Topo) (I : IM) (i : Nat) : Int32 := (if ((jX6_keepUp T I i) (18 + 4 * i) 3) = 0 then 1 else (if ((jX6_keepUp T I i) (18 + 4 * i) 4) = 0 then 2 else (jX11_whyNoRoom T (jX6_keepUp T I i) i i)))
def jWhyRM (T : Topo) (I : IM) (i : Nat) : IM := (jX6_keepUp T I i)
def jWhyRK (T : Topo) (I : IM) (i : Nat) : Prop := (((jX6_keepUpK T I i)) ∧ (((¬ ((jX6_keepUp T I i) (18 + 4 * i) 3) = 0) → (((¬ ((jX6_keepUp T I i) (18 + 4 * i) 4) = 0) → ((jX11_whyNoRoomK T (jX6_keepUp T I i) i i))) ∧ ((((jX6_keepUp T I i) (18 + 4 * i) 4) = 0) → True))) ∧ ((((jX6_keepUp T I i) (18 + 4 * i) 3) = 0) → True)))
set_option maxRecDepth 10000 in
theorem tX11_why (d : Nat) {T : Topo} {I : IM} (hT : Lay T) (i : Nat) (hi : i < 8) (hPl : Pl T) {C S c sl : Nat} (hc : c ≤ C) (hs : sl ≤ S) (hp : (jWhyRK T I i)) : J (d + 13) mX11_why (PI (fun x T' I' => T' = T ∧ x = (jWhyR T I i) ∧ I' = (jWhyRM T I i))) C S 54 [some (.ref 0), none, some (.ref (17 + 4 * i)), some (.ref (18 + 4 * i))] [] T I c sl :=
  sX11_why_54 d hT i hi hPl hc hs I (by
  unfold fX11_why_54
  exact ⟨(hp).1, ⟨fun hc1 => ⟨fun hc2 => ⟨(((hp).2).1 hc1).1 hc2, ⟨rfl, by unfold jWhyR; rw [if_neg hc1, if_neg hc2], by unfold jWhyRM; rfl⟩⟩, fun hc2 => ⟨rfl, by unfold jWhyR; rw [if_neg hc1, if_pos hc2], by unfold jWhyRM; rfl⟩⟩, fun hc1 => ⟨rfl, by unfold jWhyR; rw [if_pos hc1], by unfold jWhyRM; rfl⟩⟩⟩)

def fX11_lay_25 (T : Topo) (a1 : Int32) (Q : Int32 → Topo → IM → Prop)  (I : IM) : Prop :=
  (((jX3_laidK T I a1)) ∧ (((((jX3_laid T I a1).2 56 12) = 0) → (((((jX3_laid T I a1).1) = 0) → (Q (-1000005) T (fnd (jX3_laid T I a1).2))) ∧ ((¬ ((jX3_laid T I a1).1) = 0) → (((jX11_takeOverK (jX3_laid T I a1).2 a1)) ∧ Q ((jX11_takeOver (jX3_laid T I a1).2 a1).1) T (jX11_takeOver (jX3_laid T I a1).2 a1).2)))) ∧ ((¬ ((jX3_laid T I a1).2 56 12) = 0) → (Q (-1000006) T (fnd (jX3_laid T I a1).2)))))
set_option maxHeartbeats 4000000 in
set_option maxRecDepth 100000 in
theorem sX11_lay_25 (d : Nat) {T : Topo} (hT : Lay T) (a1 : Int32)  (hPl : Pl T)  {C S c sl : Nat} (hc : c ≤ C) (hs : sl ≤ S) {Q : Int32 → Topo → IM → Prop}   (I : IM) (h : fX11_lay_25 T a1 Q  I) : J (d + 13) mX11_lay (PI Q) C S 25 [some (.ref 0), some (.int a1), none] [] T I c sl := by
  unfold fX11_lay_25 at h
  refine J.aload_n dX11_lay_25 rfl rfl ?_
  refine J.getR (r := 56) dX11_lay_26 fX11_42 (hT.k 0 rfl) rfl (hT.r 0 4 rfl rfl) ?_
  refine J.iload_n dX11_lay_29 rfl rfl ?_
  obtain ⟨hp1, h⟩ := h
  refine J.callVE (k := 56) (as := [.int a1]) (rest := []) dX11_lay_30 kX3_laid vX3_laid lX11_267 (hT.k 56 rfl) rfl rfl rfl rfl rfl (by omega) hc hs (qX3_laid (d + 7) hT a1 hPl hp1) ?_
  refine J.istore_n (ls' := [some (.ref 0), some (.int a1), some (.int ((jX3_laid T I a1).1))]) dX11_lay_33 rfl rfl rfl ?_
  refine J.aload_n dX11_lay_34 rfl rfl ?_
  refine J.getR (r := 56) dX11_lay_35 fX11_42 (hT.k 0 rfl) rfl (hT.r 0 4 rfl rfl) ?_
  refine J.getI dX11_lay_38 fX11_270 (hT.k 56 rfl) rfl ?_
  refine J.if_eq (tgt := 52) dX11_lay_41 (by decide) (fun hc2 => ?_) (fun hc2 => ?_)
  · have h := h.1 hc2
    refine J.iload_n dX11_lay_52 rfl rfl ?_
    refine J.if_eq (tgt := 64) dX11_lay_53 (by decide) (fun hc3 => ?_) (fun hc3 => ?_)
    · have h := h.1 hc3
      refine J.aload_n dX11_lay_64 rfl rfl ?_
      refine J.ldc (v := (-1000005)) dX11_lay_65 kcX11_105 ?_
      refine J.callVE (k := 0) (as := [.int (-1000005)]) (rest := []) dX11_lay_67 kX11_finding vX11_finding lX11_65 (hT.k 0 rfl) rfl rfl rfl rfl rfl (by omega) hc hs (qX11_finding (d + 12) hT (-1000005) ) ?_
      exact J.iretQ dX11_lay_70 rfl hc hs h
    · have h := h.2 hc3
      refine J.aload_n dX11_lay_56 rfl rfl ?_
      refine J.iload_n dX11_lay_57 rfl rfl ?_
      obtain ⟨hp4, h⟩ := h
      refine J.callVE (k := 0) (as := [.int a1]) (rest := []) dX11_lay_58 kX11_takeOver vX11_takeOver lX11_275 (hT.k 0 rfl) rfl rfl rfl rfl rfl (by omega) hc hs (qX11_takeOver (d + 7) hT a1 hp4) ?_
      refine J.goto (tgt := 70) dX11_lay_61 (by decide) ?_
      exact J.iretQ dX11_lay_70 rfl hc hs h
  · have h := h.2 hc2
    refine J.aload_n dX11_lay_44 rfl rfl ?_
    refine J.ldcw (v := (-1000006)) dX11_lay_45 kcX11_274 ?_
    refine J.callVE (k := 0) (as := [.int (-1000006)]) (rest := []) dX11_lay_48 kX11_finding vX11_finding lX11_65 (hT.k 0 rfl) rfl rfl rfl rfl rfl (by omega) hc hs (qX11_finding (d + 12) hT (-1000006) ) ?_
    exact J.iretQ dX11_lay_51 rfl hc hs h

def jLayR (T : Topo) (I : IM) (a1 : Int32) : Int32 := (if ((jX3_laid T I a1).2 56 12) = 0 then (if ((jX3_laid T I a1).1) = 0 then (-1000005) else (jX11_takeOver (jX3_laid T I a1).2 a1).1) else (-1000006))
def jLayRM (T : Topo) (I : IM) (a1 : Int32) : IM := (if ((jX3_laid T I a1).2 56 12) = 0 then (if ((jX3_laid T I a1).1) = 0 then (fnd (jX3_laid T I a1).2) else (jX11_takeOver (jX3_laid T I a1).2 a1).2) else (fnd (jX3_laid T I a1).2))
def jLayRK (T : Topo) (I : IM) (a1 : Int32) : Prop := (((jX3_laidK T I a1)) ∧ (((((jX3_laid T I a1).2 56 12) = 0) → (((((jX3_laid T I a1).1) = 0) → True) ∧ ((¬ ((jX3_laid T I a1).1) = 0) → ((jX11_takeOverK (jX3_laid T I a1).2 a1))))) ∧ ((¬ ((jX3_laid T I a1).2 56 12) = 0) → True)))
set_option maxRecDepth 10000 in
theorem tX11_lay (d : Nat) {T : Topo} {I : IM} (hT : Lay T) (a1 : Int32) (hPl : Pl T) {C S c sl : Nat} (hc : c ≤ C) (hs : sl ≤ S) (hp : (jLayRK T I a1)) : J (d + 13) mX11_lay (PI (fun x T' I' => T' = T ∧ x = (jLayR T I a1) ∧ I' = (jLayRM T I a1))) C S 25 [some (.ref 0), some (.int a1), none] [] T I c sl :=
  sX11_lay_25 d hT a1  hPl hc hs I (by
  unfold fX11_lay_25
  exact ⟨(hp).1, ⟨fun hc1 => ⟨fun hc2 => ⟨rfl, by unfold jLayR; rw [if_pos hc1, if_pos hc2], by unfold jLayRM; rw [if_pos hc1, if_pos hc2]⟩, fun hc2 => ⟨(((hp).2).1 hc1).2 hc2, ⟨rfl, by unfold jLayR; rw [if_pos hc1, if_neg hc2], by unfold jLayRM; rw [if_pos hc1, if_neg hc2]⟩⟩⟩, fun hc1 => ⟨rfl, by unfold jLayR; rw [if_neg hc1], by unfold jLayRM; rw [if_neg hc1]⟩⟩⟩)

def fX11_can_25 (T : Topo) (a1 : Int32) (Q : Int32 → Topo → IM → Prop)  (I : IM) : Prop :=
  (((jX3_laidK T I a1)) ∧ (((((jX3_laid T I a1).2 56 12) = 0) → (((((jX3_laid T I a1).1) = 0) → Q 0 T (jX3_laid T I a1).2) ∧ ((¬ ((jX3_laid T I a1).1) = 0) → Q 1 T (jX3_laid T I a1).2))) ∧ ((¬ ((jX3_laid T I a1).2 56 12) = 0) → (Q (-1000006) T (fnd (jX3_laid T I a1).2)))))
set_option maxHeartbeats 4000000 in
set_option maxRecDepth 100000 in
theorem sX11_can_25 (d : Nat) {T : Topo} (hT : Lay T) (a1 : Int32)  (hPl : Pl T)  {C S c sl : Nat} (hc : c ≤ C) (hs : sl ≤ S) {Q : Int32 → Topo → IM → Prop}   (I : IM) (h : fX11_can_25 T a1 Q  I) : J (d + 13) mX11_can (PI Q) C S 25 [some (.ref 0), some (.int a1), none] [] T I c sl := by
  unfold fX11_can_25 at h
  refine J.aload_n dX11_can_25 rfl rfl ?_
  refine J.getR (r := 56) dX11_can_26 fX11_42 (hT.k 0 rfl) rfl (hT.r 0 4 rfl rfl) ?_
  refine J.iload_n dX11_can_29 rfl rfl ?_
  obtain ⟨hp1, h⟩ := h
  refine J.callVE (k := 56) (as := [.int a1]) (rest := []) dX11_can_30 kX3_laid vX3_laid lX11_267 (hT.k 56 rfl) rfl rfl rfl rfl rfl (by omega) hc hs (qX3_laid (d + 7) hT a1 hPl hp1) ?_
  refine J.istore_n (ls' := [some (.ref 0), some (.int a1), some (.int ((jX3_laid T I a1).1))]) dX11_can_33 rfl rfl rfl ?_
  refine J.aload_n dX11_can_34 rfl rfl ?_
  refine J.getR (r := 56) dX11_can_35 fX11_42 (hT.k 0 rfl) rfl (hT.r 0 4 rfl rfl) ?_
  refine J.getI dX11_can_38 fX11_270 (hT.k 56 rfl) rfl ?_
  refine J.if_eq (tgt := 52) dX11_can_41 (by decide) (fun hc2 => ?_) (fun hc2 => ?_)
  · have h := h.1 hc2
    refine J.iload_n dX11_can_52 rfl rfl ?_
    refine J.if_eq (tgt := 60) dX11_can_53 (by decide) (fun hc3 => ?_) (fun hc3 => ?_)
    · have h := h.1 hc3
      refine J.iconst (v := 0) dX11_can_60 (by decide) ?_
      exact J.iretQ dX11_can_61 rfl hc hs h
    · have h := h.2 hc3
      refine J.iconst (v := 1) dX11_can_56 (by decide) ?_
      refine J.goto (tgt := 61) dX11_can_57 (by decide) ?_
      exact J.iretQ dX11_can_61 rfl hc hs h
  · have h := h.2 hc2
    refine J.aload_n dX11_can_44 rfl rfl ?_
    refine J.ldcw (v := (-1000006)) dX11_can_45 kcX11_274 ?_
    refine J.callVE (k := 0) (as := [.int (-1000006)]) (rest := []) dX11_can_48 kX11_finding vX11_finding lX11_65 (hT.k 0 rfl) rfl rfl rfl rfl rfl (by omega) hc hs (qX11_finding (d + 12) hT (-1000006) ) ?_
    exact J.iretQ dX11_can_51 rfl hc hs h

def jCanR (T : Topo) (I : IM) (a1 : Int32) : Int32 := (if ((jX3_laid T I a1).2 56 12) = 0 then (if ((jX3_laid T I a1).1) = 0 then 0 else 1) else (-1000006))
def jCanRM (T : Topo) (I : IM) (a1 : Int32) : IM := (if ((jX3_laid T I a1).2 56 12) = 0 then (jX3_laid T I a1).2 else (fnd (jX3_laid T I a1).2))
def jCanRK (T : Topo) (I : IM) (a1 : Int32) : Prop := ((jX3_laidK T I a1))
set_option maxRecDepth 10000 in
theorem tX11_can (d : Nat) {T : Topo} {I : IM} (hT : Lay T) (a1 : Int32) (hPl : Pl T) {C S c sl : Nat} (hc : c ≤ C) (hs : sl ≤ S) (hp : (jCanRK T I a1)) : J (d + 13) mX11_can (PI (fun x T' I' => T' = T ∧ x = (jCanR T I a1) ∧ I' = (jCanRM T I a1))) C S 25 [some (.ref 0), some (.int a1), none] [] T I c sl :=
  sX11_can_25 d hT a1  hPl hc hs I (by
  unfold fX11_can_25
  exact ⟨hp, ⟨fun hc1 => ⟨fun hc2 => ⟨rfl, by unfold jCanR; rw [if_pos hc1, if_pos hc2], by unfold jCanRM; rw [if_pos hc1]⟩, fun hc2 => ⟨rfl, by unfold jCanR; rw [if_pos hc1, if_neg hc2], by unfold jCanRM; rw [if_pos hc1]⟩⟩, fun hc1 => ⟨rfl, by unfold jCanR; rw [if_neg hc1], by unfold jCanRM; rw [if_neg hc1]⟩⟩⟩)

def fX11_best_7 (T : Topo)  (Q : Int32 → Topo → IM → Prop)  (I : IM) : Prop :=
  (((jX3_dearestK T I)) ∧ (((((jX3_dearest T I).2 56 12) = 0) → Q ((jX3_dearest T I).1) T (jX3_dearest T I).2) ∧ ((¬ ((jX3_dearest T I).2 56 12) = 0) → (Q (-1000006) T (fnd (jX3_dearest T I).2)))))
set_option maxHeartbeats 4000000 in
set_option maxRecDepth 100000 in
theorem sX11_best_7 (d : Nat) {T : Topo} (hT : Lay T)   (hPl : Pl T)  {C S c sl : Nat} (hc : c ≤ C) (hs : sl ≤ S) {Q : Int32 → Topo → IM → Prop}   (I : IM) (h : fX11_best_7 T  Q  I) : J (d + 13) mX11_best (PI Q) C S 7 [some (.ref 0), none] [] T I c sl := by
  unfold fX11_best_7 at h
  refine J.aload_n dX11_best_7 rfl rfl ?_
  refine J.getR (r := 56) dX11_best_8 fX11_42 (hT.k 0 rfl) rfl (hT.r 0 4 rfl rfl) ?_
  obtain ⟨hp1, h⟩ := h
  refine J.callVE (k := 56) (as := []) (rest := []) dX11_best_11 kX3_dearest vX3_dearest lX11_278 (hT.k 56 rfl) rfl rfl rfl rfl rfl (by omega) hc hs (qX3_dearest (d + 6) hT  hPl hp1) ?_
  refine J.istore_n (ls' := [some (.ref 0), some (.int ((jX3_dearest T I).1))]) dX11_best_14 rfl rfl rfl ?_
  refine J.aload_n dX11_best_15 rfl rfl ?_
  refine J.getR (r := 56) dX11_best_16 fX11_42 (hT.k 0 rfl) rfl (hT.r 0 4 rfl rfl) ?_
  refine J.getI dX11_best_19 fX11_270 (hT.k 56 rfl) rfl ?_
  refine J.if_eq (tgt := 35) dX11_best_22 (by decide) (fun hc2 => ?_) (fun hc2 => ?_)
  · have h := h.1 hc2
    refine J.iload_n dX11_best_35 rfl rfl ?_
    exact J.iretQ dX11_best_36 rfl hc hs h
  · have h := h.2 hc2
    refine J.aload_n dX11_best_25 rfl rfl ?_
    refine J.ldcw (v := (-1000006)) dX11_best_26 kcX11_274 ?_
    refine J.callVE (k := 0) (as := [.int (-1000006)]) (rest := []) dX11_best_29 kX11_finding vX11_finding lX11_65 (hT.k 0 rfl) rfl rfl rfl rfl rfl (by omega) hc hs (qX11_finding (d + 12) hT (-1000006) ) ?_
    refine J.goto (tgt := 36) dX11_best_32 (by decide) ?_
    exact J.iretQ dX11_best_36 rfl hc hs h

def jBestR (T : Topo) (I : IM)  : Int32 := (if ((jX3_dearest T I).2 56 12) = 0 then (jX3_dearest T I).1 else (-1000006))
def jBestRM (T : Topo) (I : IM)  : IM := (if ((jX3_dearest T I).2 56 12) = 0 then (jX3_dearest T I).2 else (fnd (jX3_dearest T I).2))
def jBestRK (T : Topo) (I : IM)  : Prop := ((jX3_dearestK T I))
set_option maxRecDepth 10000 in
theorem tX11_best (d : Nat) {T : Topo} {I : IM} (hT : Lay T)  (hPl : Pl T) {C S c sl : Nat} (hc : c ≤ C) (hs : sl ≤ S) (hp : (jBestRK T I)) : J (d + 13) mX11_best (PI (fun x T' I' => T' = T ∧ x = (jBestR T I) ∧ I' = (jBestRM T I))) C S 7 [some (.ref 0), none] [] T I c sl :=
  sX11_best_7 d hT   hPl hc hs I (by
  unfold fX11_best_7
  exact ⟨hp, ⟨fun hc1 => ⟨rfl, by unfold jBestR; rw [if_pos hc1], by unfold jBestRM; rw [if_pos hc1]⟩, fun hc1 => ⟨rfl, by unfold jBestR; rw [if_neg hc1], by unfold jBestRM; rw [if_neg hc1]⟩⟩⟩)

end
