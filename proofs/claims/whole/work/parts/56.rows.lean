noncomputable section
/-! the methods that make rows -/
theorem isPl_pl : ∀ i, i < 8 → isPl (18 + 4 * i) = true := by decide +kernel
theorem Lay.newT {T : Topo} (h : Lay T) (κ N : Nat) : Lay (newT T κ N) := by
  have hn := h.1
  refine ⟨by rw [newT_N]; omega, fun k hk => ?_, fun k hk => ?_, fun k j hk hp => ?_⟩
  · rw [newT_K, if_neg (by omega)]; exact h.2.1 k hk
  · rw [newT_L, if_neg (by omega)]; exact h.2.2.1 k hk
  · rw [newT_R, if_neg (by omega)]; exact h.2.2.2 k j hk hp
theorem Lay.setP {T : Topo} (h : Lay T) {i : Nat} (hi : i < 8) (j r : Nat) : Lay (setR T (18 + 4 * i) j r) := by
  refine ⟨h.1, h.2.1, h.2.2.1, fun k b hk hp => ?_⟩
  rw [setR_R, if_neg]
  · exact h.2.2.2 k b hk hp
  · rintro ⟨rfl, -⟩
    rw [isPl_pl i hi] at hp
    cases hp
/-- the topology behind two new rows of Places i -/
def fT (T : Topo) (i N : Nat) : Topo := setR (newT (setR (newT T 13 N) (18 + 4 * i) 0 (tN T)) 13 N) (18 + 4 * i) 1 (tN T + 1)
theorem fT_lay {T : Topo} (h : Lay T) {i : Nat} (hi : i < 8) (N : Nat) : Lay (fT T i N) := (((h.newT 13 N).setP hi 0 (tN T)).newT 13 N).setP hi 1 (tN T + 1)
theorem fT_N (T : Topo) (i N : Nat) : tN (fT T i N) = tN T + 2 := rfl
theorem fT_K (T : Topo) (i N k : Nat) : tK (fT T i N) k = if k = tN T ∨ k = tN T + 1 then 13 else tK T k := by
  show (if k = tN T + 1 then 13 else (if k = tN T then 13 else tK T k)) = _
  by_cases h1 : k = tN T + 1
  · simp [h1]
  · by_cases h2 : k = tN T
    · simp [h2]
    · simp [h1, h2]
theorem fT_R {T : Topo} (hn : 136 ≤ tN T) {i : Nat} (hi : i < 8) (N k j : Nat) (hk : k < tN T) : tR (fT T i N) k j = if k = 18 + 4 * i ∧ j = 1 then some (tN T + 1) else if k = 18 + 4 * i ∧ j = 0 then some (tN T) else tR T k j := by
  unfold fT
  rw [setR_R, newT_R, setR_R, newT_R]
  have h1 : ¬ k = tN (setR (newT T 13 N) (18 + 4 * i) 0 (tN T)) := by rw [setR_N, newT_N]; omega
  have h2 : ¬ k = tN T := by omega
  rw [if_neg h1, if_neg h2]
theorem fT_pl {T : Topo} (h : Lay T) (hP : Pl T) {i : Nat} (hi : i < 8) (N : Nat) : Pl (fT T i N) := by
  have hn := h.1
  intro i' hi'
  obtain ⟨⟨a, h1, h2⟩, ⟨b, h3, h4⟩⟩ := hP i' hi'
  have hk : 18 + 4 * i' < tN T := by omega
  by_cases e : i' = i
  · subst e
    refine ⟨⟨tN T, ?_, ?_⟩, ⟨tN T + 1, ?_, ?_⟩⟩
    · rw [fT_R hn hi N _ _ hk]; simp
    · rw [fT_K]; simp
    · rw [fT_R hn hi N _ _ hk]; simp
    · rw [fT_K]; simp
  · have hne : ¬ 18 + 4 * i' = 18 + 4 * i := by omega
    refine ⟨⟨a, ?_, ?_⟩, ⟨b, ?_, ?_⟩⟩
    · rw [fT_R hn hi N _ _ hk, if_neg (fun z => hne z.1), if_neg (fun z => hne z.1)]; exact h1
    · rw [fT_K]; split
      · rfl
      · exact h2
    · rw [fT_R hn hi N _ _ hk, if_neg (fun z => hne z.1), if_neg (fun z => hne z.1)]; exact h3
    · rw [fT_K]; split
      · rfl
      · exact h4
/-- memory behind the first gathering -/
def fA (T : Topo) (I : IM) (i i2 : Nat) : IM := jX6_gather T (jFindM (up2 I (18 + 4 * i) 2 (I 1 4)) (I (17 + 4 * i2) 1) (I (17 + 4 * i2) 2)) i i2
def fN (T : Topo) (I : IM) (i i2 : Nat) : Nat := (fA T I i i2 (18 + 4 * i) 3).toNatClampNeg
def fB (T : Topo) (I : IM) (i i2 : Nat) : IM := newI (newI (fA T I i i2) (tN T)) (tN T + 1)
def jFindP (T : Topo) (I : IM) (i i2 : Nat) : Topo × IM :=
  if I 1 4 = I (18 + 4 * i) 2 then (T, I) else if fA T I i i2 (18 + 4 * i) 3 ≤ Int32.ofNat (tL T (plA T i)) then (T, fA T I i i2) else (fT T i (fN T I i i2), jX6_gather (fT T i (fN T I i i2)) (fB T I i i2) i i2)
def jFindPK (T : Topo) (I : IM) (i i2 C S : Nat) : Prop :=
  ¬ I 1 4 = I (18 + 4 * i) 2 → (jFindK (up2 I (18 + 4 * i) 2 (I 1 4)) (I (17 + 4 * i2) 1) (I (17 + 4 * i2) 2) ∧ jX6_gatherK T (jFindM (up2 I (18 + 4 * i) 2 (I 1 4)) (I (17 + 4 * i2) 1) (I (17 + 4 * i2) 2)) i i2 ∧
    (¬ fA T I i i2 (18 + 4 * i) 3 ≤ Int32.ofNat (tL T (plA T i)) → (¬ fA T I i i2 (18 + 4 * i) 3 < 0 ∧ fN T I i i2 * 4 ≤ 536870912 ∧ 2 ≤ C ∧ fN T I i i2 + fN T I i i2 ≤ S ∧ jX6_gatherK (fT T i (fN T I i i2)) (fB T I i i2) i i2)))
theorem jFindP_lay {T : Topo} (h : Lay T) {I : IM} {i i2 : Nat} (hi : i < 8) : Lay (jFindP T I i i2).1 := by
  unfold jFindP
  split
  · exact h
  · split
    · exact h
    · exact fT_lay h hi _
theorem jFindP_pl {T : Topo} (h : Lay T) (hP : Pl T) {I : IM} {i i2 : Nat} (hi : i < 8) : Pl (jFindP T I i i2).1 := by
  unfold jFindP
  split
  · exact hP
  · split
    · exact hP
    · exact fT_pl h hP hi _
theorem newI_o (I : IM) {n k : Nat} (j : Nat) (h : k ≠ n) : newI I n k j = I k j := by rw [newI_at, if_neg h]
set_option maxHeartbeats 4000000 in
set_option maxRecDepth 100000 in
theorem qX6_find (d : Nat) {T : Topo} {I : IM} (hT : Lay T) (hPl : Pl T) (i : Nat) (hi : i < 8) (i2 : Nat) (hi2 : i2 < 8) (C S : Nat) (hp : jFindPK T I i i2 C S) : Ct (d + 10) mX6_find [.ref (18 + 4 * i), .ref 1, .ref (17 + 4 * i2)] T I C S (PV fun T' I' => T' = (jFindP T I i i2).1 ∧ I' = (jFindP T I i i2).2) := by
  refine Ct.ofJ (ls := [some (.ref (18 + 4 * i)), some (.ref 1), some (.ref (17 + 4 * i2)), none]) (by decide +kernel) rfl (by intro v hv; revert v hv; simp [Value.category]) rfl ?_
  refine J.aload_n dX6_find_0 rfl rfl ?_
  refine J.getI dX6_find_1 fX6_22 (hT.k 1 rfl) rfl ?_
  refine J.aload_n dX6_find_4 rfl rfl ?_
  refine J.getI dX6_find_5 fX6_18 (hT.placesK hi) rfl ?_
  refine J.icmp_ne (tgt := 12) dX6_find_8 (by decide) (fun hc => ?_) (fun hc => ?_)
  · obtain ⟨hp1, hp2, hp3⟩ := hp hc
    refine J.aload_n dX6_find_12 rfl rfl ?_
    refine J.aload_n dX6_find_13 rfl rfl ?_
    refine J.getI dX6_find_14 fX6_22 (hT.k 1 rfl) rfl ?_
    refine J.putI dX6_find_17 fX6_18 (hT.placesK hi) rfl ?_
    refine J.aload_n dX6_find_20 rfl rfl ?_
    refine J.aload_n dX6_find_21 rfl rfl ?_
    refine J.getI dX6_find_22 fX6_27 (hT.sliceK hi2) rfl ?_
    refine J.topEq (y := I (17 + 4 * i2) 1) (up2_o _ _ _ _ (by omega)) ?_
    refine J.aload_n dX6_find_25 rfl rfl ?_
    refine J.getI dX6_find_26 fX6_32 (hT.sliceK hi2) rfl ?_
    refine J.topEq (y := I (17 + 4 * i2) 2) (up2_o _ _ _ _ (by omega)) ?_
    refine J.callVG (r := 4) (k := 1) (as := [.int (I (17 + 4 * i2) 1), .int (I (17 + 4 * i2) 2)]) (rest := []) dX6_find_29 kX5_waysBetween vX5_waysBetween lX6_35 (hT.k 1 rfl) rfl rfl rfl rfl rfl (by omega) (Nat.zero_le _) (Nat.zero_le _) (qX5_waysBetween d hT _ _ hp1) ?_
    refine J.astore_n (ls' := [some (.ref (18 + 4 * i)), some (.ref 1), some (.ref (17 + 4 * i2)), some (.ref 4)]) dX6_find_32 rfl rfl rfl ?_
    refine J.aload_n dX6_find_33 rfl rfl ?_
    refine J.aload_n dX6_find_34 rfl rfl ?_
    refine J.aload_n dX6_find_35 rfl rfl ?_
    refine J.aload_n dX6_find_36 rfl rfl ?_
    refine J.callVD (k := 18 + 4 * i) (as := [.ref 1, .ref (17 + 4 * i2), .ref 4]) (rest := []) dX6_find_37 kX6_gather vX6_gather lX6_39 (hT.placesK hi) rfl rfl rfl rfl rfl (by omega) (Nat.zero_le _) (Nat.zero_le _) (qX6_gather (d + 6) hT i hi i2 hi2 hPl hp2) ?_
    refine (show J (d + 10) mX6_find _ C S 40 [some (.ref (18 + 4 * i)), some (.ref 1), some (.ref (17 + 4 * i2)), some (.ref 4)] [] T (fA T I i i2) 0 0 from ?_)
    refine J.aload_n dX6_find_40 rfl rfl ?_
    refine J.getI dX6_find_41 fX6_43 (hT.placesK hi) rfl ?_
    refine J.aload_n dX6_find_44 rfl rfl ?_
    refine J.getR dX6_find_45 fX6_9 (hT.placesK hi) rfl (hPl.aR hi) ?_
    refine J.alen dX6_find_48 (by rw [hPl.aK hi]; decide) ?_
    refine J.icmp_le (tgt := 79) dX6_find_49 (by decide) (fun hc2 => ?_) (fun hc2 => ?_)
    · exact J.vretQ dX6_find_79 rfl (Nat.zero_le _) (Nat.zero_le _) (by unfold jFindP; rw [if_neg hc, if_pos hc2]; exact ⟨rfl, rfl⟩)
    · obtain ⟨g1, g2, g3, g4, g5⟩ := hp3 hc2
      have hn := hT.1
      refine J.aload_n dX6_find_52 rfl rfl ?_
      refine J.aload_n dX6_find_53 rfl rfl ?_
      refine J.getI dX6_find_54 fX6_43 (hT.placesK hi) rfl ?_
      refine J.newarr (κ := 13) (N := fN T I i i2) dX6_find_57 arc_int rfl (Or.inl rfl) g1 rfl g2 (by omega) (by omega) ?_
      have hT1 := hT.newT 13 (fN T I i i2)
      refine J.putR (r := tN T) dX6_find_59 fX6_9 (hT1.placesK hi) rfl (Or.inr ⟨_, rfl⟩) (fun h => by cases h) (fun h => by cases h) ?_
      have hT2 := hT1.setP hi 0 (tN T)
      refine J.aload_n dX6_find_62 rfl rfl ?_
      refine J.aload_n dX6_find_63 rfl rfl ?_
      refine J.getI dX6_find_64 fX6_43 (hT2.placesK hi) rfl ?_
      refine J.topEq (y := fA T I i i2 (18 + 4 * i) 3) (newI_o _ _ (by omega)) ?_
      refine J.newarr (κ := 13) (N := fN T I i i2) dX6_find_67 arc_int rfl (Or.inl rfl) g1 rfl g2 (by omega) (by omega) ?_
      have hT3 := hT2.newT 13 (fN T I i i2)
      refine J.putR (r := tN T + 1) dX6_find_69 fX6_15 (hT3.placesK hi) rfl (Or.inr ⟨_, rfl⟩) (fun h => by cases h) (fun h => by cases h) ?_
      refine (show J (d + 10) mX6_find _ C S 72 [some (.ref (18 + 4 * i)), some (.ref 1), some (.ref (17 + 4 * i2)), some (.ref 4)] [] (fT T i (fN T I i i2)) (fB T I i i2) (0 + 1 + 1) (0 + fN T I i i2 + fN T I i i2) from ?_)
      have hT4 := fT_lay hT hi (fN T I i i2)
      have hP4 := fT_pl hT hPl hi (fN T I i i2)
      refine J.aload_n dX6_find_72 rfl rfl ?_
      refine J.aload_n dX6_find_73 rfl rfl ?_
      refine J.aload_n dX6_find_74 rfl rfl ?_
      refine J.aload_n dX6_find_75 rfl rfl ?_
      refine J.callVD (k := 18 + 4 * i) (as := [.ref 1, .ref (17 + 4 * i2), .ref 4]) (rest := []) dX6_find_76 kX6_gather vX6_gather lX6_39 (hT4.placesK hi) rfl rfl rfl rfl rfl (by omega) (by omega) (by omega) (qX6_gather (d + 6) hT4 i hi i2 hi2 hP4 g5) ?_
      exact J.vretQ dX6_find_79 rfl (by omega) (by omega) (by unfold jFindP; rw [if_neg hc, if_neg hc2]; exact ⟨rfl, rfl⟩)
  · exact J.vretQ dX6_find_11 rfl (Nat.zero_le _) (Nat.zero_le _) (by unfold jFindP; rw [if_pos hc]; exact ⟨rfl, rfl⟩)
set_option maxHeartbeats 4000000 in
set_option maxRecDepth 100000 in
theorem qX9_placesOf (d : Nat) {T : Topo} {I : IM} (hT : Lay T) (hPl : Pl T) (a2 : Int32) (h8 : vp_in a2 8) (C S : Nat) (hp : jFindPK T I a2.toNatClampNeg a2.toNatClampNeg C S) : Ct (d + 11) mX9_placesOf [.ref 15, .ref 1, .int a2] T I C S (PR fun k T' I' => k = 18 + 4 * a2.toNatClampNeg ∧ T' = (jFindP T I a2.toNatClampNeg a2.toNatClampNeg).1 ∧ I' = (jFindP T I a2.toNatClampNeg a2.toNatClampNeg).2) := by
  have hi := vp_lt h8
  refine Ct.ofJ (ls := [some (.ref 15), some (.ref 1), some (.int a2), none]) (by decide +kernel) rfl (by intro v hv; revert v hv; simp [Value.category]) rfl ?_
  refine J.aload_n dX9_placesOf_0 rfl rfl ?_
  refine J.getR (r := 16) dX9_placesOf_1 fX9_11 (hT.k 15 rfl) rfl (hT.r 15 0 rfl rfl) ?_
  refine J.iload_n dX9_placesOf_4 rfl rfl ?_
  refine J.aald (r := 17 + 4 * a2.toNatClampNeg) dX9_placesOf_5 (hT.k 16 rfl) rfl rfl (hT.l 16 rfl) h8 (hT.sliceR hi) ?_
  refine J.astore_n (ls' := [some (.ref 15), some (.ref 1), some (.int a2), some (.ref (17 + 4 * a2.toNatClampNeg))]) dX9_placesOf_6 rfl rfl rfl ?_
  refine J.aload_n dX9_placesOf_7 rfl rfl ?_
  refine J.getR (r := 18 + 4 * a2.toNatClampNeg) dX9_placesOf_8 fX9_41 (hT.sliceK hi) rfl (hT.sliceP hi) ?_
  refine J.aload_n dX9_placesOf_11 rfl rfl ?_
  refine J.aload_n dX9_placesOf_12 rfl rfl ?_
  refine J.callVgV (mc := C) (ms := S) (k := 18 + 4 * a2.toNatClampNeg) (as := [.ref 1, .ref (17 + 4 * a2.toNatClampNeg)]) (rest := []) dX9_placesOf_13 kX6_find vX6_find lX9_45 (hT.placesK hi) rfl rfl rfl rfl rfl (by omega) (by omega) (by omega) (qX6_find d hT hPl _ hi _ hi C S hp) (fun T' I' hq => ?_)
  obtain ⟨e1, e2⟩ := hq
  have hT' : Lay T' := by rw [e1]; exact jFindP_lay hT hi
  refine J.aload_n dX9_placesOf_16 rfl rfl ?_
  refine J.getR (r := 18 + 4 * a2.toNatClampNeg) dX9_placesOf_17 fX9_41 (hT'.sliceK hi) rfl (hT'.sliceP hi) ?_
  exact J.aretQ dX9_placesOf_20 rfl (Or.inl ⟨_, rfl⟩) (by omega) (by omega) ⟨rfl, e1, e2⟩
/-! Layer.begin -/
def jBegI : Nat → Int32 → Topo → IM → Topo × IM
  | 0 => fun _ T I => (T, I)
  | n + 1 => fun v T I => if I 15 1 ≤ v then (T, jX3_findUnlikeTicks I) else jBegI n (v + 1) (jFindP T I v.toNatClampNeg v.toNatClampNeg).1 (jX6_keepUp (jFindP T I v.toNatClampNeg v.toNatClampNeg).1 (jFindP T I v.toNatClampNeg v.toNatClampNeg).2 v.toNatClampNeg)
def jBegO (C S : Nat) : Nat → Int32 → Topo → IM → Nat → Nat → Prop
  | 0 => fun _ _ _ _ _ => False
  | n + 1 => fun v T I c sl => (I 15 1 ≤ v → jX3_findUnlikeTicksK I) ∧ (¬ I 15 1 ≤ v → vp_in v 8 ∧ ∃ mc ms, jFindPK T I v.toNatClampNeg v.toNatClampNeg mc ms ∧ c + mc ≤ C ∧ sl + ms ≤ S ∧ jX6_keepUpK (jFindP T I v.toNatClampNeg v.toNatClampNeg).1 (jFindP T I v.toNatClampNeg v.toNatClampNeg).2 v.toNatClampNeg ∧ jBegO C S n (v + 1) (jFindP T I v.toNatClampNeg v.toNatClampNeg).1 (jX6_keepUp (jFindP T I v.toNatClampNeg v.toNatClampNeg).1 (jFindP T I v.toNatClampNeg v.toNatClampNeg).2 v.toNatClampNeg) (c + mc) (sl + ms))
def jBeg (T : Topo) (I : IM) : Topo × IM := jBegI FU 0 T (up2 (up2 I 56 11 0) 56 12 0)
def jBegK (T : Topo) (I : IM) (C S : Nat) : Prop := jBegO C S FU 0 T (up2 (up2 I 56 11 0) 56 12 0) 0 0
theorem jBegI_lay : ∀ (n : Nat) (v : Int32) (T : Topo) (I : IM) (C S c sl : Nat), Lay T → Pl T → jBegO C S n v T I c sl → Lay (jBegI n v T I).1 ∧ Pl (jBegI n v T I).1
  | 0, v, T, I, C, S, c, sl, hT, hPl, h => h.elim
  | n + 1, v, T, I, C, S, c, sl, hT, hPl, h => by
    show Lay (if I 15 1 ≤ v then (T, jX3_findUnlikeTicks I) else jBegI n (v + 1) (jFindP T I v.toNatClampNeg v.toNatClampNeg).1 (jX6_keepUp (jFindP T I v.toNatClampNeg v.toNatClampNeg).1 (jFindP T I v.toNatClampNeg v.toNatClampNeg).2 v.toNatClampNeg)).1 ∧ Pl (if I 15 1 ≤ v then (T, jX3_findUnlikeTicks I) else jBegI n (v + 1) (jFindP T I v.toNatClampNeg v.toNatClampNeg).1 (jX6_keepUp (jFindP T I v.toNatClampNeg v.toNatClampNeg).1 (jFindP T I v.toNatClampNeg v.toNatClampNeg).2 v.toNatClampNeg)).1
    by_cases hc : I 15 1 ≤ v
    · rw [if_pos hc]; exact ⟨hT, hPl⟩
    · rw [if_neg hc]
      obtain ⟨h8, mc, ms, -, -, -, -, h⟩ := h.2 hc
      exact jBegI_lay n _ _ _ C S _ _ (jFindP_lay hT (vp_lt h8)) (jFindP_pl hT hPl (vp_lt h8)) h
set_option maxHeartbeats 4000000 in
set_option maxRecDepth 100000 in
theorem uX3_begin (d C S : Nat) {R : Topo × IM} : ∀ (n : Nat) (v : Int32) (T : Topo) (I : IM) (c sl : Nat), Lay T → Pl T → c ≤ C → sl ≤ S → jBegO C S n v T I c sl → jBegI n v T I = R → J (d + 12) mX3_begin (PV fun T' I' => T' = R.1 ∧ I' = R.2) C S 12 [some (.ref 56), some (.int v)] [] T I c sl := by
  intro n
  induction n with
  | zero => intro v T I c sl _ _ _ _ h; exact h.elim
  | succ n ih =>
    intro v T I c sl hT hPl hcC hsS hok hit
    have hit' : (if I 15 1 ≤ v then (T, jX3_findUnlikeTicks I) else jBegI n (v + 1) (jFindP T I v.toNatClampNeg v.toNatClampNeg).1 (jX6_keepUp (jFindP T I v.toNatClampNeg v.toNatClampNeg).1 (jFindP T I v.toNatClampNeg v.toNatClampNeg).2 v.toNatClampNeg)) = R := hit
    refine J.iload_n dX3_begin_12 rfl rfl ?_
    refine J.aload_n dX3_begin_13 rfl rfl ?_
    refine J.getR (r := 15) dX3_begin_14 fX3_44 (hT.k 56 rfl) rfl (hT.r 56 1 rfl rfl) ?_
    refine J.getI dX3_begin_17 fX3_56 (hT.k 15 rfl) rfl ?_
    refine J.icmp_ge (tgt := 48) dX3_begin_20 (by decide) (fun hc => ?_) (fun hc => ?_)
    · rw [if_pos hc] at hit'
      refine J.aload_n dX3_begin_48 rfl rfl ?_
      refine J.callVD (k := 56) (as := []) (rest := []) dX3_begin_49 kX3_findUnlikeTicks vX3_findUnlikeTicks lX3_71 (hT.k 56 rfl) rfl rfl rfl rfl rfl (by omega) hcC hsS (qX3_findUnlikeTicks (d + 9) hT (hok.1 hc)) ?_
      exact J.vretQ dX3_begin_52 rfl hcC hsS (by rw [← hit']; exact ⟨rfl, rfl⟩)
    · rw [if_neg hc] at hit'
      obtain ⟨h8, mc, ms, hf, h1, h2, hk, hrest⟩ := hok.2 hc
      have hi := vp_lt h8
      refine J.aload_n dX3_begin_23 rfl rfl ?_
      refine J.getR (r := 15) dX3_begin_24 fX3_44 (hT.k 56 rfl) rfl (hT.r 56 1 rfl rfl) ?_
      refine J.aload_n dX3_begin_27 rfl rfl ?_
      refine J.getR (r := 1) dX3_begin_28 fX3_40 (hT.k 56 rfl) rfl (hT.r 56 0 rfl rfl) ?_
      refine J.iload_n dX3_begin_31 rfl rfl ?_
      refine J.callVgR (mc := mc) (ms := ms) (k := 15) (as := [.ref 1, .int v]) (rest := []) dX3_begin_32 kX9_placesOf vX9_placesOf lX3_61 (hT.k 15 rfl) rfl rfl rfl rfl rfl (by omega) h1 h2 (qX9_placesOf d hT hPl v h8 mc ms hf) (fun k T' I' hq => ?_)
      obtain ⟨e0, e1, e2⟩ := hq
      subst e0
      have hT' : Lay T' := by rw [e1]; exact jFindP_lay hT hi
      have hPl' : Pl T' := by rw [e1]; exact jFindP_pl hT hPl hi
      rw [← e1, ← e2] at hk hrest hit'
      refine J.aload_n dX3_begin_35 rfl rfl ?_
      refine J.getR (r := 1) dX3_begin_36 fX3_40 (hT'.k 56 rfl) rfl (hT'.r 56 0 rfl rfl) ?_
      refine J.callVD (k := 18 + 4 * v.toNatClampNeg) (as := [.ref 1]) (rest := []) dX3_begin_39 kX6_keepUp vX6_keepUp lX3_65 (hT'.placesK hi) rfl rfl rfl rfl rfl (by omega) h1 h2 (qX6_keepUp (d + 9) hT' _ hi hPl' hk) ?_
      refine J.iinc (v := v + 1) (ls' := [some (.ref 56), some (.int (v + 1))]) dX3_begin_42 rfl (by rfl) rfl ?_
      refine J.goto (tgt := 12) dX3_begin_45 (by decide) ?_
      exact ih (v + 1) T' _ _ _ hT' hPl' h1 h2 hrest hit'
set_option maxHeartbeats 4000000 in
set_option maxRecDepth 100000 in
theorem qX3_begin (d : Nat) {T : Topo} {I : IM} (hT : Lay T) (hPl : Pl T) (C S : Nat) (hp : jBegK T I C S) : Ct (d + 12) mX3_begin [.ref 56] T I C S (PV fun T' I' => T' = (jBeg T I).1 ∧ I' = (jBeg T I).2) := by
  refine Ct.ofJ (ls := [some (.ref 56), none]) (by decide +kernel) rfl (by intro v hv; revert v hv; simp [Value.category]) rfl ?_
  refine J.aload_n dX3_begin_0 rfl rfl ?_
  refine J.iconst (v := 0) dX3_begin_1 (by decide) ?_
  refine J.putI dX3_begin_2 fX3_48 (hT.k 56 rfl) rfl ?_
  refine J.aload_n dX3_begin_5 rfl rfl ?_
  refine J.iconst (v := 0) dX3_begin_6 (by decide) ?_
  refine J.putZ dX3_begin_7 fX3_52 (hT.k 56 rfl) rfl (Or.inl rfl) ?_
  refine J.iconst (v := 0) dX3_begin_10 (by decide) ?_
  refine J.istore_n (ls' := [some (.ref 56), some (.int 0)]) dX3_begin_11 rfl rfl rfl ?_
  exact uX3_begin d C S FU 0 T _ 0 0 hT hPl (Nat.zero_le _) (Nat.zero_le _) hp rfl
end
