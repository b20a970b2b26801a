noncomputable section
def plA (T : Topo) (i : Nat) : Nat := (tR T (18 + 4 * i) 0).getD 0
def plB (T : Topo) (i : Nat) : Nat := (tR T (18 + 4 * i) 1).getD 0
/-- the rows of Places: numbers -/
def Pl (T : Topo) : Prop := ∀ i, i < 8 → (∃ a, tR T (18 + 4 * i) 0 = some a ∧ tK T a = 13) ∧ (∃ b, tR T (18 + 4 * i) 1 = some b ∧ tK T b = 13)
theorem Pl.aR {T : Topo} (h : Pl T) {i : Nat} (hi : i < 8) : tR T (18 + 4 * i) 0 = some (plA T i) := by
  obtain ⟨⟨a, h1, -⟩, -⟩ := h i hi
  rw [plA, h1]; rfl
theorem Pl.aK {T : Topo} (h : Pl T) {i : Nat} (hi : i < 8) : tK T (plA T i) = 13 := by
  obtain ⟨⟨a, h1, h2⟩, -⟩ := h i hi
  rw [plA, h1]; exact h2
theorem Pl.bR {T : Topo} (h : Pl T) {i : Nat} (hi : i < 8) : tR T (18 + 4 * i) 1 = some (plB T i) := by
  obtain ⟨-, ⟨a, h1, -⟩⟩ := h i hi
  rw [plB, h1]; rfl
theorem Pl.bK {T : Topo} (h : Pl T) {i : Nat} (hi : i < 8) : tK T (plB T i) = 13 := by
  obtain ⟨-, ⟨a, h1, h2⟩⟩ := h i hi
  rw [plB, h1]; exact h2

def fX6_gatherHosts_0 (T : Topo) (i : Nat) (a2 : Int32) (a3 : Int32) (a4 : Int32) (Q : Topo → IM → Prop) (K3 : Int32 → IM → Prop) (I : IM) : Prop :=
  K3 0 I
def fX6_gatherHosts_3 (T : Topo) (i : Nat) (a2 : Int32) (a3 : Int32) (a4 : Int32) (Q : Topo → IM → Prop) (K3 : Int32 → IM → Prop) (v5 : Int32) (I : IM) : Prop :=
  ((((I 1 3) ≤ v5) → Q T I) ∧ ((¬ (I 1 3) ≤ v5) → ((((¬ (hs a4 v5)) → K3 (v5 + 1) I) ∧ ((hs a4 v5) → ((((Int32.ofNat (tL T (plA T i))) ≤ (I (18 + 4 * i) 3)) → K3 (v5 + 1) (up2 I (18 + 4 * i) 3 ((I (18 + 4 * i) 3) + 1))) ∧ ((¬ (Int32.ofNat (tL T (plA T i))) ≤ (I (18 + 4 * i) 3)) → ((vp_in (I (18 + 4 * i) 3) (tL T (plA T i)) ∧ K3 (v5 + 1) (up2 (up2 I (plA T i) (I (18 + 4 * i) 3).toNatClampNeg (jPlaceOn a2 a3 v5)) (18 + 4 * i) 3 (((up2 I (plA T i) (I (18 + 4 * i) 3).toNatClampNeg (jPlaceOn a2 a3 v5)) (18 + 4 * i) 3) + 1)))))))))))
set_option maxHeartbeats 4000000 in
set_option maxRecDepth 100000 in
theorem sX6_gatherHosts_0 (d : Nat) {T : Topo} (hT : Lay T) (i : Nat) (a2 : Int32) (a3 : Int32) (a4 : Int32) (hi : i < 8) (hPl : Pl T)  {Q : Topo → IM → Prop} {K3 : Int32 → IM → Prop} (hK3 : ∀ (v5 : Int32) (I : IM), K3 v5 I → J (d + 1) mX6_gatherHosts (PV Q) 0 0 3 [some (.ref (18 + 4 * i)), some (.ref 1), some (.int a2), some (.int a3), some (.int a4), some (.int v5)] [] T I 0 0) (I : IM) (h : fX6_gatherHosts_0 T i a2 a3 a4 Q K3 I) : J (d + 1) mX6_gatherHosts (PV Q) 0 0 0 [some (.ref (18 + 4 * i)), some (.ref 1), some (.int a2), some (.int a3), some (.int a4), none] [] T I 0 0 := by
  unfold fX6_gatherHosts_0 at h
  refine J.iconst (v := 0) dX6_gatherHosts_0 (by decide) ?_
  refine J.istore (ls' := [some (.ref (18 + 4 * i)), some (.ref 1), some (.int a2), some (.int a3), some (.int a4), some (.int 0)]) dX6_gatherHosts_1 rfl rfl ?_
  exact J.weaken (ls' := [some (.ref (18 + 4 * i)), some (.ref 1), some (.int a2), some (.int a3), some (.int a4), some (.int 0)]) (And.intro rfl (And.intro rfl (And.intro rfl (And.intro rfl (And.intro rfl (And.intro rfl trivial)))))) (hK3 0 I h)
set_option maxHeartbeats 4000000 in
set_option maxRecDepth 100000 in
theorem sX6_gatherHosts_3 (d : Nat) {T : Topo} (hT : Lay T) (i : Nat) (a2 : Int32) (a3 : Int32) (a4 : Int32) (hi : i < 8) (hPl : Pl T)  {Q : Topo → IM → Prop} {K3 : Int32 → IM → Prop} (hK3 : ∀ (v5 : Int32) (I : IM), K3 v5 I → J (d + 1) mX6_gatherHosts (PV Q) 0 0 3 [some (.ref (18 + 4 * i)), some (.ref 1), some (.int a2), some (.int a3), some (.int a4), some (.int v5)] [] T I 0 0) (v5 : Int32) (I : IM) (h : fX6_gatherHosts_3 T i a2 a3 a4 Q K3 v5 I) : J (d + 1) mX6_gatherHosts (PV Q) 0 0 3 [some (.ref (18 + 4 * i)), some (.ref 1), some (.int a2), some (.int a3), some (.int a4), some (.int v5)] [] T I 0 0 := by
  unfold fX6_gatherHosts_3 at h
  refine J.iload dX6_gatherHosts_3 rfl ?_
  refine J.aload_n dX6_gatherHosts_5 rfl rfl ?_
  refine J.getI dX6_gatherHosts_6 fX6_86 (hT.k 1 rfl) rfl ?_
  refine J.icmp_ge (tgt := 66) dX6_gatherHosts_9 (by decide) (fun hc1 => ?_) (fun hc1 => ?_)
  · have h := h.1 hc1
    exact J.vretQ dX6_gatherHosts_66 rfl (Nat.le_refl _) (Nat.le_refl _) h
  · have h := h.2 hc1
    refine J.iload dX6_gatherHosts_12 rfl ?_
    refine J.iload dX6_gatherHosts_14 rfl ?_
    refine J.callSP (as := [.int a4, .int v5]) (rest := []) dX6_gatherHosts_16 kX11_has vX11_has lX6_89 rfl rfl rfl (by omega) (Nat.le_refl _) (Nat.le_refl _) (qX11_has (d + 0) hT a4 v5 ) ?_
    refine J.bz_eq (tgt := 60) dX6_gatherHosts_19 (by decide) (fun hc2 => ?_) (fun hc2 => ?_)
    · have h := h.1 hc2
      refine J.iinc (v := (v5 + 1)) (ls' := [some (.ref (18 + 4 * i)), some (.ref 1), some (.int a2), some (.int a3), some (.int a4), some (.int (v5 + 1))]) dX6_gatherHosts_60 rfl (by rfl) rfl ?_
      refine J.goto (tgt := 3) dX6_gatherHosts_63 (by decide) ?_
      exact J.weaken (ls' := [some (.ref (18 + 4 * i)), some (.ref 1), some (.int a2), some (.int a3), some (.int a4), some (.int (v5 + 1))]) (And.intro rfl (And.intro rfl (And.intro rfl (And.intro rfl (And.intro rfl (And.intro rfl trivial)))))) (hK3 (v5 + 1) I h)
    · have h := h.2 hc2
      refine J.aload_n dX6_gatherHosts_22 rfl rfl ?_
      refine J.getI dX6_gatherHosts_23 fX6_43 (hT.placesK hi) rfl ?_
      refine J.aload_n dX6_gatherHosts_26 rfl rfl ?_
      refine J.getR (r := (plA T i)) dX6_gatherHosts_27 fX6_9 (hT.placesK hi) rfl (hPl.aR hi) ?_
      refine J.alen dX6_gatherHosts_30 (by rw [(hPl.aK hi)]; decide) ?_
      refine J.icmp_ge (tgt := 50) dX6_gatherHosts_31 (by decide) (fun hc3 => ?_) (fun hc3 => ?_)
      · have h := h.1 hc3
        refine J.aload_n dX6_gatherHosts_50 rfl rfl ?_
        refine J.dup dX6_gatherHosts_51 rfl ?_
        refine J.getI dX6_gatherHosts_52 fX6_43 (hT.placesK hi) rfl ?_
        refine J.iconst (v := 1) dX6_gatherHosts_55 (by decide) ?_
        refine J.iadd dX6_gatherHosts_56 ?_
        refine J.putI dX6_gatherHosts_57 fX6_43 (hT.placesK hi) rfl ?_
        refine J.iinc (v := (v5 + 1)) (ls' := [some (.ref (18 + 4 * i)), some (.ref 1), some (.int a2), some (.int a3), some (.int a4), some (.int (v5 + 1))]) dX6_gatherHosts_60 rfl (by rfl) rfl ?_
        refine J.atpc (pc' := 63) rfl ?_
        refine J.goto (tgt := 3) dX6_gatherHosts_63 (by decide) ?_
        exact J.weaken (ls' := [some (.ref (18 + 4 * i)), some (.ref 1), some (.int a2), some (.int a3), some (.int a4), some (.int (v5 + 1))]) (And.intro rfl (And.intro rfl (And.intro rfl (And.intro rfl (And.intro rfl (And.intro rfl trivial)))))) (hK3 (v5 + 1) (up2 I (18 + 4 * i) 3 ((I (18 + 4 * i) 3) + 1)) h)
      · have h := h.2 hc3
        refine J.aload_n dX6_gatherHosts_34 rfl rfl ?_
        refine J.getR (r := (plA T i)) dX6_gatherHosts_35 fX6_9 (hT.placesK hi) rfl (hPl.aR hi) ?_
        refine J.aload_n dX6_gatherHosts_38 rfl rfl ?_
        refine J.getI dX6_gatherHosts_39 fX6_43 (hT.placesK hi) rfl ?_
        refine J.iload_n dX6_gatherHosts_42 rfl rfl ?_
        refine J.iload_n dX6_gatherHosts_43 rfl rfl ?_
        refine J.iload dX6_gatherHosts_44 rfl ?_
        refine J.atpc (pc' := 46) rfl ?_
        refine J.callSP (as := [.int a2, .int a3, .int v5]) (rest := [.int (I (18 + 4 * i) 3), .ref (plA T i)]) dX6_gatherHosts_46 kX11_placeOn vX11_placeOn lX6_93 rfl rfl rfl (by omega) (Nat.le_refl _) (Nat.le_refl _) (qX11_placeOn (d + 0) hT a2 a3 v5 ) ?_
        obtain ⟨hs4, h⟩ := h
        refine J.iast dX6_gatherHosts_49 (hPl.aK hi) rfl hs4 ?_
        refine J.aload_n dX6_gatherHosts_50 rfl rfl ?_
        refine J.dup dX6_gatherHosts_51 rfl ?_
        refine J.getI dX6_gatherHosts_52 fX6_43 (hT.placesK hi) rfl ?_
        refine J.iconst (v := 1) dX6_gatherHosts_55 (by decide) ?_
        refine J.iadd dX6_gatherHosts_56 ?_
        refine J.putI dX6_gatherHosts_57 fX6_43 (hT.placesK hi) rfl ?_
        refine J.iinc (v := (v5 + 1)) (ls' := [some (.ref (18 + 4 * i)), some (.ref 1), some (.int a2), some (.int a3), some (.int a4), some (.int (v5 + 1))]) dX6_gatherHosts_60 rfl (by rfl) rfl ?_
        refine J.atpc (pc' := 63) rfl ?_
        refine J.goto (tgt := 3) dX6_gatherHosts_63 (by decide) ?_
        exact J.weaken (ls' := [some (.ref (18 + 4 * i)), some (.ref 1), some (.int a2), some (.int a3), some (.int a4), some (.int (v5 + 1))]) (And.intro rfl (And.intro rfl (And.intro rfl (And.intro rfl (And.intro rfl (And.intro rfl trivial)))))) (hK3 (v5 + 1) (up2 (up2 I (plA T i) (I (18 + 4 * i) 3).toNatClampNeg (jPlaceOn a2 a3 v5)) (18 + 4 * i) 3 (((up2 I (plA T i) (I (18 + 4 * i) 3).toNatClampNeg (jPlaceOn a2 a3 v5)) (18 + 4 * i) 3) + 1)) h)
set_option maxHeartbeats 4000000 in
set_option maxRecDepth 100000 in
theorem wX6_gatherHosts (d : Nat) {T : Topo} (hT : Lay T) (i : Nat) (a2 : Int32) (a3 : Int32) (a4 : Int32) (hi : i < 8) (hPl : Pl T) {Q : Topo → IM → Prop} (V3 : Int32 → IM → Prop) (μ3 : Int32 → IM → Nat) (vc3 : ∀ (v5 : Int32) (I : IM), V3 v5 I → fX6_gatherHosts_3 T i a2 a3 a4 Q (fun w5 I_ => V3 w5 I_ ∧ μ3 w5 I_ < μ3 v5 I) v5 I) {I : IM} (h : fX6_gatherHosts_0 T i a2 a3 a4 Q V3 I) : Ct (d + 1) mX6_gatherHosts [.ref (18 + 4 * i), .ref 1, .int a2, .int a3, .int a4] T I 0 0 (PV Q) := by
  have all : ∀ n : Nat, (∀ (v5 : Int32) (I : IM), V3 v5 I → μ3 v5 I < n → J (d + 1) mX6_gatherHosts (PV Q) 0 0 3 [some (.ref (18 + 4 * i)), some (.ref 1), some (.int a2), some (.int a3), some (.int a4), some (.int v5)] [] T I 0 0) := by
    intro n
    induction n with
    | zero => exact fun _ _ _ hn => absurd hn (Nat.not_lt_zero _)
    | succ n ih =>
      exact fun v5 I hv hn => sX6_gatherHosts_3 d hT i a2 a3 a4 hi hPl (fun w5 I_ hw => ih w5 I_ hw.1 (by have := hw.2; omega)) v5 I (vc3 v5 I hv)
  exact Ct.ofJ (by decide +kernel) rfl (by intro v hv; revert v hv; simp [Value.category]) rfl (sX6_gatherHosts_0 d hT i a2 a3 a4 hi hPl (fun w5 I_ hw => (all (μ3 w5 I_ + 1)) w5 I_ hw (Nat.lt_succ_self _)) I h)

def jX6_gatherHostsI (T : Topo) (i : Nat) (a2 : Int32) (a3 : Int32) (a4 : Int32) : Nat → Int32 → IM → IM
  | 0 => fun _ I => I
  | n + 1 => fun v5 I => (if (I 1 3) ≤ v5 then I else (if hs a4 v5 then (if (Int32.ofNat (tL T (plA T i))) ≤ (I (18 + 4 * i) 3) then (jX6_gatherHostsI T i a2 a3 a4 n (v5 + 1) (up2 I (18 + 4 * i) 3 ((I (18 + 4 * i) 3) + 1))) else (jX6_gatherHostsI T i a2 a3 a4 n (v5 + 1) (up2 (up2 I (plA T i) (I (18 + 4 * i) 3).toNatClampNeg (jPlaceOn a2 a3 v5)) (18 + 4 * i) 3 (((up2 I (plA T i) (I (18 + 4 * i) 3).toNatClampNeg (jPlaceOn a2 a3 v5)) (18 + 4 * i) 3) + 1)))) else (jX6_gatherHostsI T i a2 a3 a4 n (v5 + 1) I)))
def jX6_gatherHostsO (T : Topo) (i : Nat) (a2 : Int32) (a3 : Int32) (a4 : Int32) : Nat → Int32 → IM → Prop
  | 0 => fun _ _ => False
  | n + 1 => fun v5 I => ((((I 1 3) ≤ v5) → True) ∧ ((¬ (I 1 3) ≤ v5) → (((¬ (hs a4 v5)) → (jX6_gatherHostsO T i a2 a3 a4 n (v5 + 1) I)) ∧ ((hs a4 v5) → ((((Int32.ofNat (tL T (plA T i))) ≤ (I (18 + 4 * i) 3)) → (jX6_gatherHostsO T i a2 a3 a4 n (v5 + 1) (up2 I (18 + 4 * i) 3 ((I (18 + 4 * i) 3) + 1)))) ∧ ((¬ (Int32.ofNat (tL T (plA T i))) ≤ (I (18 + 4 * i) 3)) → (vp_in (I (18 + 4 * i) 3) (tL T (plA T i)) ∧ (jX6_gatherHostsO T i a2 a3 a4 n (v5 + 1) (up2 (up2 I (plA T i) (I (18 + 4 * i) 3).toNatClampNeg (jPlaceOn a2 a3 v5)) (18 + 4 * i) 3 (((up2 I (plA T i) (I (18 + 4 * i) 3).toNatClampNeg (jPlaceOn a2 a3 v5)) (18 + 4 * i) 3) + 1))))))))))
theorem jX6_gatherHostsI_3 (T : Topo) (i : Nat) (a2 : Int32) (a3 : Int32) (a4 : Int32) (n : Nat) (v5 : Int32) (I : IM) : jX6_gatherHostsI T i a2 a3 a4 (n + 1) v5 I = (if (I 1 3) ≤ v5 then I else (if hs a4 v5 then (if (Int32.ofNat (tL T (plA T i))) ≤ (I (18 + 4 * i) 3) then (jX6_gatherHostsI T i a2 a3 a4 n (v5 + 1) (up2 I (18 + 4 * i) 3 ((I (18 + 4 * i) 3) + 1))) else (jX6_gatherHostsI T i a2 a3 a4 n (v5 + 1) (up2 (up2 I (plA T i) (I (18 + 4 * i) 3).toNatClampNeg (jPlaceOn a2 a3 v5)) (18 + 4 * i) 3 (((up2 I (plA T i) (I (18 + 4 * i) 3).toNatClampNeg (jPlaceOn a2 a3 v5)) (18 + 4 * i) 3) + 1)))) else (jX6_gatherHostsI T i a2 a3 a4 n (v5 + 1) I))) := rfl
theorem jX6_gatherHostsO_3 (T : Topo) (i : Nat) (a2 : Int32) (a3 : Int32) (a4 : Int32) (n : Nat) (v5 : Int32) (I : IM) : jX6_gatherHostsO T i a2 a3 a4 (n + 1) v5 I = ((((I 1 3) ≤ v5) → True) ∧ ((¬ (I 1 3) ≤ v5) → (((¬ (hs a4 v5)) → (jX6_gatherHostsO T i a2 a3 a4 n (v5 + 1) I)) ∧ ((hs a4 v5) → ((((Int32.ofNat (tL T (plA T i))) ≤ (I (18 + 4 * i) 3)) → (jX6_gatherHostsO T i a2 a3 a4 n (v5 + 1) (up2 I (18 + 4 * i) 3 ((I (18 + 4 * i) 3) + 1)))) ∧ ((¬ (Int32.ofNat (tL T (plA T i))) ≤ (I (18 + 4 * i) 3)) → (vp_in (I (18 + 4 * i) 3) (tL T (plA T i)) ∧ (jX6_gatherHostsO T i a2 a3 a4 n (v5 + 1) (up2 (up2 I (plA T i) (I (18 + 4 * i) 3).toNatClampNeg (jPlaceOn a2 a3 v5)) (18 + 4 * i) 3 (((up2 I (plA T i) (I (18 + 4 * i) 3).toNatClampNeg (jPlaceOn a2 a3 v5)) (18 + 4 * i) 3) + 1)))))))))) := rfl
def jX6_gatherHosts (T : Topo) (I : IM) (i : Nat) (a2 : Int32) (a3 : Int32) (a4 : Int32) : IM := (jX6_gatherHostsI T i a2 a3 a4 FU 0 I)
def jX6_gatherHostsK (T : Topo) (I : IM) (i : Nat) (a2 : Int32) (a3 : Int32) (a4 : Int32) : Prop := (jX6_gatherHostsO T i a2 a3 a4 FU 0 I)
set_option maxRecDepth 10000 in
set_option maxHeartbeats 1000000 in
theorem uX6_gatherHosts (d : Nat) {T : Topo} (hT : Lay T) (i : Nat) (a2 : Int32) (a3 : Int32) (a4 : Int32) (hi : i < 8) (hPl : Pl T) {R : IM} : ∀ n : Nat, (∀ (v5 : Int32) (I : IM), jX6_gatherHostsO T i a2 a3 a4 n v5 I → jX6_gatherHostsI T i a2 a3 a4 n v5 I = R → J (d + 1) mX6_gatherHosts (PV (fun T' I' => T' = T ∧ I' = R)) 0 0 3 [some (.ref (18 + 4 * i)), some (.ref 1), some (.int a2), some (.int a3), some (.int a4), some (.int v5)] [] T I 0 0) := by
  intro n
  induction n with
  | zero => exact fun _ _ hz => hz.elim
  | succ n ih =>
    exact fun v5 I hok hit => by
        rw [jX6_gatherHostsO_3] at hok
        exact sX6_gatherHosts_3 d hT i a2 a3 a4 hi hPl (K3 := fun w5 I_ => (jX6_gatherHostsO T i a2 a3 a4 n w5 I_ ∧ jX6_gatherHostsI T i a2 a3 a4 n w5 I_ = R)) (fun w5 I_ hw => ih w5 I_ hw.1 hw.2) v5 I (by
          unfold fX6_gatherHosts_3
          exact ⟨fun hc1 => ⟨rfl, by rw [jX6_gatherHostsI_3, if_pos hc1] at hit; exact hit⟩, fun hc1 => ⟨fun hc2 => ⟨((hok).2 hc1).1 hc2, by rw [jX6_gatherHostsI_3, if_neg hc1, if_neg hc2] at hit; exact hit⟩, fun hc2 => ⟨fun hc3 => ⟨(((hok).2 hc1).2 hc2).1 hc3, by rw [jX6_gatherHostsI_3, if_neg hc1, if_pos hc2, if_pos hc3] at hit; exact hit⟩, fun hc3 => ⟨((((hok).2 hc1).2 hc2).2 hc3).1, ⟨((((hok).2 hc1).2 hc2).2 hc3).2, by rw [jX6_gatherHostsI_3, if_neg hc1, if_pos hc2, if_neg hc3] at hit; exact hit⟩⟩⟩⟩⟩)
set_option maxRecDepth 10000 in
set_option maxHeartbeats 1000000 in
theorem qX6_gatherHosts (d : Nat) {T : Topo} {I : IM} (hT : Lay T) (i : Nat) (hi : i < 8) (a2 : Int32) (a3 : Int32) (a4 : Int32) (hPl : Pl T) (hp : (jX6_gatherHostsK T I i a2 a3 a4)) : CtV (d + 1) mX6_gatherHosts [.ref (18 + 4 * i), .ref 1, .int a2, .int a3, .int a4] T I (fun J_ => J_ = (jX6_gatherHosts T I i a2 a3 a4)) := by
  unfold jX6_gatherHostsK at hp
  exact Ct.ofJ (by decide +kernel) rfl (by intro v hv; revert v hv; simp [Value.category]) rfl (sX6_gatherHosts_0 d hT i a2 a3 a4 hi hPl (K3 := fun w5 I_ => (jX6_gatherHostsO T i a2 a3 a4 FU w5 I_ ∧ jX6_gatherHostsI T i a2 a3 a4 FU w5 I_ = (jX6_gatherHosts T I i a2 a3 a4))) (fun w5 I_ hw => uX6_gatherHosts d hT i a2 a3 a4 hi hPl FU w5 I_ hw.1 hw.2) I (by
    unfold fX6_gatherHosts_0
    exact ⟨hp, rfl⟩))

def fX6_gatherSpares_0 (T : Topo) (i : Nat) (i2 : Nat) (a4 : Int32) (Q : Topo → IM → Prop) (K3 : Int32 → IM → Prop) (I : IM) : Prop :=
  K3 0 I
def fX6_gatherSpares_3 (T : Topo) (i : Nat) (i2 : Nat) (a4 : Int32) (Q : Topo → IM → Prop) (K3 : Int32 → IM → Prop) (v5 : Int32) (I : IM) : Prop :=
  ((((I 4 4) ≤ v5) → Q T I) ∧ ((¬ (I 4 4) ≤ v5) → (((jKeyAtK v5)) ∧ (((jLinesInK I (jKeyAt I v5))) ∧ (((((I (17 + 4 * i2) 4) < (jLateOf (jKeyAt I v5))) → K3 (v5 + 1) I) ∧ ((¬ (I (17 + 4 * i2) 4) < (jLateOf (jKeyAt I v5))) → (((¬ (a4 &&& (jLinesIn I (jKeyAt I v5))) = 0) → K3 (v5 + 1) I) ∧ (((a4 &&& (jLinesIn I (jKeyAt I v5))) = 0) → (((jX5_nodesOnK I a4)) ∧ (((jX5_nodesOnK I (jLinesIn I (jKeyAt I v5)))) ∧ (((jX6_gatherHostsK T I i a4 (jLinesIn I (jKeyAt I v5)) ((jX5_nodesOn I a4) &&& (jX5_nodesOn I (jLinesIn I (jKeyAt I v5)))))) ∧ K3 (v5 + 1) (jX6_gatherHosts T I i a4 (jLinesIn I (jKeyAt I v5)) ((jX5_nodesOn I a4) &&& (jX5_nodesOn I (jLinesIn I (jKeyAt I v5)))))))))))))))))
set_option maxHeartbeats 4000000 in
set_option maxRecDepth 100000 in
theorem sX6_gatherSpares_0 (d : Nat) {T : Topo} (hT : Lay T) (i : Nat) (i2 : Nat) (a4 : Int32) (hi : i < 8) (hi2 : i2 < 8) (hPl : Pl T)  {Q : Topo → IM → Prop} {K3 : Int32 → IM → Prop} (hK3 : ∀ (v5 : Int32) (I : IM), K3 v5 I → J (d + 2) mX6_gatherSpares (PV Q) 0 0 3 [some (.ref (18 + 4 * i)), some (.ref 1), some (.ref (17 + 4 * i2)), some (.ref 4), some (.int a4), some (.int v5), none, none] [] T I 0 0) (I : IM) (h : fX6_gatherSpares_0 T i i2 a4 Q K3 I) : J (d + 2) mX6_gatherSpares (PV Q) 0 0 0 [some (.ref (18 + 4 * i)), some (.ref 1), some (.ref (17 + 4 * i2)), some (.ref 4), some (.int a4), none, none, none] [] T I 0 0 := by
  unfold fX6_gatherSpares_0 at h
  refine J.iconst (v := 0) dX6_gatherSpares_0 (by decide) ?_
  refine J.istore (ls' := [some (.ref (18 + 4 * i)), some (.ref 1), some (.ref (17 + 4 * i2)), some (.ref 4), some (.int a4), some (.int 0), none, none]) dX6_gatherSpares_1 rfl rfl ?_
  exact J.weaken (ls' := [some (.ref (18 + 4 * i)), some (.ref 1), some (.ref (17 + 4 * i2)), some (.ref 4), some (.int a4), some (.int 0), none, none]) (And.intro rfl (And.intro rfl (And.intro rfl (And.intro rfl (And.intro rfl (And.intro rfl trivial)))))) (hK3 0 I h)
set_option maxHeartbeats 4000000 in
set_option maxRecDepth 100000 in
theorem sX6_gatherSpares_3 (d : Nat) {T : Topo} (hT : Lay T) (i : Nat) (i2 : Nat) (a4 : Int32) (hi : i < 8) (hi2 : i2 < 8) (hPl : Pl T)  {Q : Topo → IM → Prop} {K3 : Int32 → IM → Prop} (hK3 : ∀ (v5 : Int32) (I : IM), K3 v5 I → J (d + 2) mX6_gatherSpares (PV Q) 0 0 3 [some (.ref (18 + 4 * i)), some (.ref 1), some (.ref (17 + 4 * i2)), some (.ref 4), some (.int a4), some (.int v5), none, none] [] T I 0 0) (v5 : Int32) (I : IM) (h : fX6_gatherSpares_3 T i i2 a4 Q K3 v5 I) : J (d + 2) mX6_gatherSpares (PV Q) 0 0 3 [some (.ref (18 + 4 * i)), some (.ref 1), some (.ref (17 + 4 * i2)), some (.ref 4), some (.int a4), some (.int v5), none, none] [] T I 0 0 := by
  unfold fX6_gatherSpares_3 at h
  refine J.iload dX6_gatherSpares_3 rfl ?_
  refine J.aload_n dX6_gatherSpares_5 rfl rfl ?_
  refine J.getI dX6_gatherSpares_6 fX6_57 (hT.k 4 rfl) rfl ?_
  refine J.icmp_ge (tgt := 75) dX6_gatherSpares_9 (by decide) (fun hc1 => ?_) (fun hc1 => ?_)
  · have h := h.1 hc1
    exact J.vretQ dX6_gatherSpares_75 rfl (Nat.le_refl _) (Nat.le_refl _) h
  · have h := h.2 hc1
    refine J.aload_n dX6_gatherSpares_12 rfl rfl ?_
    refine J.iload dX6_gatherSpares_13 rfl ?_
    obtain ⟨hp2, h⟩ := h
    refine J.callVP (k := 4) (as := [.int v5]) (rest := []) dX6_gatherSpares_15 kX10_keyAt vX10_keyAt lX6_60 (hT.k 4 rfl) rfl rfl rfl rfl rfl (by omega) (Nat.le_refl _) (Nat.le_refl _) (qX10_keyAt (d + 1) hT v5 hp2) ?_
    refine J.istore (ls' := [some (.ref (18 + 4 * i)), some (.ref 1), some (.ref (17 + 4 * i2)), some (.ref 4), some (.int a4), some (.int v5), some (.int (jKeyAt I v5)), none]) dX6_gatherSpares_18 rfl rfl ?_
    refine J.iload dX6_gatherSpares_20 rfl ?_
    obtain ⟨hp3, h⟩ := h
    refine J.callSP (as := [.int (jKeyAt I v5)]) (rest := []) dX6_gatherSpares_22 kX10_linesIn vX10_linesIn lX6_69 rfl rfl rfl (by omega) (Nat.le_refl _) (Nat.le_refl _) (qX10_linesIn (d + 0) hT (jKeyAt I v5) hp3) ?_
    refine J.istore (ls' := [some (.ref (18 + 4 * i)), some (.ref 1), some (.ref (17 + 4 * i2)), some (.ref 4), some (.int a4), some (.int v5), some (.int (jKeyAt I v5)), some (.int (jLinesIn I (jKeyAt I v5)))]) dX6_gatherSpares_25 rfl rfl ?_
    refine J.iload dX6_gatherSpares_27 rfl ?_
    refine J.callSP (as := [.int (jKeyAt I v5)]) (rest := []) dX6_gatherSpares_29 kX10_lateOf vX10_lateOf lX6_63 rfl rfl rfl (by omega) (Nat.le_refl _) (Nat.le_refl _) (qX10_lateOf (d + 1) hT (jKeyAt I v5) ) ?_
    refine J.aload_n dX6_gatherSpares_32 rfl rfl ?_
    refine J.getI dX6_gatherSpares_33 fX6_66 (hT.sliceK hi2) rfl ?_
    refine J.icmp_gt (tgt := 69) dX6_gatherSpares_36 (by decide) (fun hc4 => ?_) (fun hc4 => ?_)
    · have h := h.1 hc4
      refine J.iinc (v := (v5 + 1)) (ls' := [some (.ref (18 + 4 * i)), some (.ref 1), some (.ref (17 + 4 * i2)), some (.ref 4), some (.int a4), some (.int (v5 + 1)), some (.int (jKeyAt I v5)), some (.int (jLinesIn I (jKeyAt I v5)))]) dX6_gatherSpares_69 rfl (by rfl) rfl ?_
      refine J.goto (tgt := 3) dX6_gatherSpares_72 (by decide) ?_
      exact J.weaken (ls' := [some (.ref (18 + 4 * i)), some (.ref 1), some (.ref (17 + 4 * i2)), some (.ref 4), some (.int a4), some (.int (v5 + 1)), none, none]) (And.intro rfl (And.intro rfl (And.intro rfl (And.intro rfl (And.intro rfl (And.intro rfl trivial)))))) (hK3 (v5 + 1) I h)
    · have h := h.2 hc4
      refine J.iload dX6_gatherSpares_39 rfl ?_
      refine J.iload dX6_gatherSpares_41 rfl ?_
      refine J.iand dX6_gatherSpares_43 ?_
      refine J.if_ne (tgt := 69) dX6_gatherSpares_44 (by decide) (fun hc5 => ?_) (fun hc5 => ?_)
      · have h := h.1 hc5
        refine J.iinc (v := (v5 + 1)) (ls' := [some (.ref (18 + 4 * i)), some (.ref 1), some (.ref (17 + 4 * i2)), some (.ref 4), some (.int a4), some (.int (v5 + 1)), some (.int (jKeyAt I v5)), some (.int (jLinesIn I (jKeyAt I v5)))]) dX6_gatherSpares_69 rfl (by rfl) rfl ?_
        refine J.goto (tgt := 3) dX6_gatherSpares_72 (by decide) ?_
        exact J.weaken (ls' := [some (.ref (18 + 4 * i)), some (.ref 1), some (.ref (17 + 4 * i2)), some (.ref 4), some (.int a4), some (.int (v5 + 1)), none, none]) (And.intro rfl (And.intro rfl (And.intro rfl (And.intro rfl (And.intro rfl (And.intro rfl trivial)))))) (hK3 (v5 + 1) I h)
      · have h := h.2 hc5
        refine J.aload_n dX6_gatherSpares_47 rfl rfl ?_
        refine J.aload_n dX6_gatherSpares_48 rfl rfl ?_
        refine J.iload dX6_gatherSpares_49 rfl ?_
        refine J.iload dX6_gatherSpares_51 rfl ?_
        refine J.aload_n dX6_gatherSpares_53 rfl rfl ?_
        refine J.iload dX6_gatherSpares_54 rfl ?_
        obtain ⟨hp6, h⟩ := h
        refine J.callVP (k := 1) (as := [.int a4]) (rest := [.int (jLinesIn I (jKeyAt I v5)), .int a4, .ref 1, .ref (18 + 4 * i)]) dX6_gatherSpares_56 kX5_nodesOn vX5_nodesOn lX6_79 (hT.k 1 rfl) rfl rfl rfl rfl rfl (by omega) (Nat.le_refl _) (Nat.le_refl _) (qX5_nodesOn (d + 0) hT a4 hp6) ?_
        refine J.aload_n dX6_gatherSpares_59 rfl rfl ?_
        refine J.iload dX6_gatherSpares_60 rfl ?_
        obtain ⟨hp7, h⟩ := h
        refine J.callVP (k := 1) (as := [.int (jLinesIn I (jKeyAt I v5))]) (rest := [.int (jX5_nodesOn I a4), .int (jLinesIn I (jKeyAt I v5)), .int a4, .ref 1, .ref (18 + 4 * i)]) dX6_gatherSpares_62 kX5_nodesOn vX5_nodesOn lX6_79 (hT.k 1 rfl) rfl rfl rfl rfl rfl (by omega) (Nat.le_refl _) (Nat.le_refl _) (qX5_nodesOn (d + 0) hT (jLinesIn I (jKeyAt I v5)) hp7) ?_
        refine J.iand dX6_gatherSpares_65 ?_
        obtain ⟨hp8, h⟩ := h
        refine J.callVD (k := (18 + 4 * i)) (as := [.ref 1, .int a4, .int (jLinesIn I (jKeyAt I v5)), .int ((jX5_nodesOn I a4) &&& (jX5_nodesOn I (jLinesIn I (jKeyAt I v5))))]) (rest := []) dX6_gatherSpares_66 kX6_gatherHosts vX6_gatherHosts lX6_82 (hT.placesK hi) rfl rfl rfl rfl rfl (by omega) (Nat.le_refl _) (Nat.le_refl _) (qX6_gatherHosts (d + 0) hT i hi a4 (jLinesIn I (jKeyAt I v5)) ((jX5_nodesOn I a4) &&& (jX5_nodesOn I (jLinesIn I (jKeyAt I v5)))) hPl hp8) ?_
        refine J.iinc (v := (v5 + 1)) (ls' := [some (.ref (18 + 4 * i)), some (.ref 1), some (.ref (17 + 4 * i2)), some (.ref 4), some (.int a4), some (.int (v5 + 1)), some (.int (jKeyAt I v5)), some (.int (jLinesIn I (jKeyAt I v5)))]) dX6_gatherSpares_69 rfl (by rfl) rfl ?_
        refine J.goto (tgt := 3) dX6_gatherSpares_72 (by decide) ?_
        exact J.weaken (ls' := [some (.ref (18 + 4 * i)), some (.ref 1), some (.ref (17 + 4 * i2)), some (.ref 4), some (.int a4), some (.int (v5 + 1)), none, none]) (And.intro rfl (And.intro rfl (And.intro rfl (And.intro rfl (And.intro rfl (And.intro rfl trivial)))))) (hK3 (v5 + 1) (jX6_gatherHosts T I i a4 (jLinesIn I (jKeyAt I v5)) ((jX5_nodesOn I a4) &&& (jX5_nodesOn I (jLinesIn I (jKeyAt I v5))))) h)
set_option maxHeartbeats 4000000 in
set_option maxRecDepth 100000 in
theorem wX6_gatherSpares (d : Nat) {T : Topo} (hT : Lay T) (i : Nat) (i2 : Nat) (a4 : Int32) (hi : i < 8) (hi2 : i2 < 8) (hPl : Pl T) {Q : Topo → IM → Prop} (V3 : Int32 → IM → Prop) (μ3 : Int32 → IM → Nat) (vc3 : ∀ (v5 : Int32) (I : IM), V3 v5 I → fX6_gatherSpares_3 T i i2 a4 Q (fun w5 I_ => V3 w5 I_ ∧ μ3 w5 I_ < μ3 v5 I) v5 I) {I : IM} (h : fX6_gatherSpares_0 T i i2 a4 Q V3 I) : Ct (d + 2) mX6_gatherSpares [.ref (18 + 4 * i), .ref 1, .ref (17 + 4 * i2), .ref 4, .int a4] T I 0 0 (PV Q) := by
  have all : ∀ n : Nat, (∀ (v5 : Int32) (I : IM), V3 v5 I → μ3 v5 I < n → J (d + 2) mX6_gatherSpares (PV Q) 0 0 3 [some (.ref (18 + 4 * i)), some (.ref 1), some (.ref (17 + 4 * i2)), some (.ref 4), some (.int a4), some (.int v5), none, none] [] T I 0 0) := by
    intro n
    induction n with
    | zero => exact fun _ _ _ hn => absurd hn (Nat.not_lt_zero _)
    | succ n ih =>
      exact fun v5 I hv hn => sX6_gatherSpares_3 d hT i i2 a4 hi hi2 hPl (fun w5 I_ hw => ih w5 I_ hw.1 (by have := hw.2; omega)) v5 I (vc3 v5 I hv)
  exact Ct.ofJ (by decide +kernel) rfl (by intro v hv; revert v hv; simp [Value.category]) rfl (sX6_gatherSpares_0 d hT i i2 a4 hi hi2 hPl (fun w5 I_ hw => (all (μ3 w5 I_ + 1)) w5 I_ hw (Nat.lt_succ_self _)) I h)

def jX6_gatherSparesI (T : Topo) (i : Nat) (i2 : Nat) (a4 : Int32) : Nat → Int32 → IM → IM
  | 0 => fun _ I => I
  | n + 1 => fun v5 I => (if (I 4 4) ≤ v5 then I else (if (I (17 + 4 * i2) 4) < (jLateOf (jKeyAt I v5)) then (jX6_gatherSparesI T i i2 a4 n (v5 + 1) I) else (if (a4 &&& (jLinesIn I (jKeyAt I v5))) = 0 then (jX6_gatherSparesI T i i2 a4 n (v5 + 1) (jX6_gatherHosts T I i a4 (jLinesIn I (jKeyAt I v5)) ((jX5_nodesOn I a4) &&& (jX5_nodesOn I (jLinesIn I (jKeyAt I v5)))))) else (jX6_gatherSparesI T i i2 a4 n (v5 + 1) I))))
def jX6_gatherSparesO (T : Topo) (i : Nat) (i2 : Nat) (a4 : Int32) : Nat → Int32 → IM → Prop
  | 0 => fun _ _ => False
  | n + 1 => fun v5 I => ((((I 4 4) ≤ v5) → True) ∧ ((¬ (I 4 4) ≤ v5) → (((jKeyAtK v5)) ∧ (((jLinesInK I (jKeyAt I v5))) ∧ ((((I (17 + 4 * i2) 4) < (jLateOf (jKeyAt I v5))) → (jX6_gatherSparesO T i i2 a4 n (v5 + 1) I)) ∧ ((¬ (I (17 + 4 * i2) 4) < (jLateOf (jKeyAt I v5))) → (((¬ (a4 &&& (jLinesIn I (jKeyAt I v5))) = 0) → (jX6_gatherSparesO T i i2 a4 n (v5 + 1) I)) ∧ (((a4 &&& (jLinesIn I (jKeyAt I v5))) = 0) → (((jX5_nodesOnK I a4)) ∧ (((jX5_nodesOnK I (jLinesIn I (jKeyAt I v5)))) ∧ (((jX6_gatherHostsK T I i a4 (jLinesIn I (jKeyAt I v5)) ((jX5_nodesOn I a4) &&& (jX5_nodesOn I (jLinesIn I (jKeyAt I v5)))))) ∧ (jX6_gatherSparesO T i i2 a4 n (v5 + 1) (jX6_gatherHosts T I i a4 (jLinesIn I (jKeyAt I v5)) ((jX5_nodesOn I a4) &&& (jX5_nodesOn I (jLinesIn I (jKeyAt I v5)))))))))))))))))
theorem jX6_gatherSparesI_3 (T : Topo) (i : Nat) (i2 : Nat) (a4 : Int32) (n : Nat) (v5 : Int32) (I : IM) : jX6_gatherSparesI T i i2 a4 (n + 1) v5 I = (if (I 4 4) ≤ v5 then I else (if (I (17 + 4 * i2) 4) < (jLateOf (jKeyAt I v5)) then (jX6_gatherSparesI T i i2 a4 n (v5 + 1) I) else (if (a4 &&& (jLinesIn I (jKeyAt I v5))) = 0 then (jX6_gatherSparesI T i i2 a4 n (v5 + 1) (jX6_gatherHosts T I i a4 (jLinesIn I (jKeyAt I v5)) ((jX5_nodesOn I a4) &&& (jX5_nodesOn I (jLinesIn I (jKeyAt I v5)))))) else (jX6_gatherSparesI T i i2 a4 n (v5 + 1) I)))) := rfl
theorem jX6_gatherSparesO_3 (T : Topo) (i : Nat) (i2 : Nat) (a4 : Int32) (n : Nat) (v5 : Int32) (I : IM) : jX6_gatherSparesO T i i2 a4 (n + 1) v5 I = ((((I 4 4) ≤ v5) → True) ∧ ((¬ (I 4 4) ≤ v5) → (((jKeyAtK v5)) ∧ (((jLinesInK I (jKeyAt I v5))) ∧ ((((I (17 + 4 * i2) 4) < (jLateOf (jKeyAt I v5))) → (jX6_gatherSparesO T i i2 a4 n (v5 + 1) I)) ∧ ((¬ (I (17 + 4 * i2) 4) < (jLateOf (jKeyAt I v5))) → (((¬ (a4 &&& (jLinesIn I (jKeyAt I v5))) = 0) → (jX6_gatherSparesO T i i2 a4 n (v5 + 1) I)) ∧ (((a4 &&& (jLinesIn I (jKeyAt I v5))) = 0) → (((jX5_nodesOnK I a4)) ∧ (((jX5_nodesOnK I (jLinesIn I (jKeyAt I v5)))) ∧ (((jX6_gatherHostsK T I i a4 (jLinesIn I (jKeyAt I v5)) ((jX5_nodesOn I a4) &&& (jX5_nodesOn I (jLinesIn I (jKeyAt I v5)))))) ∧ (jX6_gatherSparesO T i i2 a4 n (v5 + 1) (jX6_gatherHosts T I i a4 (jLinesIn I (jKeyAt I v5)) ((jX5_nodesOn I a4) &&& (jX5_nodesOn I (jLinesIn I (jKeyAt I v5))))))))))))))))) := rfl
def jX6_gatherSpares (T : Topo) (I : IM) (i : Nat) (i2 : Nat) (a4 : Int32) : IM := (jX6_gatherSparesI T i i2 a4 FU 0 I)
def jX6_gatherSparesK (T : Topo) (I : IM) (i : Nat) (i2 : Nat) (a4 : Int32) : Prop := (jX6_gatherSparesO T i i2 a4 FU 0 I)
set_option maxRecDepth 10000 in
set_option maxHeartbeats 1000000 in
theorem uX6_gatherSpares (d : Nat) {T : Topo} (hT : Lay T) (i : Nat) (i2 : Nat) (a4 : Int32) (hi : i < 8) (hi2 : i2 < 8) (hPl : Pl T) {R : IM} : ∀ n : Nat, (∀ (v5 : Int32) (I : IM), jX6_gatherSparesO T i i2 a4 n v5 I → jX6_gatherSparesI T i i2 a4 n v5 I = R → J (d + 2) mX6_gatherSpares (PV (fun T' I' => T' = T ∧ I' = R)) 0 0 3 [some (.ref (18 + 4 * i)), some (.ref 1), some (.ref (17 + 4 * i2)), some (.ref 4), some (.int a4), some (.int v5), none, none] [] T I 0 0) := by
  intro n
  induction n with
  | zero => exact fun _ _ hz => hz.elim
  | succ n ih =>
    exact fun v5 I hok hit => by
        rw [jX6_gatherSparesO_3] at hok
        exact sX6_gatherSpares_3 d hT i i2 a4 hi hi2 hPl (K3 := fun w5 I_ => (jX6_gatherSparesO T i i2 a4 n w5 I_ ∧ jX6_gatherSparesI T i i2 a4 n w5 I_ = R)) (fun w5 I_ hw => ih w5 I_ hw.1 hw.2) v5 I (by
          unfold fX6_gatherSpares_3
          exact ⟨fun hc1 => ⟨rfl, by rw [jX6_gatherSparesI_3, if_pos hc1] at hit; exact hit⟩, fun hc1 => ⟨((hok).2 hc1).1, ⟨(((hok).2 hc1).2).1, ⟨fun hc2 => ⟨((((hok).2 hc1).2).2).1 hc2, by rw [jX6_gatherSparesI_3, if_neg hc1, if_pos hc2] at hit; exact hit⟩, fun hc2 => ⟨fun hc3 => ⟨(((((hok).2 hc1).2).2).2 hc2).1 hc3, by rw [jX6_gatherSparesI_3, if_neg hc1, if_neg hc2, if_neg hc3] at hit; exact hit⟩, fun hc3 => ⟨((((((hok).2 hc1).2).2).2 hc2).2 hc3).1, ⟨(((((((hok).2 hc1).2).2).2 hc2).2 hc3).2).1, ⟨((((((((hok).2 hc1).2).2).2 hc2).2 hc3).2).2).1, ⟨((((((((hok).2 hc1).2).2).2 hc2).2 hc3).2).2).2, by rw [jX6_gatherSparesI_3, if_neg hc1, if_neg hc2, if_pos hc3] at hit; exact hit⟩⟩⟩⟩⟩⟩⟩⟩⟩)
set_option maxRecDepth 10000 in
set_option maxHeartbeats 1000000 in
theorem qX6_gatherSpares (d : Nat) {T : Topo} {I : IM} (hT : Lay T) (i : Nat) (hi : i < 8) (i2 : Nat) (hi2 : i2 < 8) (a4 : Int32) (hPl : Pl T) (hp : (jX6_gatherSparesK T I i i2 a4)) : CtV (d + 2) mX6_gatherSpares [.ref (18 + 4 * i), .ref 1, .ref (17 + 4 * i2), .ref 4, .int a4] T I (fun J_ => J_ = (jX6_gatherSpares T I i i2 a4)) := by
  unfold jX6_gatherSparesK at hp
  exact Ct.ofJ (by decide +kernel) rfl (by intro v hv; revert v hv; simp [Value.category]) rfl (sX6_gatherSpares_0 d hT i i2 a4 hi hi2 hPl (K3 := fun w5 I_ => (jX6_gatherSparesO T i i2 a4 FU w5 I_ ∧ jX6_gatherSparesI T i i2 a4 FU w5 I_ = (jX6_gatherSpares T I i i2 a4))) (fun w5 I_ hw => uX6_gatherSpares d hT i i2 a4 hi hi2 hPl FU w5 I_ hw.1 hw.2) I (by
    unfold fX6_gatherSpares_0
    exact ⟨hp, rfl⟩))

def fX6_keepUp_0 (T : Topo) (i : Nat) (Q : Topo → IM → Prop) (K7 : Int32 → IM → Prop) (I : IM) : Prop :=
  K7 0 (up2 I (18 + 4 * i) 4 0)
def fX6_keepUp_7 (T : Topo) (i : Nat) (Q : Topo → IM → Prop) (K7 : Int32 → IM → Prop) (v2 : Int32) (I : IM) : Prop :=
  ((((I (18 + 4 * i) 3) ≤ v2) → Q T I) ∧ ((¬ (I (18 + 4 * i) 3) ≤ v2) → (vp_in v2 (tL T (plA T i)) ∧ (((((¬ (((jLinesOf (I (plA T i) v2.toNatClampNeg)) &&& I 1 5) = 0)) → K7 (v2 + 1) I) ∧ ((((jLinesOf (I (plA T i) v2.toNatClampNeg)) &&& I 1 5) = 0) → (vp_in v2 (tL T (plA T i)) ∧ (vp_in (I (18 + 4 * i) 4) (tL T (plB T i)) ∧ K7 (v2 + 1) (up2 (up2 I (plB T i) (I (18 + 4 * i) 4).toNatClampNeg (I (plA T i) v2.toNatClampNeg)) (18 + 4 * i) 4 (((up2 I (plB T i) (I (18 + 4 * i) 4).toNatClampNeg (I (plA T i) v2.toNatClampNeg)) (18 + 4 * i) 4) + 1)))))))))))
set_option maxHeartbeats 4000000 in
set_option maxRecDepth 100000 in
theorem sX6_keepUp_0 (d : Nat) {T : Topo} (hT : Lay T) (i : Nat) (hi : i < 8) (hPl : Pl T)  {Q : Topo → IM → Prop} {K7 : Int32 → IM → Prop} (hK7 : ∀ (v2 : Int32) (I : IM), K7 v2 I → J (d + 2) mX6_keepUp (PV Q) 0 0 7 [some (.ref (18 + 4 * i)), some (.ref 1), some (.int v2)] [] T I 0 0) (I : IM) (h : fX6_keepUp_0 T i Q K7 I) : J (d + 2) mX6_keepUp (PV Q) 0 0 0 [some (.ref (18 + 4 * i)), some (.ref 1), none] [] T I 0 0 := by
  unfold fX6_keepUp_0 at h
  refine J.aload_n dX6_keepUp_0 rfl rfl ?_
  refine J.iconst (v := 0) dX6_keepUp_1 (by decide) ?_
  refine J.putI dX6_keepUp_2 fX6_46 (hT.placesK hi) rfl ?_
  refine J.iconst (v := 0) dX6_keepUp_5 (by decide) ?_
  refine J.istore_n (ls' := [some (.ref (18 + 4 * i)), some (.ref 1), some (.int 0)]) dX6_keepUp_6 rfl rfl rfl ?_
  exact J.weaken (ls' := [some (.ref (18 + 4 * i)), some (.ref 1), some (.int 0)]) (And.intro rfl (And.intro rfl (And.intro rfl trivial))) (hK7 0 (up2 I (18 + 4 * i) 4 0) h)
set_option maxHeartbeats 4000000 in
set_option maxRecDepth 100000 in
theorem sX6_keepUp_7 (d : Nat) {T : Topo} (hT : Lay T) (i : Nat) (hi : i < 8) (hPl : Pl T)  {Q : Topo → IM → Prop} {K7 : Int32 → IM → Prop} (hK7 : ∀ (v2 : Int32) (I : IM), K7 v2 I → J (d + 2) mX6_keepUp (PV Q) 0 0 7 [some (.ref (18 + 4 * i)), some (.ref 1), some (.int v2)] [] T I 0 0) (v2 : Int32) (I : IM) (h : fX6_keepUp_7 T i Q K7 v2 I) : J (d + 2) mX6_keepUp (PV Q) 0 0 7 [some (.ref (18 + 4 * i)), some (.ref 1), some (.int v2)] [] T I 0 0 := by
  unfold fX6_keepUp_7 at h
  refine J.iload_n dX6_keepUp_7 rfl rfl ?_
  refine J.aload_n dX6_keepUp_8 rfl rfl ?_
  refine J.getI dX6_keepUp_9 fX6_43 (hT.placesK hi) rfl ?_
  refine J.icmp_ge (tgt := 62) dX6_keepUp_12 (by decide) (fun hc1 => ?_) (fun hc1 => ?_)
  · have h := h.1 hc1
    exact J.vretQ dX6_keepUp_62 rfl (Nat.le_refl _) (Nat.le_refl _) h
  · have h := h.2 hc1
    refine J.aload_n dX6_keepUp_15 rfl rfl ?_
    refine J.aload_n dX6_keepUp_16 rfl rfl ?_
    refine J.getR (r := (plA T i)) dX6_keepUp_17 fX6_9 (hT.placesK hi) rfl (hPl.aR hi) ?_
    refine J.iload_n dX6_keepUp_20 rfl rfl ?_
    obtain ⟨hs2, h⟩ := h
    refine J.iald dX6_keepUp_21 (hPl.aK hi) rfl hs2 ?_
    refine J.callSP (as := [.int (I (plA T i) v2.toNatClampNeg)]) (rest := [.ref 1]) dX6_keepUp_22 kX11_linesOf vX11_linesOf lX6_49 rfl rfl rfl (by omega) (Nat.le_refl _) (Nat.le_refl _) (qX11_linesOf (d + 0) hT (I (plA T i) v2.toNatClampNeg) ) ?_
    refine J.callVP (k := 1) (as := [.int (jLinesOf (I (plA T i) v2.toNatClampNeg))]) (rest := []) dX6_keepUp_25 kX5_isUp vX5_isUp lX6_53 (hT.k 1 rfl) rfl rfl rfl rfl rfl (by omega) (Nat.le_refl _) (Nat.le_refl _) (qX5_isUp (d + 1) hT (jLinesOf (I (plA T i) v2.toNatClampNeg)) ) ?_
    refine J.bz_eq (tgt := 56) dX6_keepUp_28 (by decide) (fun hc3 => ?_) (fun hc3 => ?_)
    · have h := h.1 hc3
      refine J.iinc (v := (v2 + 1)) (ls' := [some (.ref (18 + 4 * i)), some (.ref 1), some (.int (v2 + 1))]) dX6_keepUp_56 rfl (by rfl) rfl ?_
      refine J.goto (tgt := 7) dX6_keepUp_59 (by decide) ?_
      exact J.weaken (ls' := [some (.ref (18 + 4 * i)), some (.ref 1), some (.int (v2 + 1))]) (And.intro rfl (And.intro rfl (And.intro rfl trivial))) (hK7 (v2 + 1) I h)
    · have h := h.2 hc3
      refine J.aload_n dX6_keepUp_31 rfl rfl ?_
      refine J.getR (r := (plB T i)) dX6_keepUp_32 fX6_15 (hT.placesK hi) rfl (hPl.bR hi) ?_
      refine J.aload_n dX6_keepUp_35 rfl rfl ?_
      refine J.getI dX6_keepUp_36 fX6_46 (hT.placesK hi) rfl ?_
      refine J.aload_n dX6_keepUp_39 rfl rfl ?_
      refine J.getR (r := (plA T i)) dX6_keepUp_40 fX6_9 (hT.placesK hi) rfl (hPl.aR hi) ?_
      refine J.iload_n dX6_keepUp_43 rfl rfl ?_
      refine J.atpc (pc' := 44) rfl ?_
      obtain ⟨hs4, h⟩ := h
      refine J.iald dX6_keepUp_44 (hPl.aK hi) rfl hs4 ?_
      obtain ⟨hs5, h⟩ := h
      refine J.iast dX6_keepUp_45 (hPl.bK hi) rfl hs5 ?_
      refine J.aload_n dX6_keepUp_46 rfl rfl ?_
      refine J.dup dX6_keepUp_47 rfl ?_
      refine J.getI dX6_keepUp_48 fX6_46 (hT.placesK hi) rfl ?_
      refine J.iconst (v := 1) dX6_keepUp_51 (by decide) ?_
      refine J.iadd dX6_keepUp_52 ?_
      refine J.putI dX6_keepUp_53 fX6_46 (hT.placesK hi) rfl ?_
      refine J.iinc (v := (v2 + 1)) (ls' := [some (.ref (18 + 4 * i)), some (.ref 1), some (.int (v2 + 1))]) dX6_keepUp_56 rfl (by rfl) rfl ?_
      refine J.atpc (pc' := 59) rfl ?_
      refine J.goto (tgt := 7) dX6_keepUp_59 (by decide) ?_
      exact J.weaken (ls' := [some (.ref (18 + 4 * i)), some (.ref 1), some (.int (v2 + 1))]) (And.intro rfl (And.intro rfl (And.intro rfl trivial))) (hK7 (v2 + 1) (up2 (up2 I (plB T i) (I (18 + 4 * i) 4).toNatClampNeg (I (plA T i) v2.toNatClampNeg)) (18 + 4 * i) 4 (((up2 I (plB T i) (I (18 + 4 * i) 4).toNatClampNeg (I (plA T i) v2.toNatClampNeg)) (18 + 4 * i) 4) + 1)) h)
set_option maxHeartbeats 4000000 in
set_option maxRecDepth 100000 in
theorem wX6_keepUp (d : Nat) {T : Topo} (hT : Lay T) (i : Nat) (hi : i < 8) (hPl : Pl T) {Q : Topo → IM → Prop} (V7 : Int32 → IM → Prop) (μ7 : Int32 → IM → Nat) (vc7 : ∀ (v2 : Int32) (I : IM), V7 v2 I → fX6_keepUp_7 T i Q (fun w2 I_ => V7 w2 I_ ∧ μ7 w2 I_ < μ7 v2 I) v2 I) {I : IM} (h : fX6_keepUp_0 T i Q V7 I) : Ct (d + 2) mX6_keepUp [.ref (18 + 4 * i), .ref 1] T I 0 0 (PV Q) := by
  have all : ∀ n : Nat, (∀ (v2 : Int32) (I : IM), V7 v2 I → μ7 v2 I < n → J (d + 2) mX6_keepUp (PV Q) 0 0 7 [some (.ref (18 + 4 * i)), some (.ref 1), some (.int v2)] [] T I 0 0) := by
    intro n
    induction n with
    | zero => exact fun _ _ _ hn => absurd hn (Nat.not_lt_zero _)
    | succ n ih =>
      exact fun v2 I hv hn => sX6_keepUp_7 d hT i hi hPl (fun w2 I_ hw => ih w2 I_ hw.1 (by have := hw.2; omega)) v2 I (vc7 v2 I hv)
  exact Ct.ofJ (by decide +kernel) rfl (by intro v hv; revert v hv; simp [Value.category]) rfl (sX6_keepUp_0 d hT i hi hPl (fun w2 I_ hw => (all (μ7 w2 I_ + 1)) w2 I_ hw (Nat.lt_succ_self _)) I h)

def jX6_keepUpI (T : Topo) (i : Nat) : Nat → Int32 → IM → IM
  | 0 => fun _ I => I
  | n + 1 => fun v2 I => (if (I (18 + 4 * i) 3) ≤ v2 then I else (if ((jLinesOf (I (plA T i) v2.toNatClampNeg)) &&& I 1 5) = 0 then (jX6_keepUpI T i n (v2 + 1) (up2 (up2 I (plB T i) (I (18 + 4 * i) 4).toNatClampNeg (I (plA T i) v2.toNatClampNeg)) (18 + 4 * i) 4 (((up2 I (plB T i) (I (18 + 4 * i) 4).toNatClampNeg (I (plA T i) v2.toNatClampNeg)) (18 + 4 * i) 4) + 1))) else (jX6_keepUpI T i n (v2 + 1) I)))
def jX6_keepUpO (T : Topo) (i : Nat) : Nat → Int32 → IM → Prop
  | 0 => fun _ _ => False
  | n + 1 => fun v2 I => ((((I (18 + 4 * i) 3) ≤ v2) → True) ∧ ((¬ (I (18 + 4 * i) 3) ≤ v2) → (vp_in v2 (tL T (plA T i)) ∧ (((¬ (((jLinesOf (I (plA T i) v2.toNatClampNeg)) &&& I 1 5) = 0)) → (jX6_keepUpO T i n (v2 + 1) I)) ∧ ((((jLinesOf (I (plA T i) v2.toNatClampNeg)) &&& I 1 5) = 0) → (vp_in v2 (tL T (plA T i)) ∧ (vp_in (I (18 + 4 * i) 4) (tL T (plB T i)) ∧ (jX6_keepUpO T i n (v2 + 1) (up2 (up2 I (plB T i) (I (18 + 4 * i) 4).toNatClampNeg (I (plA T i) v2.toNatClampNeg)) (18 + 4 * i) 4 (((up2 I (plB T i) (I (18 + 4 * i) 4).toNatClampNeg (I (plA T i) v2.toNatClampNeg)) (18 + 4 * i) 4) + 1))))))))))
theorem jX6_keepUpI_7 (T : Topo) (i : Nat) (n : Nat) (v2 : Int32) (I : IM) : jX6_keepUpI T i (n + 1) v2 I = (if (I (18 + 4 * i) 3) ≤ v2 then I else (if ((jLinesOf (I (plA T i) v2.toNatClampNeg)) &&& I 1 5) = 0 then (jX6_keepUpI T i n (v2 + 1) (up2 (up2 I (plB T i) (I (18 + 4 * i) 4).toNatClampNeg (I (plA T i) v2.toNatClampNeg)) (18 + 4 * i) 4 (((up2 I (plB T i) (I (18 + 4 * i) 4).toNatClampNeg (I (plA T i) v2.toNatClampNeg)) (18 + 4 * i) 4) + 1))) else (jX6_keepUpI T i n (v2 + 1) I))) := rfl
theorem jX6_keepUpO_7 (T : Topo) (i : Nat) (n : Nat) (v2 : Int32) (I : IM) : jX6_keepUpO T i (n + 1) v2 I = ((((I (18 + 4 * i) 3) ≤ v2) → True) ∧ ((¬ (I (18 + 4 * i) 3) ≤ v2) → (vp_in v2 (tL T (plA T i)) ∧ (((¬ (((jLinesOf (I (plA T i) v2.toNatClampNeg)) &&& I 1 5) = 0)) → (jX6_keepUpO T i n (v2 + 1) I)) ∧ ((((jLinesOf (I (plA T i) v2.toNatClampNeg)) &&& I 1 5) = 0) → (vp_in v2 (tL T (plA T i)) ∧ (vp_in (I (18 + 4 * i) 4) (tL T (plB T i)) ∧ (jX6_keepUpO T i n (v2 + 1) (up2 (up2 I (plB T i) (I (18 + 4 * i) 4).toNatClampNeg (I (plA T i) v2.toNatClampNeg)) (18 + 4 * i) 4 (((up2 I (plB T i) (I (18 + 4 * i) 4).toNatClampNeg (I (plA T i) v2.toNatClampNeg)) (18 + 4 * i) 4) + 1)))))))))) := rfl
def jX6_keepUp (T : Topo) (I : IM) (i : Nat) : IM := (jX6_keepUpI T i FU 0 (up2 I (18 + 4 * i) 4 0))
def jX6_keepUpK (T : Topo) (I : IM) (i : Nat) : Prop := (jX6_keepUpO T i FU 0 (up2 I (18 + 4 * i) 4 0))
set_option maxRecDepth 10000 in
set_option maxHeartbeats 1000000 in
theorem uX6_keepUp (d : Nat) {T : Topo} (hT : Lay T) (i : Nat) (hi : i < 8) (hPl : Pl T) {R : IM} : ∀ n : Nat, (∀ (v2 : Int32) (I : IM), jX6_keepUpO T i n v2 I → jX6_keepUpI T i n v2 I = R → J (d + 2) mX6_keepUp (PV (fun T' I' => T' = T ∧ I' = R)) 0 0 7 [some (.ref (18 + 4 * i)), some (.ref 1), some (.int v2)] [] T I 0 0) := by
  intro n
  induction n with
  | zero => exact fun _ _ hz => hz.elim
  | succ n ih =>
    exact fun v2 I hok hit => by
        rw [jX6_keepUpO_7] at hok
        exact sX6_keepUp_7 d hT i hi hPl (K7 := fun w2 I_ => (jX6_keepUpO T i n w2 I_ ∧ jX6_keepUpI T i n w2 I_ = R)) (fun w2 I_ hw => ih w2 I_ hw.1 hw.2) v2 I (by
          unfold fX6_keepUp_7
          exact ⟨fun hc1 => ⟨rfl, by rw [jX6_keepUpI_7, if_pos hc1] at hit; exact hit⟩, fun hc1 => ⟨((hok).2 hc1).1, ⟨fun hc2 => ⟨(((hok).2 hc1).2).1 hc2, by rw [jX6_keepUpI_7, if_neg hc1, if_neg hc2] at hit; exact hit⟩, fun hc2 => ⟨((((hok).2 hc1).2).2 hc2).1, ⟨(((((hok).2 hc1).2).2 hc2).2).1, ⟨(((((hok).2 hc1).2).2 hc2).2).2, by rw [jX6_keepUpI_7, if_neg hc1, if_pos hc2] at hit; exact hit⟩⟩⟩⟩⟩⟩)
set_option maxRecDepth 10000 in
set_option maxHeartbeats 1000000 in
theorem qX6_keepUp (d : Nat) {T : Topo} {I : IM} (hT : Lay T) (i : Nat) (hi : i < 8) (hPl : Pl T) (hp : (jX6_keepUpK T I i)) : CtV (d + 2) mX6_keepUp [.ref (18 + 4 * i), .ref 1] T I (fun J_ => J_ = (jX6_keepUp T I i)) := by
  unfold jX6_keepUpK at hp
  exact Ct.ofJ (by decide +kernel) rfl (by intro v hv; revert v hv; simp [Value.category]) rfl (sX6_keepUp_0 d hT i hi hPl (K7 := fun w2 I_ => (jX6_keepUpO T i FU w2 I_ ∧ jX6_keepUpI T i FU w2 I_ = (jX6_keepUp T I i))) (fun w2 I_ hw => uX6_keepUp d hT i hi hPl FU w2 I_ hw.1 hw.2) I (by
    unfold fX6_keepUp_0
    exact ⟨hp, rfl⟩))

def fX6_placeAt_0 (T : Topo) (i : Nat) (a1 : Int32) (Q : Int32 → Topo → IM → Prop)  (I : IM) : Prop :=
  (vp_in a1 (tL T (plA T i)) ∧ Q (I (plA T i) a1.toNatClampNeg) T I)
set_option maxHeartbeats 4000000 in
set_option maxRecDepth 100000 in
theorem sX6_placeAt_0 (d : Nat) {T : Topo} (hT : Lay T) (i : Nat) (a1 : Int32) (hi : i < 8) (hPl : Pl T)  {Q : Int32 → Topo → IM → Prop}   (I : IM) (h : fX6_placeAt_0 T i a1 Q  I) : J (d + 0) mX6_placeAt (PI Q) 0 0 0 [some (.ref (18 + 4 * i)), some (.int a1)] [] T I 0 0 := by
  unfold fX6_placeAt_0 at h
  refine J.aload_n dX6_placeAt_0 rfl rfl ?_
  refine J.getR (r := (plA T i)) dX6_placeAt_1 fX6_9 (hT.placesK hi) rfl (hPl.aR hi) ?_
  refine J.iload_n dX6_placeAt_4 rfl rfl ?_
  obtain ⟨hs1, h⟩ := h
  refine J.iald dX6_placeAt_5 (hPl.aK hi) rfl hs1 ?_
  exact J.iretQ dX6_placeAt_6 rfl (Nat.le_refl _) (Nat.le_refl _) h
set_option maxHeartbeats 4000000 in
set_option maxRecDepth 100000 in
theorem wX6_placeAt (d : Nat) {T : Topo} (hT : Lay T) (i : Nat) (a1 : Int32) (hi : i < 8) (hPl : Pl T) {Q : Int32 → Topo → IM → Prop} {I : IM} (h : fX6_placeAt_0 T i a1 Q I) : Ct (d + 0) mX6_placeAt [.ref (18 + 4 * i), .int a1] T I 0 0 (PI Q) :=
  Ct.ofJ (by decide +kernel) rfl (by intro v hv; revert v hv; simp [Value.category]) rfl (sX6_placeAt_0 d hT i a1 hi hPl I h)

def jX6_placeAt (T : Topo) (I : IM) (i : Nat) (a1 : Int32) : Int32 := (I (plA T i) a1.toNatClampNeg)
def jX6_placeAtK (T : Topo) (i : Nat) (a1 : Int32) : Prop := vp_in a1 (tL T (plA T i))
set_option maxRecDepth 10000 in
theorem qX6_placeAt (d : Nat) {T : Topo} {I : IM} (hT : Lay T) (i : Nat) (hi : i < 8) (a1 : Int32) (hPl : Pl T) (hp : (jX6_placeAtK T i a1)) : CtP (d + 0) mX6_placeAt [.ref (18 + 4 * i), .int a1] T I ((jX6_placeAt T I i a1)) :=
  wX6_placeAt d hT i a1 hi hPl (by
  unfold fX6_placeAt_0
  exact ⟨hp, ⟨by unfold jX6_placeAt; rfl, rfl, rfl⟩⟩)

def fX6_upAt_0 (T : Topo) (i : Nat) (a1 : Int32) (Q : Int32 → Topo → IM → Prop)  (I : IM) : Prop :=
  (vp_in a1 (tL T (plB T i)) ∧ Q (I (plB T i) a1.toNatClampNeg) T I)
set_option maxHeartbeats 4000000 in
set_option maxRecDepth 100000 in
theorem sX6_upAt_0 (d : Nat) {T : Topo} (hT : Lay T) (i : Nat) (a1 : Int32) (hi : i < 8) (hPl : Pl T)  {Q : Int32 → Topo → IM → Prop}   (I : IM) (h : fX6_upAt_0 T i a1 Q  I) : J (d + 0) mX6_upAt (PI Q) 0 0 0 [some (.ref (18 + 4 * i)), some (.int a1)] [] T I 0 0 := by
  unfold fX6_upAt_0 at h
  refine J.aload_n dX6_upAt_0 rfl rfl ?_
  refine J.getR (r := (plB T i)) dX6_upAt_1 fX6_15 (hT.placesK hi) rfl (hPl.bR hi) ?_
  refine J.iload_n dX6_upAt_4 rfl rfl ?_
  obtain ⟨hs1, h⟩ := h
  refine J.iald dX6_upAt_5 (hPl.bK hi) rfl hs1 ?_
  exact J.iretQ dX6_upAt_6 rfl (Nat.le_refl _) (Nat.le_refl _) h
set_option maxHeartbeats 4000000 in
set_option maxRecDepth 100000 in
theorem wX6_upAt (d : Nat) {T : Topo} (hT : Lay T) (i : Nat) (a1 : Int32) (hi : i < 8) (hPl : Pl T) {Q : Int32 → Topo → IM → Prop} {I : IM} (h : fX6_upAt_0 T i a1 Q I) : Ct (d + 0) mX6_upAt [.ref (18 + 4 * i), .int a1] T I 0 0 (PI Q) :=
  Ct.ofJ (by decide +kernel) rfl (by intro v hv; revert v hv; simp [Value.category]) rfl (sX6_upAt_0 d hT i a1 hi hPl I h)

def jX6_upAt (T : Topo) (I : IM) (i : Nat) (a1 : Int32) : Int32 := (I (plB T i) a1.toNatClampNeg)
def jX6_upAtK (T : Topo) (i : Nat) (a1 : Int32) : Prop := vp_in a1 (tL T (plB T i))
set_option maxRecDepth 10000 in
theorem qX6_upAt (d : Nat) {T : Topo} {I : IM} (hT : Lay T) (i : Nat) (hi : i < 8) (a1 : Int32) (hPl : Pl T) (hp : (jX6_upAtK T i a1)) : CtP (d + 0) mX6_upAt [.ref (18 + 4 * i), .int a1] T I ((jX6_upAt T I i a1)) :=
  wX6_upAt d hT i a1 hi hPl (by
  unfold fX6_upAt_0
  exact ⟨hp, ⟨by unfold jX6_upAt; rfl, rfl, rfl⟩⟩)

def fX6_gather_0 (T : Topo) (i : Nat) (i2 : Nat) (Q : Topo → IM → Prop) (K8 : Int32 → IM → Prop) (I : IM) : Prop :=
  K8 0 (up2 I (18 + 4 * i) 3 0)
def fX6_gather_8 (T : Topo) (i : Nat) (i2 : Nat) (Q : Topo → IM → Prop) (K8 : Int32 → IM → Prop) (v4 : Int32) (I : IM) : Prop :=
  ((((I 4 4) ≤ v4) → Q T I) ∧ ((¬ (I 4 4) ≤ v4) → (((jKeyAtK v4)) ∧ (((((jLateOf (jKeyAt I v4)) ≤ (I (17 + 4 * i2) 4)) → (((jLinesInK I (jKeyAt I v4))) ∧ (((jX8_isOfK I i2 1)) ∧ ((((jX8_isOf I i2 1) = 0) → (((jX5_nodesOnK I (jLinesIn I (jKeyAt I v4)))) ∧ (((jX6_gatherHostsK T I i (jLinesIn I (jKeyAt I v4)) 0 (jX5_nodesOn I (jLinesIn I (jKeyAt I v4))))) ∧ K8 (v4 + 1) (jX6_gatherHosts T I i (jLinesIn I (jKeyAt I v4)) 0 (jX5_nodesOn I (jLinesIn I (jKeyAt I v4))))))) ∧ ((¬ (jX8_isOf I i2 1) = 0) → (((jX6_gatherSparesK T I i i2 (jLinesIn I (jKeyAt I v4)))) ∧ K8 (v4 + 1) (jX6_gatherSpares T I i i2 (jLinesIn I (jKeyAt I v4))))))))) ∧ ((¬ (jLateOf (jKeyAt I v4)) ≤ (I (17 + 4 * i2) 4)) → Q T I))))))
set_option maxHeartbeats 4000000 in
set_option maxRecDepth 100000 in
theorem sX6_gather_0 (d : Nat) {T : Topo} (hT : Lay T) (i : Nat) (i2 : Nat) (hi : i < 8) (hi2 : i2 < 8) (hPl : Pl T)  {Q : Topo → IM → Prop} {K8 : Int32 → IM → Prop} (hK8 : ∀ (v4 : Int32) (I : IM), K8 v4 I → J (d + 3) mX6_gather (PV Q) 0 0 8 [some (.ref (18 + 4 * i)), some (.ref 1), some (.ref (17 + 4 * i2)), some (.ref 4), some (.int v4), none, none] [] T I 0 0) (I : IM) (h : fX6_gather_0 T i i2 Q K8 I) : J (d + 3) mX6_gather (PV Q) 0 0 0 [some (.ref (18 + 4 * i)), some (.ref 1), some (.ref (17 + 4 * i2)), some (.ref 4), none, none, none] [] T I 0 0 := by
  unfold fX6_gather_0 at h
  refine J.aload_n dX6_gather_0 rfl rfl ?_
  refine J.iconst (v := 0) dX6_gather_1 (by decide) ?_
  refine J.putI dX6_gather_2 fX6_43 (hT.placesK hi) rfl ?_
  refine J.iconst (v := 0) dX6_gather_5 (by decide) ?_
  refine J.istore (ls' := [some (.ref (18 + 4 * i)), some (.ref 1), some (.ref (17 + 4 * i2)), some (.ref 4), some (.int 0), none, none]) dX6_gather_6 rfl rfl ?_
  exact J.weaken (ls' := [some (.ref (18 + 4 * i)), some (.ref 1), some (.ref (17 + 4 * i2)), some (.ref 4), some (.int 0), none, none]) (And.intro rfl (And.intro rfl (And.intro rfl (And.intro rfl (And.intro rfl trivial))))) (hK8 0 (up2 I (18 + 4 * i) 3 0) h)
set_option maxHeartbeats 4000000 in
set_option maxRecDepth 100000 in
theorem sX6_gather_8 (d : Nat) {T : Topo} (hT : Lay T) (i : Nat) (i2 : Nat) (hi : i < 8) (hi2 : i2 < 8) (hPl : Pl T)  {Q : Topo → IM → Prop} {K8 : Int32 → IM → Prop} (hK8 : ∀ (v4 : Int32) (I : IM), K8 v4 I → J (d + 3) mX6_gather (PV Q) 0 0 8 [some (.ref (18 + 4 * i)), some (.ref 1), some (.ref (17 + 4 * i2)), some (.ref 4), some (.int v4), none, none] [] T I 0 0) (v4 : Int32) (I : IM) (h : fX6_gather_8 T i i2 Q K8 v4 I) : J (d + 3) mX6_gather (PV Q) 0 0 8 [some (.ref (18 + 4 * i)), some (.ref 1), some (.ref (17 + 4 * i2)), some (.ref 4), some (.int v4), none, none] [] T I 0 0 := by
  unfold fX6_gather_8 at h
  refine J.iload dX6_gather_8 rfl ?_
  refine J.aload_n dX6_gather_10 rfl rfl ?_
  refine J.getI dX6_gather_11 fX6_57 (hT.k 4 rfl) rfl ?_
  refine J.icmp_ge (tgt := 85) dX6_gather_14 (by decide) (fun hc1 => ?_) (fun hc1 => ?_)
  · have h := h.1 hc1
    exact J.vretQ dX6_gather_85 rfl (Nat.le_refl _) (Nat.le_refl _) h
  · have h := h.2 hc1
    refine J.aload_n dX6_gather_17 rfl rfl ?_
    refine J.iload dX6_gather_18 rfl ?_
    obtain ⟨hp2, h⟩ := h
    refine J.callVP (k := 4) (as := [.int v4]) (rest := []) dX6_gather_20 kX10_keyAt vX10_keyAt lX6_60 (hT.k 4 rfl) rfl rfl rfl rfl rfl (by omega) (Nat.le_refl _) (Nat.le_refl _) (qX10_keyAt (d + 2) hT v4 hp2) ?_
    refine J.istore (ls' := [some (.ref (18 + 4 * i)), some (.ref 1), some (.ref (17 + 4 * i2)), some (.ref 4), some (.int v4), some (.int (jKeyAt I v4)), none]) dX6_gather_23 rfl rfl ?_
    refine J.iload dX6_gather_25 rfl ?_
    refine J.callSP (as := [.int (jKeyAt I v4)]) (rest := []) dX6_gather_27 kX10_lateOf vX10_lateOf lX6_63 rfl rfl rfl (by omega) (Nat.le_refl _) (Nat.le_refl _) (qX10_lateOf (d + 2) hT (jKeyAt I v4) ) ?_
    refine J.aload_n dX6_gather_30 rfl rfl ?_
    refine J.getI dX6_gather_31 fX6_66 (hT.sliceK hi2) rfl ?_
    refine J.icmp_le (tgt := 38) dX6_gather_34 (by decide) (fun hc3 => ?_) (fun hc3 => ?_)
    · have h := h.1 hc3
      refine J.iload dX6_gather_38 rfl ?_
      obtain ⟨hp4, h⟩ := h
      refine J.callSP (as := [.int (jKeyAt I v4)]) (rest := []) dX6_gather_40 kX10_linesIn vX10_linesIn lX6_69 rfl rfl rfl (by omega) (Nat.le_refl _) (Nat.le_refl _) (qX10_linesIn (d + 1) hT (jKeyAt I v4) hp4) ?_
      refine J.istore (ls' := [some (.ref (18 + 4 * i)), some (.ref 1), some (.ref (17 + 4 * i2)), some (.ref 4), some (.int v4), some (.int (jKeyAt I v4)), some (.int (jLinesIn I (jKeyAt I v4)))]) dX6_gather_43 rfl rfl ?_
      refine J.aload_n dX6_gather_45 rfl rfl ?_
      refine J.iconst (v := 1) dX6_gather_46 (by decide) ?_
      obtain ⟨hp5, h⟩ := h
      refine J.callVP (k := (17 + 4 * i2)) (as := [.int 1]) (rest := []) dX6_gather_47 kX8_isOf vX8_isOf lX6_72 (hT.sliceK hi2) rfl rfl rfl rfl rfl (by omega) (Nat.le_refl _) (Nat.le_refl _) (qX8_isOf (d + 2) hT i2 hi2 1 hp5) ?_
      refine J.if_eq (tgt := 65) dX6_gather_50 (by decide) (fun hc6 => ?_) (fun hc6 => ?_)
      · have h := h.1 hc6
        refine J.aload_n dX6_gather_65 rfl rfl ?_
        refine J.aload_n dX6_gather_66 rfl rfl ?_
        refine J.iload dX6_gather_67 rfl ?_
        refine J.iconst (v := 0) dX6_gather_69 (by decide) ?_
        refine J.aload_n dX6_gather_70 rfl rfl ?_
        refine J.iload dX6_gather_71 rfl ?_
        obtain ⟨hp7, h⟩ := h
        refine J.callVP (k := 1) (as := [.int (jLinesIn I (jKeyAt I v4))]) (rest := [.int 0, .int (jLinesIn I (jKeyAt I v4)), .ref 1, .ref (18 + 4 * i)]) dX6_gather_73 kX5_nodesOn vX5_nodesOn lX6_79 (hT.k 1 rfl) rfl rfl rfl rfl rfl (by omega) (Nat.le_refl _) (Nat.le_refl _) (qX5_nodesOn (d + 1) hT (jLinesIn I (jKeyAt I v4)) hp7) ?_
        obtain ⟨hp8, h⟩ := h
        refine J.callVD (k := (18 + 4 * i)) (as := [.ref 1, .int (jLinesIn I (jKeyAt I v4)), .int 0, .int (jX5_nodesOn I (jLinesIn I (jKeyAt I v4)))]) (rest := []) dX6_gather_76 kX6_gatherHosts vX6_gatherHosts lX6_82 (hT.placesK hi) rfl rfl rfl rfl rfl (by omega) (Nat.le_refl _) (Nat.le_refl _) (qX6_gatherHosts (d + 1) hT i hi (jLinesIn I (jKeyAt I v4)) 0 (jX5_nodesOn I (jLinesIn I (jKeyAt I v4))) hPl hp8) ?_
        refine J.iinc (v := (v4 + 1)) (ls' := [some (.ref (18 + 4 * i)), some (.ref 1), some (.ref (17 + 4 * i2)), some (.ref 4), some (.int (v4 + 1)), some (.int (jKeyAt I v4)), some (.int (jLinesIn I (jKeyAt I v4)))]) dX6_gather_79 rfl (by rfl) rfl ?_
        refine J.goto (tgt := 8) dX6_gather_82 (by decide) ?_
        exact J.weaken (ls' := [some (.ref (18 + 4 * i)), some (.ref 1), some (.ref (17 + 4 * i2)), some (.ref 4), some (.int (v4 + 1)), none, none]) (And.intro rfl (And.intro rfl (And.intro rfl (And.intro rfl (And.intro rfl trivial))))) (hK8 (v4 + 1) (jX6_gatherHosts T I i (jLinesIn I (jKeyAt I v4)) 0 (jX5_nodesOn I (jLinesIn I (jKeyAt I v4)))) h)
      · have h := h.2 hc6
        refine J.aload_n dX6_gather_53 rfl rfl ?_
        refine J.aload_n dX6_gather_54 rfl rfl ?_
        refine J.aload_n dX6_gather_55 rfl rfl ?_
        refine J.aload_n dX6_gather_56 rfl rfl ?_
        refine J.iload dX6_gather_57 rfl ?_
        obtain ⟨hp9, h⟩ := h
        refine J.callVD (k := (18 + 4 * i)) (as := [.ref 1, .ref (17 + 4 * i2), .ref 4, .int (jLinesIn I (jKeyAt I v4))]) (rest := []) dX6_gather_59 kX6_gatherSpares vX6_gatherSpares lX6_75 (hT.placesK hi) rfl rfl rfl rfl rfl (by omega) (Nat.le_refl _) (Nat.le_refl _) (qX6_gatherSpares (d + 0) hT i hi i2 hi2 (jLinesIn I (jKeyAt I v4)) hPl hp9) ?_
        refine J.goto (tgt := 79) dX6_gather_62 (by decide) ?_
        refine J.iinc (v := (v4 + 1)) (ls' := [some (.ref (18 + 4 * i)), some (.ref 1), some (.ref (17 + 4 * i2)), some (.ref 4), some (.int (v4 + 1)), some (.int (jKeyAt I v4)), some (.int (jLinesIn I (jKeyAt I v4)))]) dX6_gather_79 rfl (by rfl) rfl ?_
        refine J.goto (tgt := 8) dX6_gather_82 (by decide) ?_
        exact J.weaken (ls' := [some (.ref (18 + 4 * i)), some (.ref 1), some (.ref (17 + 4 * i2)), some (.ref 4), some (.int (v4 + 1)), none, none]) (And.intro rfl (And.intro rfl (And.intro rfl (And.intro rfl (And.intro rfl trivial))))) (hK8 (v4 + 1) (jX6_gatherSpares T I i i2 (jLinesIn I (jKeyAt I v4))) h)
    · have h := h.2 hc3
      exact J.vretQ dX6_gather_37 rfl (Nat.le_refl _) (Nat.le_refl _) h
set_option maxHeartbeats 4000000 in
set_option maxRecDepth 100000 in
theorem wX6_gather (d : Nat) {T : Topo} (hT : Lay T) (i : Nat) (i2 : Nat) (hi : i < 8) (hi2 : i2 < 8) (hPl : Pl T) {Q : Topo → IM → Prop} (V8 : Int32 → IM → Prop) (μ8 : Int32 → IM → Nat) (vc8 : ∀ (v4 : Int32) (I : IM), V8 v4 I → fX6_gather_8 T i i2 Q (fun w4 I_ => V8 w4 I_ ∧ μ8 w4 I_ < μ8 v4 I) v4 I) {I : IM} (h : fX6_gather_0 T i i2 Q V8 I) : Ct (d + 3) mX6_gather [.ref (18 + 4 * i), .ref 1, .ref (17 + 4 * i2), .ref 4] T I 0 0 (PV Q) := by
  have all : ∀ n : Nat, (∀ (v4 : Int32) (I : IM), V8 v4 I → μ8 v4 I < n → J (d + 3) mX6_gather (PV Q) 0 0 8 [some (.ref (18 + 4 * i)), some (.ref 1), some (.ref (17 + 4 * i2)), some (.ref 4), some (.int v4), none, none] [] T I 0 0) := by
    intro n
    induction n with
    | zero => exact fun _ _ _ hn => absurd hn (Nat.not_lt_zero _)
    | succ n ih =>
      exact fun v4 I hv hn => sX6_gather_8 d hT i i2 hi hi2 hPl (fun w4 I_ hw => ih w4 I_ hw.1 (by have := hw.2; omega)) v4 I (vc8 v4 I hv)
  exact Ct.ofJ (by decide +kernel) rfl (by intro v hv; revert v hv; simp [Value.category]) rfl (sX6_gather_0 d hT i i2 hi hi2 hPl (fun w4 I_ hw => (all (μ8 w4 I_ + 1)) w4 I_ hw (Nat.lt_succ_self _)) I h)

def jX6_gatherI (T : Topo) (i : Nat) (i2 : Nat) : Nat → Int32 → IM → IM
  | 0 => fun _ I => I
  | n + 1 => fun v4 I => (if (I 4 4) ≤ v4 then I else (if (jLateOf (jKeyAt I v4)) ≤ (I (17 + 4 * i2) 4) then (if (jX8_isOf I i2 1) = 0 then (jX6_gatherI T i i2 n (v4 + 1) (jX6_gatherHosts T I i (jLinesIn I (jKeyAt I v4)) 0 (jX5_nodesOn I (jLinesIn I (jKeyAt I v4))))) else (jX6_gatherI T i i2 n (v4 + 1) (jX6_gatherSpares T I i i2 (jLinesIn I (jKeyAt I v4))))) else I))
def jX6_gatherO (T : Topo) (i : Nat) (i2 : Nat) : Nat → Int32 → IM → Prop
  | 0 => fun _ _ => False
  | n + 1 => fun v4 I => ((((I 4 4) ≤ v4) → True) ∧ ((¬ (I 4 4) ≤ v4) → (((jKeyAtK v4)) ∧ ((((jLateOf (jKeyAt I v4)) ≤ (I (17 + 4 * i2) 4)) → (((jLinesInK I (jKeyAt I v4))) ∧ (((jX8_isOfK I i2 1)) ∧ ((((jX8_isOf I i2 1) = 0) → (((jX5_nodesOnK I (jLinesIn I (jKeyAt I v4)))) ∧ (((jX6_gatherHostsK T I i (jLinesIn I (jKeyAt I v4)) 0 (jX5_nodesOn I (jLinesIn I (jKeyAt I v4))))) ∧ (jX6_gatherO T i i2 n (v4 + 1) (jX6_gatherHosts T I i (jLinesIn I (jKeyAt I v4)) 0 (jX5_nodesOn I (jLinesIn I (jKeyAt I v4)))))))) ∧ ((¬ (jX8_isOf I i2 1) = 0) → (((jX6_gatherSparesK T I i i2 (jLinesIn I (jKeyAt I v4)))) ∧ (jX6_gatherO T i i2 n (v4 + 1) (jX6_gatherSpares T I i i2 (jLinesIn I (jKeyAt I v4)))))))))) ∧ ((¬ (jLateOf (jKeyAt I v4)) ≤ (I (17 + 4 * i2) 4)) → True)))))
theorem jX6_gatherI_8 (T : Topo) (i : Nat) (i2 : Nat) (n : Nat) (v4 : Int32) (I : IM) : jX6_gatherI T i i2 (n + 1) v4 I = (if (I 4 4) ≤ v4 then I else (if (jLateOf (jKeyAt I v4)) ≤ (I (17 + 4 * i2) 4) then (if (jX8_isOf I i2 1) = 0 then (jX6_gatherI T i i2 n (v4 + 1) (jX6_gatherHosts T I i (jLinesIn I (jKeyAt I v4)) 0 (jX5_nodesOn I (jLinesIn I (jKeyAt I v4))))) else (jX6_gatherI T i i2 n (v4 + 1) (jX6_gatherSpares T I i i2 (jLinesIn I (jKeyAt I v4))))) else I)) := rfl
theorem jX6_gatherO_8 (T : Topo) (i : Nat) (i2 : Nat) (n : Nat) (v4 : Int32) (I : IM) : jX6_gatherO T i i2 (n + 1) v4 I = ((((I 4 4) ≤ v4) → True) ∧ ((¬ (I 4 4) ≤ v4) → (((jKeyAtK v4)) ∧ ((((jLateOf (jKeyAt I v4)) ≤ (I (17 + 4 * i2) 4)) → (((jLinesInK I (jKeyAt I v4))) ∧ (((jX8_isOfK I i2 1)) ∧ ((((jX8_isOf I i2 1) = 0) → (((jX5_nodesOnK I (jLinesIn I (jKeyAt I v4)))) ∧ (((jX6_gatherHostsK T I i (jLinesIn I (jKeyAt I v4)) 0 (jX5_nodesOn I (jLinesIn I (jKeyAt I v4))))) ∧ (jX6_gatherO T i i2 n (v4 + 1) (jX6_gatherHosts T I i (jLinesIn I (jKeyAt I v4)) 0 (jX5_nodesOn I (jLinesIn I (jKeyAt I v4)))))))) ∧ ((¬ (jX8_isOf I i2 1) = 0) → (((jX6_gatherSparesK T I i i2 (jLinesIn I (jKeyAt I v4)))) ∧ (jX6_gatherO T i i2 n (v4 + 1) (jX6_gatherSpares T I i i2 (jLinesIn I (jKeyAt I v4)))))))))) ∧ ((¬ (jLateOf (jKeyAt I v4)) ≤ (I (17 + 4 * i2) 4)) → True))))) := rfl
def jX6_gather (T : Topo) (I : IM) (i : Nat) (i2 : Nat) : IM := (jX6_gatherI T i i2 FU 0 (up2 I (18 + 4 * i) 3 0))
def jX6_gatherK (T : Topo) (I : IM) (i : Nat) (i2 : Nat) : Prop := (jX6_gatherO T i i2 FU 0 (up2 I (18 + 4 * i) 3 0))
set_option maxRecDepth 10000 in
set_option maxHeartbeats 1000000 in
theorem uX6_gather (d : Nat) {T : Topo} (hT : Lay T) (i : Nat) (i2 : Nat) (hi : i < 8) (hi2 : i2 < 8) (hPl : Pl T) {R : IM} : ∀ n : Nat, (∀ (v4 : Int32) (I : IM), jX6_gatherO T i i2 n v4 I → jX6_gatherI T i i2 n v4 I = R → J (d + 3) mX6_gather (PV (fun T' I' => T' = T ∧ I' = R)) 0 0 8 [some (.ref (18 + 4 * i)), some (.ref 1), some (.ref (17 + 4 * i2)), some (.ref 4), some (.int v4), none, none] [] T I 0 0) := by
  intro n
  induction n with
  | zero => exact fun _ _ hz => hz.elim
  | succ n ih =>
    exact fun v4 I hok hit => by
        rw [jX6_gatherO_8] at hok
        exact sX6_gather_8 d hT i i2 hi hi2 hPl (K8 := fun w4 I_ => (jX6_gatherO T i i2 n w4 I_ ∧ jX6_gatherI T i i2 n w4 I_ = R)) (fun w4 I_ hw => ih w4 I_ hw.1 hw.2) v4 I (by
          unfold fX6_gather_8
          exact ⟨fun hc1 => ⟨rfl, by rw [jX6_gatherI_8, if_pos hc1] at hit; exact hit⟩, fun hc1 => ⟨((hok).2 hc1).1, ⟨fun hc2 => ⟨((((hok).2 hc1).2).1 hc2).1, ⟨(((((hok).2 hc1).2).1 hc2).2).1, ⟨fun hc3 => ⟨(((((((hok).2 hc1).2).1 hc2).2).2).1 hc3).1, ⟨((((((((hok).2 hc1).2).1 hc2).2).2).1 hc3).2).1, ⟨((((((((hok).2 hc1).2).1 hc2).2).2).1 hc3).2).2, by rw [jX6_gatherI_8, if_neg hc1, if_pos hc2, if_pos hc3] at hit; exact hit⟩⟩⟩, fun hc3 => ⟨(((((((hok).2 hc1).2).1 hc2).2).2).2 hc3).1, ⟨(((((((hok).2 hc1).2).1 hc2).2).2).2 hc3).2, by rw [jX6_gatherI_8, if_neg hc1, if_pos hc2, if_neg hc3] at hit; exact hit⟩⟩⟩⟩⟩, fun hc2 => ⟨rfl, by rw [jX6_gatherI_8, if_neg hc1, if_neg hc2] at hit; exact hit⟩⟩⟩⟩)
set_option maxRecDepth 10000 in
set_option maxHeartbeats 1000000 in
theorem qX6_gather (d : Nat) {T : Topo} {I : IM} (hT : Lay T) (i : Nat) (hi : i < 8) (i2 : Nat) (hi2 : i2 < 8) (hPl : Pl T) (hp : (jX6_gatherK T I i i2)) : CtV (d + 3) mX6_gather [.ref (18 + 4 * i), .ref 1, .ref (17 + 4 * i2), .ref 4] T I (fun J_ => J_ = (jX6_gather T I i i2)) := by
  unfold jX6_gatherK at hp
  exact Ct.ofJ (by decide +kernel) rfl (by intro v hv; revert v hv; simp [Value.category]) rfl (sX6_gather_0 d hT i i2 hi hi2 hPl (K8 := fun w4 I_ => (jX6_gatherO T i i2 FU w4 I_ ∧ jX6_gatherI T i i2 FU w4 I_ = (jX6_gather T I i i2))) (fun w4 I_ hw => uX6_gather d hT i i2 hi hi2 hPl FU w4 I_ hw.1 hw.2) I (by
    unfold fX6_gather_0
    exact ⟨hp, rfl⟩))

end
