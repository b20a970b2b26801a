noncomputable section
/-! PLACES as a list -/
def hostsL (w u hs a m : Nat) : List Nat := ((List.range' a m).filter (fun x => hs.testBit x)).map (fun x => placeN w u x)
def St.wy (S : St) (s i : Nat) : List Nat := (S.wayA (S.sa s) (S.sb s)).1 i
def St.wn (S : St) (s : Nat) : Nat := (S.wayA (S.sa s) (S.sb s)).2
def St.setW (S : St) (s i : Nat) : Nat := setOf (S.wy s i)
def St.nodW (S : St) (s i : Nat) : Nat := nodesOf S (S.sa s) (S.wy s i)
def St.latW (S : St) (s i : Nat) : Nat := lateN S (S.wy s i)
def St.spL (S : St) (s i j m : Nat) : List Nat := (List.range' j m).flatMap fun j => if S.latW s j ≤ S.bd s ∧ S.setW s i &&& S.setW s j = 0 then hostsL (S.setW s i) (S.setW s j) (S.nodW s i &&& S.nodW s j) 0 S.nn else []
def St.gaL (S : St) (s i m : Nat) : List Nat := (List.range' i m).flatMap fun i => if S.latW s i ≤ S.bd s then (if S.kd s = 1 then S.spL s i 0 (S.wn s) else hostsL (S.setW s i) 0 (S.nodW s i) 0 S.nn) else []
def St.plist (S : St) (s : Nat) : List Nat := S.gaL s 0 (S.wn s)
/-- the rows of PLACES lie apart -/
def PlS (T : Topo) : Prop := ∀ i, i < 8 → (plA T i = 19 + 4 * i ∨ 136 ≤ plA T i) ∧ (plB T i = 20 + 4 * i ∨ 136 ≤ plB T i) ∧ plA T i < tN T ∧ plB T i < tN T ∧ tL T (plB T i) = tL T (plA T i) ∧ tL T (plA T i) ≤ 4374 ∧ (∀ j, j < 8 → plA T i ≠ plB T j) ∧ ∀ j, j < 8 → i ≠ j → plA T i ≠ plA T j ∧ plB T i ≠ plB T j
theorem PlS.D {T : Topo} (h : PlS T) : PlD T := fun i hi => by
  obtain ⟨h1, h2, -⟩ := h i hi
  omega
def cPl1 (T : Topo) (S : St) (i : Nat) (C : IM) : Prop := C (18 + 4 * i) 3 = nI (S.plist i).length ∧ (S.plist i).length ≤ tL T (plA T i) ∧ ∀ p, p < (S.plist i).length → C (plA T i) p = nI ((S.plist i).getD p 0)
def cPlc (T : Topo) (S : St) (C : IM) : Prop := ∀ i, i < 8 → C (18 + 4 * i) 2 = -1 ∨ (i < S.ns ∧ ∃ m, m ≤ S.nl ∧ C (18 + 4 * i) 2 = nI m ∧ (m = S.nl → cPl1 T S i C))
/-- how often rows may have been made -/
def phi (C : IM) : Nat → Nat
  | 0 => 0
  | i + 1 => phi C i + (C (18 + 4 * i) 2 + 1).toNatClampNeg
def RC (T : Topo) (S : St) (C : IM) : Prop := cNet S C ∧ cPass S C ∧ cDn S C ∧ cSl S C ∧ cTk S C ∧ cPl S C ∧ cWt S C ∧ (C 49 4 = 24 ∧ cBk S S.pl S.does 49 24 C) ∧ cTri C ∧ cWays S C ∧ cPlc T S C ∧ cDay S C ∧ cFnd S C ∧ cTry S C ∧ cSh S C
def Inv (_ : Nat) (T : Topo) (I : IM) (c sl : Nat) : Prop := Lay T ∧ Pl T ∧ PlS T ∧ (∃ S : St, S.ok ∧ RC T S I ∧ RM S I) ∧ c ≤ 136 + 2 * phi I 8 ∧ sl ≤ 18293 + 8748 * phi I 8
/-! what a component needs of the memory -/
theorem cNet.of {S : St} {C C' : IM} (h : cNet S C) (f : ∀ k j, (k = 1 ∧ (j = 3 ∨ j = 4)) ∨ k = 2 ∨ (6 ≤ k ∧ k < 15 ∧ j < 5) → C' k j = C k j) : cNet S C' := by
  obtain ⟨h1, h2, h3, h4⟩ := h
  refine ⟨by rw [f _ _ (by omega)]; exact h1, by rw [f _ _ (by omega)]; exact h2, fun a ha => by rw [f _ _ (by omega)]; exact h3 a ha, fun l hl => ?_⟩
  rw [f _ _ (by omega), f _ _ (by omega), f _ _ (by omega), f _ _ (by omega), f _ _ (by omega)]
  exact h4 l hl
theorem cPass.of {S : St} {C C' : IM} (h : cPass S C) (f : ∀ k j, 6 ≤ k → k < 15 → 5 ≤ j → C' k j = C k j) : cPass S C' := fun l hl => by
  rw [f _ _ (by omega) (by omega) (by omega), f _ _ (by omega) (by omega) (by omega), f _ _ (by omega) (by omega) (by omega)]
  exact h l hl
theorem cDn.of {S : St} {C C' : IM} (h : cDn S C) (f : C' 1 5 = C 1 5) : cDn S C' := by unfold cDn; rw [f]; exact h
theorem cSl.of {S : St} {C C' : IM} (h : cSl S C) (f : ∀ k j, (k = 15 ∧ j = 1) ∨ (∃ s, s < 8 ∧ k = 17 + 4 * s ∧ j ≤ 10) → C' k j = C k j) : cSl S C' := by
  refine ⟨by rw [f _ _ (by omega)]; exact h.1, fun s hs => ?_⟩
  have e : ∀ j, j ≤ 10 → C' (17 + 4 * s) j = C (17 + 4 * s) j := fun j hj => f _ _ (.inr ⟨s, hs, rfl, hj⟩)
  rw [e 0 (by omega), e 1 (by omega), e 2 (by omega), e 3 (by omega), e 4 (by omega), e 5 (by omega), e 6 (by omega), e 7 (by omega), e 8 (by omega), e 9 (by omega), e 10 (by omega)]
  exact h.2 s hs
theorem cTk.of {S : St} {C C' : IM} (h : cTk S C) (f : ∀ s, s < S.ns → C' (17 + 4 * s) 11 = C (17 + 4 * s) 11) : cTk S C' := fun s hs => by rw [f s hs]; exact h s hs
theorem cPl.of {S : St} {C C' : IM} (h : cPl S C) (f : ∀ s, s < 8 → C' (17 + 4 * s) 12 = C (17 + 4 * s) 12) : cPl S C' := fun s hs => by rw [f s hs]; exact h s hs
theorem cWt.of {S : St} {C C' : IM} (h : cWt S C) (f : ∀ s j, s < 8 → 13 ≤ j → j ≤ 17 → C' (17 + 4 * s) j = C (17 + 4 * s) j) : cWt S C' := fun s hs => by
  rw [f s _ hs (by omega) (by omega), f s _ hs (by omega) (by omega), f s _ hs (by omega) (by omega), f s _ hs (by omega) (by omega), f s _ hs (by omega) (by omega)]
  exact h s hs
theorem cBk.of {S : St} {P : Nat → Nat} {D : Nat → Nat → Bool} {b n : Nat} {C C' : IM} (h : cBk S P D b n C) (f : ∀ k, b < k → k < b + 5 → C' k = C k) : cBk S P D b n C' := fun t ht => by
  obtain ⟨h1, h2⟩ := h t ht
  refine ⟨fun l hl => ?_, fun a ha => by rw [f _ (by omega) (by omega)]; exact h2 a ha⟩
  rw [f _ (by omega) (by omega), f (b + 1 + 1) (by omega) (by omega), f (b + 1 + 2) (by omega) (by omega)]
  exact h1 l hl
theorem cTri.of {C C' : IM} (h : cTri C) (f : ∀ k, 57 < k → k < 62 → C' k = C k) : cTri C' := by
  obtain ⟨h1, h2, h3⟩ := h
  refine ⟨fun j hj => ?_, fun j hj => by rw [f _ (by omega) (by omega)]; exact h2 j hj, fun j hj => by rw [f _ (by omega) (by omega)]; exact h3 j hj⟩
  rw [f 58 (by omega) (by omega), f 59 (by omega) (by omega)]
  exact h1 j hj
theorem cWays.of {S : St} {C C' : IM} (h : cWays S C) (f : ∀ k, k = 4 ∨ k = 5 → C' k = C k) : cWays S C' := by
  unfold cWays KeysC
  rw [f 4 (.inl rfl), f 5 (.inr rfl)]
  exact h
theorem cPlc.of {T : Topo} {S : St} {C C' : IM} (hT : PlS T) (h : cPlc T S C) (f : ∀ i, i < 8 → C' (18 + 4 * i) 2 = C (18 + 4 * i) 2 ∧ C' (18 + 4 * i) 3 = C (18 + 4 * i) 3 ∧ C' (plA T i) = C (plA T i)) : cPlc T S C' := fun i hi => by
  obtain ⟨f1, f2, f3⟩ := f i hi
  unfold cPl1
  rw [f1, f2, f3]
  exact h i hi
theorem cDay.of {S : St} {C C' : IM} (h : cDay S C) (f : C' 69 = C 69) : cDay S C' := by unfold cDay; rw [f]; exact h
theorem cFnd.of {S : St} {C C' : IM} (h : cFnd S C) (f : C' 0 7 = C 0 7) : cFnd S C' := by unfold cFnd; rw [f]; exact h
theorem cTry.of {S : St} {C C' : IM} (h : cTry S C) (f : C' 56 11 = C 56 11) : cTry S C' := by unfold cTry; rw [f]; exact h
theorem cSh.of {S : St} {C C' : IM} (h : cSh S C) (f : ∀ k, 71 ≤ k → k < 79 → C' k = C k) : cSh S C' := fun t ht => by
  rw [f _ (by omega) (by omega), f (72 + 2 * t) (by omega) (by omega)]
  exact h t ht
theorem phi_of {C C' : IM} (f : ∀ i, i < 8 → C' (18 + 4 * i) 2 = C (18 + 4 * i) 2) : phi C' 8 = phi C 8 := by
  simp only [phi]
  rw [f 0 (by omega), f 1 (by omega), f 2 (by omega), f 3 (by omega), f 4 (by omega), f 5 (by omega), f 6 (by omega), f 7 (by omega)]
theorem RC.of {T : Topo} {S : St} {C C' : IM} (hT : PlS T) (h8n : S.ns ≤ 8) (h : RC T S C) (f : ∀ k, k < 79 ∨ 136 ≤ k → C' k = C k) : RC T S C' := by
  obtain ⟨h1, h2, h3, h4, h5, h6, h7, ⟨h8, h8'⟩, h9, h10, h11, h12, h13, h14, h15⟩ := h
  refine ⟨h1.of fun k j q => ?_, h2.of fun k j q1 q2 q3 => ?_, h3.of ?_, h4.of fun k j q => ?_, h5.of fun s hs => ?_, h6.of fun s hs => ?_, h7.of fun s j hs q1 q2 => ?_, ⟨?_, h8'.of fun k q1 q2 => f k (by omega)⟩, h9.of fun k q1 q2 => f k (by omega), h10.of fun k q => f k (by omega), h11.of hT fun i hi => ⟨?_, ?_, ?_⟩, h12.of (f _ (by omega)), h13.of ?_, h14.of ?_, h15.of fun k q1 q2 => f k (by omega)⟩
  · rw [f k (by omega)]
  · rw [f k (by omega)]
  · rw [f _ (by omega)]
  · rw [f k (by rcases q with q | ⟨s, q1, q2, q3⟩ <;> omega)]
  · rw [f _ (by omega)]
  · rw [f _ (by omega)]
  · rw [f _ (by omega)]
  · rw [f _ (by omega)]; exact h8
  · rw [f _ (by omega)]
  · rw [f _ (by omega)]
  · exact f _ (by have := (hT i hi).1; omega)
  · rw [f _ (by omega)]
  · rw [f _ (by omega)]
theorem RM.of {S : St} {M M' : IM} (h : RM S M) (f : ∀ k, 79 ≤ k → k < 136 → M' k = M k) : RM S M' := by
  unfold RM mNet mPass mSl mWt mPl mDay mFnd mTry mSh
  rw [f 79 (by omega) (by omega), f 80 (by omega) (by omega), f 81 (by omega) (by omega), f 82 (by omega) (by omega), f 83 (by omega) (by omega), f 84 (by omega) (by omega), f 85 (by omega) (by omega), f 86 (by omega) (by omega), f 87 (by omega) (by omega), f 88 (by omega) (by omega), f 89 (by omega) (by omega)]
  rw [f 90 (by omega) (by omega), f 91 (by omega) (by omega), f 92 (by omega) (by omega), f 93 (by omega) (by omega), f 94 (by omega) (by omega), f 95 (by omega) (by omega), f 96 (by omega) (by omega), f 97 (by omega) (by omega), f 98 (by omega) (by omega), f 99 (by omega) (by omega), f 100 (by omega) (by omega)]
  rw [f 101 (by omega) (by omega), f 102 (by omega) (by omega), f 103 (by omega) (by omega), f 104 (by omega) (by omega), f 105 (by omega) (by omega), f 106 (by omega) (by omega), f 107 (by omega) (by omega), f 108 (by omega) (by omega), f 109 (by omega) (by omega), f 110 (by omega) (by omega), f 111 (by omega) (by omega), f 112 (by omega) (by omega), f 113 (by omega) (by omega), f 114 (by omega) (by omega)]
  exact h
theorem phi_le {T : Topo} {S : St} {C : IM} (h9 : S.nl ≤ 9) (h : cPlc T S C) : phi C 8 ≤ 80 := by
  have h1 : ∀ i, i < 8 → (C (18 + 4 * i) 2 + 1).toNatClampNeg ≤ 10 := by
    intro i hi
    rcases h i hi with h | ⟨-, m, hm, h, -⟩
    · rw [h]; decide
    · rw [h, nI_1, nI_clamp (by omega)]; omega
  have h2 : ∀ n, n ≤ 8 → phi C n ≤ n * 10 := by
    intro n
    induction n with
    | zero => intro _; exact Nat.le_refl _
    | succ n ih =>
      intro hn
      have := ih (by omega)
      have := h1 n (by omega)
      unfold phi
      omega
  exact h2 8 (Nat.le_refl _)
theorem RC.plc {T : Topo} {S : St} {C : IM} (h : RC T S C) : cPlc T S C := h.2.2.2.2.2.2.2.2.2.2.1
theorem Inv.room {k : Nat} {T : Topo} {I : IM} {c sl : Nat} (h : Inv k T I c sl) : Lay T ∧ c ≤ 600000 ∧ sl ≤ 7302250 := by
  obtain ⟨h1, -, -, ⟨S, hS, hC, -⟩, h3, h4⟩ := h
  have := phi_le hS.1.2.1 hC.plc
  exact ⟨h1, by omega, by omega⟩
/-- a call that makes no rows -/
theorem stp {k : Nat} {T : Topo} {I : IM} {c sl : Nat} (hI : Inv k T I c sl) {Mx Mm : Mth} {as : List Value} {K1 : Prop} {X : Int32} {C1 : IM} {K2 : IM → Prop} {Y : IM → Int32} {M2 : IM → IM}
    (q1 : Lay T → K1 → CtI 20 Mx (.ref 0 :: as) T I (fun x J => x = X ∧ J = C1)) (q2 : Lay T → K2 C1 → CtI 20 Mm (.ref 79 :: as) T C1 (fun x J => x = Y C1 ∧ J = M2 C1))
    (f1 : PlD T → K1 → ∀ k, 79 ≤ k → k < 136 → C1 k = I k) (f2 : ∀ k, k < 79 ∨ 136 ≤ k → M2 C1 k = C1 k) (fp : ∀ i, i < 8 → C1 (18 + 4 * i) 2 = I (18 + 4 * i) 2)
    (sim : ∀ (S : St) (M : IM), PlS T → S.ok → RC T S I → RM S M → K1 ∧ K2 M ∧ X = Y M ∧ ∃ S' : St, S'.ok ∧ RC T S' C1 ∧ RM S' (M2 M)) : StpC (Inv (k + 1)) Mx Mm as T I c sl := by
  have hr := hI.room
  obtain ⟨hT, hP, hPs, ⟨S, hS, hC, hM⟩, hc, hs⟩ := hI
  obtain ⟨k1, -⟩ := sim S I hPs hS hC hM
  obtain ⟨-, k2, e, S', hS', hC', hM'⟩ := sim S C1 hPs hS hC (hM.of (f1 hPs.D k1))
  refine ⟨0, 0, _, q1 hT k1, by omega, by omega, fun x T1 I1 h1 => ?_⟩
  obtain ⟨rfl, rfl, rfl⟩ := h1
  refine ⟨hT, 0, 0, _, q2 hT k2, by omega, by omega, fun y T2 I2 h2 => ?_⟩
  obtain ⟨rfl, rfl, rfl⟩ := h2
  have hph : phi (M2 I1) 8 = phi I 8 := by
    rw [phi_of (C := I1) fun i hi => by rw [f2 _ (by omega)], phi_of fp]
  refine ⟨e, hT, hP, hPs, ⟨S', hS', hC'.of hPs hS'.2.1.1 f2, hM'⟩, ?_, ?_⟩
  · rw [hph]; omega
  · rw [hph]; omega
end
