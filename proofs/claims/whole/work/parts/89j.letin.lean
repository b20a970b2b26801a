noncomputable section
def gB (P : Prop) : Bool := @decide P (Classical.propDecidable P)
theorem gB_iff {P : Prop} : gB P = true ↔ P := by unfold gB; exact @decide_eq_true_iff P (Classical.propDecidable P)
theorem gB_no {P : Prop} : ¬ gB P = true ↔ ¬ P := not_congr gB_iff
/-- the first PLACE that will do: its number and itself -/
def fstG (g : Nat → Bool) : List Nat → Nat → Option (Nat × Nat)
  | [], _ => none
  | p :: r, k => if g p = true then some (k, p) else fstG g r (k + 1)
section PL
variable {T : Topo} {S : St} {C M : IM} {s : Nat}
def St.up' (S : St) (p : Nat) : Prop := (wayN p ||| spaN p) &&& S.dn = 0
def St.lnP (S : St) (P : Nat → Nat) (D : Nat → Nat → Bool) (n s p : Nat) : Prop := ∀ t, t < n → S.linesOk (put P s p) D t
def St.wkP (S : St) (P : Nat → Nat) (D : Nat → Nat → Bool) (n s p : Nat) : Prop := ∀ t, t < n → S.worksOk (put P s p) D t
theorem mem_hostsL {a u h m p : Nat} (hp : p ∈ hostsL a u h 0 m) : ∃ x, x < m ∧ h.testBit x = true ∧ p = placeN a u x := by
  unfold hostsL at hp
  rw [List.mem_map] at hp
  obtain ⟨x, hx, rfl⟩ := hp
  rw [List.mem_filter] at hx
  obtain ⟨h1, h2⟩ := hx
  have := List.mem_range'_1.mp h1
  exact ⟨x, by omega, h2, rfl⟩
theorem plist_mem (hN : S.netOk) {p : Nat} (h : p ∈ S.plist s) : ∃ w u x, CurOk S s w u x ∧ p = S.at' s w u x := by
  have h6 := hN.1
  unfold St.plist St.gaL at h
  rw [List.mem_flatMap] at h
  obtain ⟨w, hw, h⟩ := h
  have hw := List.mem_range'_1.mp hw
  split at h
  · split at h
    · rename_i hk
      unfold St.spL at h
      rw [List.mem_flatMap] at h
      obtain ⟨u, hu, h⟩ := h
      have hu := List.mem_range'_1.mp hu
      split at h
      · rename_i hd
        obtain ⟨x, h1, h2, rfl⟩ := mem_hostsL h
        rw [Nat.testBit_and, Bool.and_eq_true] at h2
        exact ⟨w, u, x, ⟨by omega, by omega, h2.1, fun _ => ⟨by omega, hd.2⟩, by omega⟩, by unfold St.at'; rw [if_pos hk]⟩
      · cases h
    · rename_i hk
      obtain ⟨x, h1, h2, rfl⟩ := mem_hostsL h
      exact ⟨w, 0, x, ⟨by omega, by omega, h2, fun q => absurd q hk, by omega⟩, by unfold St.at'; rw [if_neg hk]⟩
  · cases h
theorem place_facts (hN : S.netOk) (hsl : S.slOk) (hss : s < S.ns) {p : Nat} (h : p ∈ S.plist s) : (∃ w u x, S.isPl s w u x ∧ p = placeN (setOf w) (setOf u) x) ∧ p ≠ 0 ∧ p < 2 ^ 21 ∧ wayN p < 2 ^ S.nl ∧ spaN p < 2 ^ S.nl ∧ wayN p &&& spaN p = 0 ∧ hosN p < S.nn := by
  obtain ⟨w, u, x, h1, rfl⟩ := plist_mem hN h
  obtain ⟨c1, c2, c3, c4, c5, c6, c7, c8, c9, c10, c11⟩ := cur_facts hN hsl hss h1
  rw [c5, c6, c7]
  exact ⟨⟨_, _, x, c1, c2⟩, c3, c4, c8, c9, c10, c11⟩
theorem lines_nI {p : Nat} (hp : p < 2 ^ 31) : jLinesOf (nI p) = nI (wayN p ||| spaN p) := by
  unfold jLinesOf
  rw [way_nI hp, spa_nI hp, or_nI]
theorem up_C (hC : RC T S C) {p : Nat} (hp : p < 2 ^ 31) : (jLinesOf (nI p) &&& C 1 5 = 0) = S.up' p := by
  have w9 : wayN p < 512 := Nat.mod_lt _ (by decide)
  have u9 : spaN p < 512 := Nat.mod_lt _ (by decide)
  have : wayN p ||| spaN p < 2 ^ 9 := or_lt (by omega) (by omega)
  rw [lines_nI hp, hC.dnC]
  exact propext (and0 (by omega))
theorem plOk_put {P : Nat → Nat} (h : S.plOk P) (hss : s < S.ns) {p : Nat} (hp : ∃ w u x, S.isPl s w u x ∧ p = placeN (setOf w) (setOf u) x) : S.plOk (put P s p) := fun j hj c => by
  by_cases e : j = s
  · subst e
    rw [put_at]
    exact ⟨hss, hp⟩
  · rw [put_ne _ _ e] at c ⊢
    exact h j hj c
/-- the book's two questions, of what is IN -/
theorem holds_C (hS : S.ok) (hC : RC T S C) (hss : s < S.ns) (h0 : S.pl s = 0) {p : Nat} (hp : p ∈ S.plist s) : (jX0_linesHoldK C 49 s (nI p) (C (17 + 4 * s) 11) ∧ (jX0_linesHold C 49 s (nI p) (C (17 + 4 * s) 11) = 0 ↔ ¬ S.lnP S.pl S.does 24 s p)) ∧ (jX0_hostHoldsK C 49 s (nI p) (C (17 + 4 * s) 11) ∧ (jX0_hostHolds C 49 s (nI p) (C (17 + 4 * s) 11) = 0 ↔ ¬ S.wkP S.pl S.does 24 s p)) := by
  have h8 := hS.2.1.1
  obtain ⟨-, f1, f2, f3, f4, f5, f6⟩ := place_facts hS.1 hS.2.1 hss hp
  rw [hC.2.2.2.2.1 s hss]
  exact ⟨linesHold_S hS.2.1 hS.1 (by omega) hss h0 (by omega) f1 f3 f5 hC.1 hC.2.2.2.2.2.2.2.1.1 (need_C hS hC hss) (tks_lt s) (fun t ht => tks_bit ht) hC.2.2.2.2.2.2.2.1.2 (fun t ht => (hS.2.2.2.2.2 t ht).1),
    hostHolds_S hS.2.1 hS.1 (by omega) hss h0 (by omega) f1 f6 hC.1 hC.2.2.2.2.2.2.2.1.1 (hC.2.2.2.1.2 s (by omega)).2.2.2.2.2.2.1 (tks_lt s) (fun t ht => tks_bit ht) hC.2.2.2.2.2.2.2.1.2 (fun t ht => (hS.2.2.2.2.2 t ht).2)⟩
def St.good (S : St) (s p : Nat) : Bool := gB (S.up' p ∧ S.lnP S.pl S.does 24 s p ∧ S.wkP S.pl S.does 24 s p)
theorem good_iff {p : Nat} : S.good s p = true ↔ S.up' p ∧ S.lnP S.pl S.does 24 s p ∧ S.wkP S.pl S.does 24 s p := gB_iff
theorem comeIn_ok (hT : PlS T) (hS : S.ok) (hC : RC T S C) (hss : s < S.ns) (h0 : S.pl s = 0) {p : Nat} (hp : p ∈ S.plist s) (hl : S.lnP S.pl S.does 24 s p) (hw : S.wkP S.pl S.does 24 s p) : jX11_comeInK C s (nI p) ∧ (S.s_pl (put S.pl s p)).ok ∧ RC T (S.s_pl (put S.pl s p)) (jX11_comeInM C s (nI p)) := by
  have h8 := hS.2.1.1
  have h6 := hS.1.1
  obtain ⟨f0, f1, f2, f3, f4, f5, f6⟩ := place_facts hS.1 hS.2.1 hss hp
  obtain ⟨X, hX⟩ : ∃ X, X = up2 C (17 + 4 * s) 12 (nI p) := ⟨_, rfl⟩
  have F : ∀ k j, ¬ (k = 17 + 4 * s ∧ j = 12) → X k j = C k j := fun k j q => by rw [hX, up2_ap, if_neg q]
  have F' : ∀ k, k ≠ 17 + 4 * s → X k = C k := fun k q => funext fun j => F k j (by omega)
  have nd : jX8_needed X s = nI (S.need s) := by
    have : jX8_needed X s = jX8_needed C s := by unfold jX8_needed; rw [F _ 0 (by omega), F _ 5 (by omega), F _ 3 (by omega)]
    rw [this]; exact need_C hS hC hss
  obtain ⟨b1, b2, b3⟩ := come_S (S := S) (P := S.pl) (D := S.does) (C := X) (b := 49) (n := 24) (s := s) (p := p) (wh := S.tks s) hS.2.1 hS.1 (by omega) hss h0 (.inl rfl) (by omega) f1 f3 f4 (by omega) (by rw [F _ _ (by omega)]; exact hC.1.2.1) (by rw [F _ _ (by omega)]; exact hC.2.2.2.2.2.2.2.1.1) nd (by rw [F _ _ (by omega)]; exact (hC.2.2.2.1.2 s (by omega)).2.2.2.2.2.2.1) (tks_lt s) (fun t ht => tks_bit ht) (hC.2.2.2.2.2.2.2.1.2.of fun k q1 q2 => F' k (by omega))
  unfold jX11_comeInK jX11_comeInM
  rw [← hX, hC.2.2.2.2.1 s hss]
  refine ⟨b1, ok_setPl hS (plOk_put hS.2.2.2.2.1 hss f0) (fun t ht => ⟨hl t ht, hw t ht⟩), RC.setPl hT hS hC (fun k j q1 q2 q3 => ?_) (fun j hj => ?_) b2⟩
  · rw [b3 k (by omega)]; exact F k j (by omega)
  · rw [b3 _ (by omega)]
    by_cases e : j = s
    · rw [e, hX, up2_at, put_at]
    · rw [F _ _ (by omega), put_ne _ _ e]; exact hC.2.2.2.2.2.1 j hj
theorem comeIn_fr (hS : S.ok) (hC : RC T S C) (hss : s < S.ns) (h0 : S.pl s = 0) {p : Nat} (hp : p ∈ S.plist s) : ∀ k, ¬ (49 < k ∧ k < 54) → k ≠ 17 + 4 * s → jX11_comeInM C s (nI p) k = C k := by
  have h8 := hS.2.1.1
  have h6 := hS.1.1
  obtain ⟨f0, f1, f2, f3, f4, f5, f6⟩ := place_facts hS.1 hS.2.1 hss hp
  obtain ⟨X, hX⟩ : ∃ X, X = up2 C (17 + 4 * s) 12 (nI p) := ⟨_, rfl⟩
  have F : ∀ k j, ¬ (k = 17 + 4 * s ∧ j = 12) → X k j = C k j := fun k j q => by rw [hX, up2_ap, if_neg q]
  have F' : ∀ k, k ≠ 17 + 4 * s → X k = C k := fun k q => funext fun j => F k j (by omega)
  have nd : jX8_needed X s = nI (S.need s) := by
    have : jX8_needed X s = jX8_needed C s := by unfold jX8_needed; rw [F _ 0 (by omega), F _ 5 (by omega), F _ 3 (by omega)]
    rw [this]; exact need_C hS hC hss
  obtain ⟨b1, b2, b3⟩ := come_S (S := S) (P := S.pl) (D := S.does) (C := X) (b := 49) (n := 24) (s := s) (p := p) (wh := S.tks s) hS.2.1 hS.1 (by omega) hss h0 (.inl rfl) (by omega) f1 f3 f4 (by omega) (by rw [F _ _ (by omega)]; exact hC.1.2.1) (by rw [F _ _ (by omega)]; exact hC.2.2.2.2.2.2.2.1.1) nd (by rw [F _ _ (by omega)]; exact (hC.2.2.2.1.2 s (by omega)).2.2.2.2.2.2.1) (tks_lt s) (fun t ht => tks_bit ht) (hC.2.2.2.2.2.2.2.1.2.of fun k q1 q2 => F' k (by omega))
  intro k q1 q2
  unfold jX11_comeInM
  rw [← hX, hC.2.2.2.2.1 s hss, b3 k (by omega)]
  exact F' k q2
theorem drop_cons {L : List Nat} {k p : Nat} {r : List Nat} (h : L.drop k = p :: r) : k < L.length ∧ L.getD k 0 = p ∧ L.drop (k + 1) = r ∧ p ∈ L := by
  have hk : k < L.length := by
    by_cases c : k < L.length
    · exact c
    · rw [List.drop_eq_nil_of_le (by omega)] at h; cases h
  rw [List.drop_eq_getElem_cons hk] at h
  have := List.cons.inj h
  refine ⟨hk, ?_, this.2, ?_⟩
  · rw [List.getD_eq_getElem?_getD, List.getElem?_eq_getElem hk]; exact this.1
  · rw [← this.1]; exact List.getElem_mem _
/-- the class lets a SLICE in -/
theorem letIn_C (hT : PlS T) (hS : S.ok) (hC : RC T S C) (hss : s < S.ns) (h0 : S.pl s = 0) (hp1 : cPl1 T S s C) : ∀ (L : List Nat) (k : Nat), (S.plist s).drop k = L → k ≤ (S.plist s).length → ∃ B, B ≤ L.length + 1 ∧
    ((fstG (S.good s) L k = none → Ends (fun n (v : Int32) => jLetInRI T s n v C) (fun n v => jLetInRO T s n v C) B (nI k) (-1000005, fnd C)) ∧
    ∀ i p, fstG (S.good s) L k = some (i, p) → p ∈ S.plist s ∧ S.good s p = true ∧ Ends (fun n (v : Int32) => jLetInRI T s n v C) (fun n v => jLetInRO T s n v C) B (nI k) (nI i, jX11_comeInM C s (nI p)))
  | [], k, hL, hk => by
    have h8 := hS.2.1.1
    have hlen := plist_len hS.1 s
    have hk' : (S.plist s).length ≤ k := List.drop_eq_nil_iff.mp hL
    refine ⟨1, Nat.le_refl _, fun _ => Ends.one fun n => ?_, fun i p e => by cases e⟩
    rw [jLetInRO_57, jLetInRI_57, hp1.1]
    simp (disch := omega) only [nI_leI, eq_true hk', ↓reduceIte, not_true_eq_false, not_false_eq_true, true_imp_iff, false_imp_iff, implies_true, and_true, true_and, eq_self]
  | p :: r, k, hL, hk => by
    have h8 := hS.2.1.1
    have hlen := plist_len hS.1 s
    obtain ⟨d1, d2, d3, d4⟩ := drop_cons hL
    obtain ⟨f0, f1, f2, f3, f4, f5, f6⟩ := place_facts hS.1 hS.2.1 hss d4
    obtain ⟨B, hB, i1, i2⟩ := letIn_C hT hS hC hss h0 hp1 r (k + 1) d3 (by omega)
    obtain ⟨⟨g1, g2⟩, g3, g4⟩ := holds_C hS hC hss h0 d4
    have c0 : ¬ (S.plist s).length ≤ k := by omega
    have pa : jX6_placeAt T C s (nI k) = nI p := by
      unfold jX6_placeAt
      rw [nI_clamp (by omega), hp1.2.2 k d1, d2]
    have pk : jX6_placeAtK T s (nI k) := by
      unfold jX6_placeAtK
      exact (vp_nI (by omega)).mpr (by have := hp1.2.1; omega)
    have up := up_C hC (p := p) (by omega)
    have skip : S.good s p = true ∨ Go (fun n (v : Int32) => jLetInRI T s n v C) (fun n v => jLetInRO T s n v C) 1 (nI k) (nI (k + 1)) := by
      by_cases u : S.up' p
      · by_cases l : S.lnP S.pl S.does 24 s p
        · by_cases w : S.wkP S.pl S.does 24 s p
          · exact .inl (good_iff.mpr ⟨u, l, w⟩)
          · have l' : ¬ jX0_linesHold C 49 s (nI p) (C (17 + 4 * s) 11) = 0 := fun q => g2.mp q l
            have w' := g4.mpr w
            refine .inr (Go.one fun n => ?_)
            rw [jLetInRO_57, jLetInRI_57, hp1.1, pa, nI_1]
            simp (disch := omega) only [nI_leI, eq_false c0, eq_true pk, up, eq_true u, eq_true g1, eq_false l', eq_true g3, eq_true w', ↓reduceIte, not_true_eq_false, not_false_eq_true, true_imp_iff, false_imp_iff, implies_true, and_true, true_and, eq_self]
            first | exact id | exact ⟨id, rfl⟩
        · have l' := g2.mpr l
          refine .inr (Go.one fun n => ?_)
          rw [jLetInRO_57, jLetInRI_57, hp1.1, pa, nI_1]
          simp (disch := omega) only [nI_leI, eq_false c0, eq_true pk, up, eq_true u, eq_true g1, eq_true l', ↓reduceIte, not_true_eq_false, not_false_eq_true, true_imp_iff, false_imp_iff, implies_true, and_true, true_and, eq_self]
          first | exact id | exact ⟨id, rfl⟩
      · refine .inr (Go.one fun n => ?_)
        rw [jLetInRO_57, jLetInRI_57, hp1.1, pa, nI_1]
        simp (disch := omega) only [nI_leI, eq_false c0, eq_true pk, up, eq_false u, ↓reduceIte, not_true_eq_false, not_false_eq_true, true_imp_iff, false_imp_iff, implies_true, and_true, true_and, eq_self]
        first | exact id | exact ⟨id, rfl⟩
    by_cases g : S.good s p = true
    · obtain ⟨u, l, w⟩ := good_iff.mp g
      have l' : ¬ jX0_linesHold C 49 s (nI p) (C (17 + 4 * s) 11) = 0 := fun q => g2.mp q l
      have w' : ¬ jX0_hostHolds C 49 s (nI p) (C (17 + 4 * s) 11) = 0 := fun q => g4.mp q w
      obtain ⟨ck, -, -⟩ := comeIn_ok hT hS hC hss h0 d4 l w
      unfold fstG
      rw [if_pos g]
      refine ⟨1, by simp, fun e => by (cases e), fun i q e => ?_⟩
      have e' := Option.some.inj e
      have e1 : k = i := congrArg Prod.fst e'
      have e2 : p = q := congrArg Prod.snd e'
      subst e1 e2
      refine ⟨d4, g, Ends.one fun n => ?_⟩
      rw [jLetInRO_57, jLetInRI_57, hp1.1, pa]
      simp (disch := omega) only [nI_leI, eq_false c0, eq_true pk, up, eq_true u, eq_true g1, eq_false l', eq_true g3, eq_false w', eq_true ck, ↓reduceIte, not_true_eq_false, not_false_eq_true, true_imp_iff, false_imp_iff, implies_true, and_true, true_and, eq_self]
    · have go := skip.resolve_left g
      unfold fstG
      rw [if_neg g]
      refine ⟨1 + B, by simp; omega, fun e => go.ends (i1 e), fun i q e => ?_⟩
      obtain ⟨j1, j2, j3⟩ := i2 i q e
      exact ⟨j1, j2, go.ends j3⟩
/-! the reference -/
/-- what a try of a PLACE changes -/
def FrT (s : Nat) (M M' : IM) : Prop := ∀ a b, ¬ (106 ≤ a ∧ a ≤ 111 ∧ b = s) → ¬ (124 ≤ a ∧ a ≤ 127 ∧ b = s) → M' a b = M a b
theorem mPl_putP {P : Nat → Nat} (h : mPl S P M) {M' : IM} {p : Nat} (hp0 : p ≠ 0) (f : ∀ a b, 106 ≤ a → a ≤ 111 → b ≠ s → M' a b = M a b) (g0 : M' 106 s = 1) (g : M' 107 s = nI (wayN p) ∧ M' 108 s = nI (spaN p) ∧ M' 111 s = nI (hosN p) ∧ ∃ w u x, S.isPl s w u x ∧ p = placeN (setOf w) (setOf u) x ∧ M' 109 s = nI (rowN w 0) ∧ M' 110 s = nI (rowN u 0)) : mPl S (put P s p) M' := fun j hj => by
  by_cases e : j = s
  · rw [e, put_at]
    exact ⟨fun q => absurd q hp0, fun _ => ⟨g0, g⟩⟩
  · rw [put_ne _ _ e, f 106 j (by omega) (by omega) e, f 107 j (by omega) (by omega) e, f 108 j (by omega) (by omega) e, f 109 j (by omega) (by omega) e, f 110 j (by omega) (by omega) e, f 111 j (by omega) (by omega) e]
    exact h j hj
theorem mPl_clear {P : Nat → Nat} (h : mPl S P M) {M' : IM} (f : ∀ a b, 106 ≤ a → a ≤ 111 → b ≠ s → M' a b = M a b) (g0 : M' 106 s = 0) (h0 : P s = 0) : mPl S P M' := fun j hj => by
  by_cases e : j = s
  · rw [e]
    exact ⟨fun _ => g0, fun q => absurd h0 q⟩
  · rw [f 106 j (by omega) (by omega) e, f 107 j (by omega) (by omega) e, f 108 j (by omega) (by omega) e, f 109 j (by omega) (by omega) e, f 110 j (by omega) (by omega) e, f 111 j (by omega) (by omega) e]
    exact h j hj
/-- one PLACE tried by the reference: with P in force, s not IN -/
theorem try_M {P : Nat → Nat} (hN : S.netOk) (hsl : S.slOk) (hss : s < S.ns) (hP : S.plOk P) (h0 : P s = 0) (m1 : mNet S M) (m2 : mSl S M) (m3 : mPl S P M) {p k : Nat} {L : List Nat} (h : Cur S s M (p :: L) k) :
    jX12_advanceK M (nI s) ∧ ∃ A, jX12_advance M (nI s) = (1, A) ∧ FrA s M A ∧ CurAt S s A p L k ∧ jX12_putsK A (nI s) ∧ (jX12_puts A (nI s) = 0 ∨ jX12_puts A (nI s) = 1) ∧ (jX12_puts A (nI s) = 0 ↔ ¬ S.up' p) ∧ p ≠ 0 ∧ (∃ w u x, S.isPl s w u x ∧ p = placeN (setOf w) (setOf u) x) ∧
    (∀ a b, ¬ (107 ≤ a ∧ a ≤ 111 ∧ b = s) → jX12_putsM A (nI s) a b = A a b) ∧
    (jX12_putsM A (nI s) 107 s = nI (wayN p) ∧ jX12_putsM A (nI s) 108 s = nI (spaN p) ∧ jX12_putsM A (nI s) 111 s = nI (hosN p) ∧ ∃ w u x, S.isPl s w u x ∧ p = placeN (setOf w) (setOf u) x ∧ jX12_putsM A (nI s) 109 s = nI (rowN w 0) ∧ jX12_putsM A (nI s) 110 s = nI (rowN u 0)) ∧ MB S (put P s p) (up2 (jX12_putsM A (nI s)) 106 s 1) := by
  have h8 := hsl.1
  obtain ⟨a1, -, a3⟩ := advance_M hN hsl hss h
  obtain ⟨A, b1, b2, b3⟩ := a3 p L rfl
  have mA : mNet S A := m1.of (b2 _ _ (by omega)) (b2 _ _ (by omega)) fun k q => funext fun j => b2 k j (by omega)
  obtain ⟨c1, c2, c3, c4, c5, c6, c7⟩ := puts_M hN hsl hss mA b3
  have p0 : p ≠ 0 := by
    obtain ⟨-, w, u, x, -, -, -, -, rfl, q, -⟩ := b3
    exact (cur_facts hN hsl hss q).2.2.1
  have pp : ∃ w u x, S.isPl s w u x ∧ p = placeN (setOf w) (setOf u) x := by
    obtain ⟨w, u, x, q1, q2, -⟩ := c7
    exact ⟨w, u, x, q1, q2⟩
  have F : ∀ a b, ¬ (106 ≤ a ∧ a ≤ 111 ∧ b = s) → ¬ (124 ≤ a ∧ a ≤ 127 ∧ b = s) → up2 (jX12_putsM A (nI s)) 106 s 1 a b = M a b := fun a b q1 q2 => by
    rw [up2_ap, if_neg (by omega), c3 a b (by omega)]; exact b2 a b q2
  refine ⟨a1, A, b1, b2, b3, c1, ?_, ?_, p0, pp, c3, ⟨c4, c5, c6, c7⟩, hN, hsl, plOk_put hP hss pp, m1.of (F _ _ (by omega) (by omega)) (F _ _ (by omega) (by omega)) (fun k q => funext fun j => F k j (by omega) (by omega)), m2.of (F _ _ (by omega) (by omega)) (fun k q1 q2 => funext fun j => F k j (by omega) (by omega)), ?_⟩
  · rw [c2]; split
    · exact .inr rfl
    · exact .inl rfl
  · rw [c2]
    unfold St.up'
    split
    · rename_i q; exact ⟨fun q' => absurd q' (by decide), fun q' => absurd q q'⟩
    · rename_i q; exact ⟨fun _ => q, fun _ => rfl⟩
  · refine mPl_putP m3 p0 (fun a b q1 q2 q3 => F a b (by omega) (by omega)) (up2_at _ _ _ _) ?_
    obtain ⟨w, u, x, q1, q2, q3, q4⟩ := c7
    exact ⟨by rw [up2_ap, if_neg (by omega)]; exact c4, by rw [up2_ap, if_neg (by omega)]; exact c5, by rw [up2_ap, if_neg (by omega)]; exact c6, w, u, x, q1, q2, by rw [up2_ap, if_neg (by omega)]; exact q3, by rw [up2_ap, if_neg (by omega)]; exact q4⟩
end PL
end
