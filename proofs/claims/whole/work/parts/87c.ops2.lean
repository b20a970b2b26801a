noncomputable section
def put {α : Type} (f : Nat → α) (k : Nat) (v : α) : Nat → α := fun a => if a = k then v else f a
theorem put_at {α : Type} (f : Nat → α) (k : Nat) (v : α) : put f k v k = v := if_pos rfl
theorem put_ne {α : Type} (f : Nat → α) {k a : Nat} (v : α) (h : a ≠ k) : put f k v a = f a := if_neg h
theorem sm_pad {f : Nat → Nat} {n : Nat} : ∀ d, (∀ i, n ≤ i → i < n + d → f i = 0) → sm f (n + d) = sm f n
  | 0, _ => rfl
  | d + 1, h => by
    show sm f (n + d) + f (n + d) = _
    rw [sm_pad d (fun i h1 h2 => h i h1 (by omega)), h (n + d) (by omega) (by omega)]; rfl
theorem sm_8 {f : Nat → Nat} {n : Nat} (hn : n ≤ 8) (h : ∀ i, n ≤ i → i < 8 → f i = 0) : sm f n = sm f 8 := by
  obtain ⟨d, hd⟩ : ∃ d, 8 = n + d := ⟨8 - n, by omega⟩
  rw [hd, sm_pad d (fun i h1 h2 => h i h1 (by omega))]
/-- the same NEEDS, WORK and TICKS of those that are IN -/
def likeP (S S' : St) (P : Nat → Nat) (D D' : Nat → Nat → Bool) : Prop := S.ns ≤ 8 ∧ S'.ns ≤ 8 ∧ ∀ s, s < 8 → P s ≠ 0 → s < S.ns ∧ s < S'.ns ∧ S'.need s = S.need s ∧ S'.wk s = S.wk s ∧ ∀ t, D' s t = D s t
def St.addN (S : St) (v : Nat) : St := (S.s_nn (S.nn + 1)).s_wr (put S.wr S.nn v)
section LIKE
variable {S S' : St} {P : Nat → Nat} {D D' : Nat → Nat → Bool}
theorem likeP.ld (h : likeP S S' P D D') : S'.ld P D' = S.ld P D := by
  funext l t
  obtain ⟨h1, h2, h3⟩ := h
  unfold St.ld
  rw [sm_8 h2 (fun i q1 q2 => if_neg (fun q => by have := (h3 i q2 q.1).2.1; omega)), sm_8 h1 (fun i q1 q2 => if_neg (fun q => by have := (h3 i q2 q.1).1; omega))]
  exact sm_congr 8 fun s hs => by
    by_cases c : P s = 0
    · rw [if_neg (fun q => q.1 c), if_neg (fun q => q.1 c)]
    · obtain ⟨-, -, a, -, b⟩ := h3 s hs c; rw [a, b]
theorem likeP.pa (h : likeP S S' P D D') : S'.pa P D' = S.pa P D := by
  funext l f t
  obtain ⟨h1, h2, h3⟩ := h
  unfold St.pa
  rw [sm_8 h2 (fun i q1 q2 => if_neg (fun q => by have := (h3 i q2 q.1).2.1; omega)), sm_8 h1 (fun i q1 q2 => if_neg (fun q => by have := (h3 i q2 q.1).1; omega))]
  exact sm_congr 8 fun s hs => by
    by_cases c : P s = 0
    · rw [if_neg (fun q => q.1 c), if_neg (fun q => q.1 c)]
    · obtain ⟨-, -, a, -, b⟩ := h3 s hs c; rw [a, b]
theorem likeP.fl (h : likeP S S' P D D') : S'.fl P D' = S.fl P D := by
  funext l t
  unfold St.fl
  rw [h.pa]
theorem likeP.wo' (h : likeP S S' P D D') : S'.wo' P D' = S.wo' P D := by
  funext a t
  obtain ⟨h1, h2, h3⟩ := h
  unfold St.wo'
  rw [sm_8 h2 (fun i q1 q2 => if_neg (fun q => by have := (h3 i q2 q.1).2.1; omega)), sm_8 h1 (fun i q1 q2 => if_neg (fun q => by have := (h3 i q2 q.1).1; omega))]
  exact sm_congr 8 fun s hs => by
    by_cases c : P s = 0
    · rw [if_neg (fun q => q.1 c), if_neg (fun q => q.1 c)]
    · obtain ⟨-, -, -, a, b⟩ := h3 s hs c; rw [a, b]
theorem likeP.cBk (h : likeP S S' P D D') {b n : Nat} {C : IM} (q : cBk S P D b n C) : cBk S' P D' b n C := by
  unfold Jvm.Pilot.CSliceSellerLaw_law_r9952_debf30.cBk
  rw [h.ld, h.fl, h.pa, h.wo']
  exact q
theorem likeP.allOk (h : likeP S S' P D D') {n : Nat} (hr : ∀ l, l < S'.nl → (l < S.nl ∧ S'.rm l = S.rm l) ∨ ∀ s, s < 8 → P s ≠ 0 → (wayN (P s)).testBit l = false ∧ (spaN (P s)).testBit l = false)
    (hw : ∀ a, a < S'.nn → (a < S.nn ∧ S'.wr a = S.wr a) ∨ ∀ s, s < 8 → P s ≠ 0 → hosN (P s) ≠ a) (q : S.allOk P D n) : S'.allOk P D' n := by
  have h1 := h.1
  intro t ht
  obtain ⟨q1, q2⟩ := q t ht
  constructor
  · intro l hl
    rw [h.ld, h.fl]
    rcases hr l hl with ⟨c1, c2⟩ | c
    · rw [c2]; exact q1 l c1
    · have e1 : S.ld P D l t = 0 := sm_zero _ fun s hs => if_neg fun r => by
        have := (c s (by omega) r.1).1
        rw [this] at r; exact absurd r.2.2 (by decide)
      have e2 : S.fl P D l t = 0 := by
        have : S.fl P D l t ≤ 0 := (mx_le 9).mpr fun f _ => Nat.le_of_eq (sm_zero _ fun s hs => if_neg fun r => by
          have := (c s (by omega) r.1).2
          rw [this] at r; exact absurd r.2.2.2 (by decide))
        omega
      rw [e1, e2]; exact Nat.zero_le _
  · intro a ha
    rw [h.wo']
    rcases hw a ha with ⟨c1, c2⟩ | c
    · rw [c2]; exact q2 a c1
    · have e1 : S.wo' P D a t = 0 := sm_zero _ fun s hs => if_neg fun r => c s (by omega) r.1 r.2.2
      rw [e1]; exact Nat.zero_le _
end LIKE
theorem path_set {S : St} {b : Nat} : ∀ (p : List Nat) (x seen : Nat), S.path x seen b p → setOf p < 2 ^ S.nl
  | [], _, _, _ => Nat.two_pow_pos _
  | l :: p, x, seen, ⟨_, h2, y, _, _, h5⟩ => or_lt (Nat.pow_lt_pow_right (by decide) h2) (path_set p y _ h5)
/-- what a PLACE is made of -/
theorem pl_parts {S : St} {P : Nat → Nat} (hN : S.netOk) (hP : S.plOk P) {s : Nat} (hs : s < 8) (c : P s ≠ 0) : s < S.ns ∧ ∃ w u h, S.isPl s w u h ∧ P s = placeN (setOf w) (setOf u) h ∧ wayN (P s) = setOf w ∧ spaN (P s) = setOf u ∧ hosN (P s) = h ∧ setOf w < 2 ^ S.nl ∧ setOf u < 2 ^ S.nl ∧ setOf w < 512 ∧ setOf u < 512 ∧ h < 6 := by
  obtain ⟨h0, w, u, h, g, e⟩ := hP s hs c
  obtain ⟨g1, g2, g3, g4⟩ := id g
  have h6 := hN.1
  have h9 := hN.2.1
  have k0 : 2 ^ S.nl ≤ 2 ^ 9 := Nat.pow_le_pow_right (by decide) h9
  have k1 := path_set _ _ _ g1
  have k2 : setOf u < 2 ^ S.nl := by
    by_cases c2 : S.kd s = 1
    · exact path_set _ _ _ (g4 c2).1
    · rw [g3 c2]; exact Nat.two_pow_pos _
  refine ⟨h0, w, u, h, g, e, ?_, ?_, ?_, k1, k2, by omega, by omega, by omega⟩ <;> rw [e] <;> simp only [wayN, spaN, hosN, placeN] <;> omega
theorem isPl_mono {S S' : St} (h0 : S.nl ≤ S'.nl) (h : ∀ l x, l < S.nl → S'.oth l x = S.oth l x) (hn : S.nn ≤ S'.nn) {s : Nat} (e1 : S'.sa s = S.sa s) (e2 : S'.sb s = S.sb s) (e3 : S'.kd s = S.kd s) {w u : List Nat} {a : Nat} (q : S.isPl s w u a) : S'.isPl s w u a := by
  obtain ⟨q1, q2, q3, q4⟩ := q
  unfold St.isPl
  rw [e1, e2, e3]
  exact ⟨path_mono h0 h _ _ _ q1, by omega, q3, fun c => ⟨path_mono h0 h _ _ _ (q4 c).1, (q4 c).2⟩⟩
theorem plOk_mono {S S' : St} {P : Nat → Nat} (hn : S.ns ≤ S'.ns) (hI : ∀ s w u h, s < S.ns → P s ≠ 0 → S.isPl s w u h → S'.isPl s w u h) (h : S.plOk P) : S'.plOk P := by
  intro s hs c
  obtain ⟨h1, w, u, a, h2, h3⟩ := h s hs c
  exact ⟨by omega, w, u, a, hI s w u a h1 c h2, h3⟩
theorem mPl_mono {S S' : St} {P : Nat → Nat} {M M' : IM} (hP : S.plOk P) (hI : ∀ s w u h, s < S.ns → P s ≠ 0 → S.isPl s w u h → S'.isPl s w u h) (h : mPl S P M) (f : ∀ k, 106 ≤ k → k ≤ 111 → M' k = M k) : mPl S' P M' := by
  unfold mPl
  rw [f 106 (by omega) (by omega), f 107 (by omega) (by omega), f 108 (by omega) (by omega), f 109 (by omega) (by omega), f 110 (by omega) (by omega), f 111 (by omega) (by omega)]
  intro s hs
  obtain ⟨h1, h2⟩ := h s hs
  refine ⟨h1, fun c => ?_⟩
  obtain ⟨a1, a2, a3, a4, w, u, a, a5, a6⟩ := h2 c
  exact ⟨a1, a2, a3, a4, w, u, a, hI s w u a (hP s hs c).1 c a5, a6⟩
section SIM
variable {T : Topo} {S : St} {C M : IM}
theorem sim_node (hT : PlS T) (hS : S.ok) (hC : RC T S C) (hM : RM S M) (a1 : Int32) : jX11_nodeK C a1 ∧ jX12_nodeK M a1 ∧ jX11_node C a1 = jX12_node M a1 ∧ ∃ S' : St, S'.ok ∧ RC T S' (jX11_nodeM C a1) ∧ RM S' (jX12_nodeM M a1) := by
  have hn := hS.1.1
  unfold jX11_nodeK jX12_nodeK jX11_node jX12_node jX11_nodeM jX12_nodeM jX12_finds jX5_addNode jX5_addNodeM jX5_addNodeK
  rw [hC.1.1, hM.1.1]
  by_cases h1 : wi a1 0 100
  · by_cases h2 : S.nn = 6
    · have e1 : ¬ nI S.nn < 6 := by rw [h2]; decide
      have e2 : nI S.nn = 6 := by rw [h2]; rfl
      simp only [eq_true h1, eq_false e1, eq_true e2, ↓reduceIte, not_true_eq_false, not_false_eq_true, true_imp_iff, false_imp_iff, implies_true, and_true, true_and, eq_self]
      exact bad hT hS hC hM
    · have e1 : nI S.nn < 6 := by rw [li6]; exact nI_lt (by omega) (by omega)
      have e2 : ¬ nI S.nn = 6 := by rw [li6]; exact fun q => h2 ((nI_eq (by omega) (by omega)).mp q)
      obtain ⟨v, -, hv, rfl⟩ := wi_nI (a := 0) (b := 100) (by omega) h1 (by omega)
      simp only [eq_true h1, eq_true e1, eq_false e2, ↓reduceIte, not_true_eq_false, not_false_eq_true, true_imp_iff, false_imp_iff, implies_true, and_true, true_and, eq_self]
      rw [nI_clamp (by omega), nI_1]
      have vp : vp_in (nI S.nn) 6 := (vp_nI (by omega)).mpr (by omega)
      refine ⟨vp, vp, S.addN v, ?_, ?_, ?_⟩
      · have hI : ∀ s w u h, s < S.ns → S.pl s ≠ 0 → S.isPl s w u h → (S.addN v).isPl s w u h := fun s w u h _ _ q => isPl_mono (S := S) (S' := S.addN v) (Nat.le_refl _) (fun _ _ _ => rfl) (Nat.le_succ _) rfl rfl rfl q
        obtain ⟨⟨b1, b2, b3, b4, b5⟩, ⟨c1, c2, c3⟩, d, e, f, g⟩ := id hS
        refine ⟨⟨(by omega : S.nn + 1 ≤ 6), b2, fun a ha => ?_, b4, fun l hl => ?_⟩, ⟨c1, fun s hs => ?_, c3⟩, d, e, plOk_mono (S := S) (S' := S.addN v) (Nat.le_refl _) hI f, ?_⟩
        · show put S.wr S.nn v a ≤ 100
          by_cases q : a = S.nn
          · rw [q, put_at]; exact hv
          · rw [put_ne _ _ q]; exact b3 a (by have : a < S.nn + 1 := ha; omega)
        · obtain ⟨k1, k2, k3⟩ := b5 l hl
          exact ⟨Nat.lt_succ_of_lt k1, Nat.lt_succ_of_lt k2, k3⟩
        · obtain ⟨k1, k2, k3, k4⟩ := c2 s hs
          exact ⟨k1, Nat.lt_succ_of_lt k2, Nat.lt_succ_of_lt k3, k4⟩
        · refine likeP.allOk (S := S) (S' := S.addN v) (D := S.does) (D' := (S.addN v).does) ⟨c1, c1, fun s hs c => ⟨(f s hs c).1, (f s hs c).1, rfl, rfl, fun _ => rfl⟩⟩ (fun l hl => .inl ⟨hl, rfl⟩) (fun a ha => ?_) g
          by_cases q : a = S.nn
          · refine .inr fun s hs c => ?_
            obtain ⟨-, w, u, h, g, -, -, -, g4, -⟩ := pl_parts hS.1 f hs c
            have := g.2.1
            omega
          · exact .inl ⟨by have : a < S.nn + 1 := ha; omega, put_ne _ _ q⟩
      · obtain ⟨h1, h2, h3, h4, h5, h6, h7, ⟨h8, h8'⟩, h9, h10, h11, h12, h13, h14, h15⟩ := hC
        obtain ⟨h1a, h1b, h1c, h1d⟩ := h1
        have F : ∀ k j, ¬ (k = 1 ∧ j = 3) → ¬ (k = 2 ∧ j = S.nn) → up2 (up2 C 2 S.nn (nI v)) 1 3 (nI (S.nn + 1)) k j = C k j := fun k j q1 q2 => by
          rw [up2_ap, if_neg q1, up2_ap, if_neg q2]
        have F' : ∀ k, k ≠ 1 → k ≠ 2 → up2 (up2 C 2 S.nn (nI v)) 1 3 (nI (S.nn + 1)) k = C k := fun k q1 q2 => funext fun j => F k j (by omega) (by omega)
        refine ⟨⟨?_, ?_, fun a ha => ?_, fun l hl => ?_⟩, h2.of fun k j q1 q2 q3 => by rw [F' _ (by omega) (by omega)], h3.of (F _ _ (by omega) (by omega)), h4.of fun k j q => by rw [F' k (by rcases q with q | ⟨s, q1, q2, q3⟩ <;> omega) (by rcases q with q | ⟨s, q1, q2, q3⟩ <;> omega)], h5.of fun s hs => by rw [F' _ (by omega) (by omega)], h6.of fun s hs => by rw [F' _ (by omega) (by omega)], h7.of fun s j hs q1 q2 => by rw [F' _ (by omega) (by omega)], ⟨by rw [F' _ (by omega) (by omega)]; exact h8, ?_⟩, h9.of fun k q1 q2 => F' k (by omega) (by omega), ?_, ?_, h12.of (F' _ (by omega) (by omega)), h13.of (F _ _ (by omega) (by omega)), h14.of (F _ _ (by omega) (by omega)), h15.of fun k q1 q2 => F' k (by omega) (by omega)⟩
        · rw [up2_at]; rfl
        · rw [F _ _ (by omega) (by omega)]; exact h1b
        · show _ = nI (put S.wr S.nn v a)
          rw [up2_o _ _ _ _ (by omega)]
          by_cases q : a = S.nn
          · rw [q, up2_at, put_at]
          · rw [up2_sj _ _ _ q, put_ne _ _ q]; exact h1c a ha
        · rw [F' _ (by omega) (by omega)]; exact h1d l hl
        · exact likeP.cBk (S := S) (S' := S.addN v) (D := S.does) (D' := (S.addN v).does) ⟨hS.2.1.1, hS.2.1.1, fun s hs c => ⟨(hS.2.2.2.2.1 s hs c).1, (hS.2.2.2.2.1 s hs c).1, rfl, rfl, fun _ => rfl⟩⟩ (h8'.of fun k q1 q2 => F' k (by omega) (by omega))
        · exact cWays.congr (S := S) rfl rfl rfl rfl (Nat.le_succ _) (h10.of (fun k q => F' k (by omega) (by omega)))
        · exact (h11.of hT (fun i hi => ⟨by rw [F' _ (by omega) (by omega)], by rw [F' _ (by omega) (by omega)], F' _ (by have := (hT i hi).1; omega) (by have := (hT i hi).1; omega)⟩)).congr hS.1 hS.2.1 rfl rfl rfl rfl (Nat.le_succ _) (Nat.le_refl _) (fun s _ => ⟨rfl, rfl, rfl, rfl⟩)
      · obtain ⟨h1, h2, h3, h4, h5, h6, h7, h8, h9⟩ := hM
        have F : ∀ k j, ¬ (k = 79 ∧ j = 0) → ¬ (k = 80 ∧ j = S.nn) → up2 (up2 M 80 S.nn (nI v)) 79 0 (nI (S.nn + 1)) k j = M k j := fun k j q1 q2 => by
          rw [up2_ap, if_neg q1, up2_ap, if_neg q2]
        have F' : ∀ k, k ≠ 79 → k ≠ 80 → up2 (up2 M 80 S.nn (nI v)) 79 0 (nI (S.nn + 1)) k = M k := fun k q1 q2 => funext fun j => F k j (by omega) (by omega)
        obtain ⟨h1a, h1b, h1c, h1d, h1e⟩ := h1
        refine ⟨⟨?_, ?_, fun a ha => ?_, ?_, ?_⟩, ?_, ?_, ?_, mPl_mono (S := S) (S' := S.addN v) hS.2.2.2.2.1 (fun s w u h _ _ q => isPl_mono (S := S) (S' := S.addN v) (Nat.le_refl _) (fun _ _ _ => rfl) (Nat.le_succ _) rfl rfl rfl q) h5 (fun k q1 q2 => F' k (by omega) (by omega)), ?_, ?_, ?_, ?_⟩
        · rw [up2_at]; rfl
        · rw [F _ _ (by omega) (by omega)]; exact h1b
        · show _ = nI (put S.wr S.nn v a)
          rw [up2_o _ _ _ _ (by omega)]
          by_cases q : a = S.nn
          · rw [q, up2_at, put_at]
          · rw [up2_sj _ _ _ q, put_ne _ _ q]; exact h1c a ha
        · intro l hl
          rw [F' 81 (by omega) (by omega), F' 82 (by omega) (by omega), F' 83 (by omega) (by omega), F' 84 (by omega) (by omega), F' 85 (by omega) (by omega)]
          exact h1d l hl
        · rw [F' 89 (by omega) (by omega)]; exact h1e
        · unfold mPass
          rw [F' 86 (by omega) (by omega), F' 87 (by omega) (by omega), F' 88 (by omega) (by omega)]
          exact h2
        · unfold mSl
          rw [F 79 2 (by omega) (by omega), F' 90 (by omega) (by omega), F' 91 (by omega) (by omega), F' 92 (by omega) (by omega), F' 93 (by omega) (by omega), F' 94 (by omega) (by omega), F' 95 (by omega) (by omega), F' 96 (by omega) (by omega), F' 97 (by omega) (by omega), F' 98 (by omega) (by omega), F' 99 (by omega) (by omega), F' 100 (by omega) (by omega)]
          exact h3
        · unfold mWt
          rw [F' 101 (by omega) (by omega), F' 102 (by omega) (by omega), F' 103 (by omega) (by omega), F' 104 (by omega) (by omega), F' 105 (by omega) (by omega)]
          exact h4
        · unfold mDay
          rw [F 79 8 (by omega) (by omega), F 79 3 (by omega) (by omega), F 79 6 (by omega) (by omega), F 79 7 (by omega) (by omega)]
          exact h6
        · unfold mFnd; rw [F 79 4 (by omega) (by omega)]; exact h7
        · unfold mTry; rw [F 79 5 (by omega) (by omega)]; exact h8
        · unfold mSh
          rw [F' 112 (by omega) (by omega), F' 113 (by omega) (by omega), F' 114 (by omega) (by omega)]
          exact h9
  · simp only [eq_false h1, ↓reduceIte, not_true_eq_false, not_false_eq_true, true_imp_iff, false_imp_iff, implies_true, and_true, true_and, eq_self]
    exact bad hT hS hC hM
end SIM
end
