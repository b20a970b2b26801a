noncomputable section
theorem lg_pos {a b : Nat} (ha : a < 2 ^ 63) (hb : b < 2 ^ 63) : 0 < lg_cmp (lN a) (lN b) ↔ b < a := by
  unfold lg_cmp
  by_cases h : b < a
  · rw [if_pos (show lN b < lN a from (pk_lLT hb ha).mpr h)]; exact ⟨fun _ => h, fun _ => by decide⟩
  · rw [if_neg (fun q => h ((pk_lLT hb ha).mp q))]
    constructor
    · intro q; split at q <;> exact absurd q (by decide)
    · intro q; exact absurd q h
theorem lg_np {a b : Nat} (ha : a < 2 ^ 63) (hb : b < 2 ^ 63) : lg_cmp (lN a) (lN b) ≤ 0 ↔ a ≤ b := by
  unfold lg_cmp
  by_cases h : b < a
  · rw [if_pos (show lN b < lN a from (pk_lLT hb ha).mpr h)]; exact ⟨fun q => absurd q (by decide), fun q => absurd q (by omega)⟩
  · rw [if_neg (fun q => h ((pk_lLT hb ha).mp q))]
    refine ⟨fun _ => by omega, fun _ => ?_⟩
    split <;> decide
section SIM
variable {T : Topo} {S : St} {C M : IM}
theorem RC.setPl {P' : Nat → Nat} {C' : IM} (hT : PlS T) (hS : S.ok) (hC : RC T S C) (f : ∀ k j, (k < 79 ∨ 136 ≤ k) → ¬ (50 ≤ k ∧ k < 54) → ¬ (17 ≤ k ∧ k < 49 ∧ k % 4 = 1 ∧ j = 12) → C' k j = C k j) (g1 : ∀ s, s < 8 → C' (17 + 4 * s) 12 = nI (P' s)) (g2 : cBk S P' S.does 49 24 C') : RC T (S.s_pl P') C' := by
  obtain ⟨h1, h2, h3, h4, h5, h6, h7, ⟨h8, h8'⟩, h9, h10, h11, h12, h13, h14, h15⟩ := hC
  have h8n := hS.2.1.1
  have hK : Core S (S.s_pl P') := ⟨rfl, rfl, rfl, rfl, rfl, rfl, rfl, rfl, rfl, rfl, rfl, rfl, rfl, rfl, rfl, rfl, rfl, rfl, rfl, rfl⟩
  have f' : ∀ k, (k < 17 ∨ 49 ≤ k ∧ k < 79 ∨ 136 ≤ k ∨ k % 4 ≠ 1 ∧ k < 49) → ¬ (50 ≤ k ∧ k < 54) → C' k = C k := fun k q1 q2 => funext fun j => f k j (by omega) q2 (by omega)
  refine ⟨h1.of fun k j q => f k j (by omega) (by omega) (by omega), h2.of fun k j q1 q2 q3 => f k j (by omega) (by omega) (by omega), h3.of (f _ _ (by omega) (by omega) (by omega)), h4.of fun k j q => f k j (by rcases q with q | ⟨s, q1, q2, q3⟩ <;> omega) (by rcases q with q | ⟨s, q1, q2, q3⟩ <;> omega) (by rcases q with q | ⟨s, q1, q2, q3⟩ <;> omega), ?_, g1, h7.of fun s j hs q1 q2 => f _ _ (by omega) (by omega) (by omega), ⟨by rw [f _ _ (by omega) (by omega) (by omega)]; exact h8, ?_⟩, h9.of fun k q1 q2 => f' k (by omega) (by omega), hK.cWays (h10.of fun k q => f' k (by omega) (by omega)), hK.cPlc hS.1 hS.2.1 (h11.of hT fun i hi => ⟨f _ _ (by omega) (by omega) (by omega), f _ _ (by omega) (by omega) (by omega), f' _ (by have := (hT i hi).1; omega) (by have := (hT i hi).1; omega)⟩), h12.of (f' _ (by omega) (by omega)), h13.of (f _ _ (by omega) (by omega) (by omega)), h14.of (f _ _ (by omega) (by omega) (by omega)), h15.of fun k q1 q2 => f' k (by omega) (by omega)⟩
  · rw [hK.cTk]
    exact h5.of fun s hs => f _ _ (by omega) (by omega) (by omega)
  · rw [hK.cBk, hK.does]
    exact g2
theorem RM.setPl {P' : Nat → Nat} {M' : IM} (hM : RM S M) (f0 : ∀ j, j ≤ 8 → M' 79 j = M 79 j) (f : ∀ k, (80 ≤ k ∧ k ≤ 105) ∨ (112 ≤ k ∧ k ≤ 114) → M' k = M k) (g : mPl S P' M') : RM (S.s_pl P') M' := by
  obtain ⟨h1, h2, h3, h4, h5, h6, h7, h8, h9⟩ := hM
  have hK : Core S (S.s_pl P') := ⟨rfl, rfl, rfl, rfl, rfl, rfl, rfl, rfl, rfl, rfl, rfl, rfl, rfl, rfl, rfl, rfl, rfl, rfl, rfl, rfl⟩
  refine ⟨h1.of (f0 0 (by omega)) (f0 1 (by omega)) fun k q => f k (by omega), h2.of fun k q1 q2 => f k (by omega), h3.of (f0 2 (by omega)) fun k q1 q2 => f k (by omega), h4.of fun k q1 q2 => f k (by omega), ?_, h6.of fun j q => f0 j (by omega), h7.of (f0 4 (by omega)), h8.of (f0 5 (by omega)), h9.of fun k q1 q2 => f k (by omega)⟩
  rw [hK.mPl]
  exact g
theorem ok_setPl {P' : Nat → Nat} (hS : S.ok) (h1 : S.plOk P') (h2 : S.allOk P' S.does 24) : (S.s_pl P').ok := by
  have hK : Core S (S.s_pl P') := ⟨rfl, rfl, rfl, rfl, rfl, rfl, rfl, rfl, rfl, rfl, rfl, rfl, rfl, rfl, rfl, rfl, rfl, rfl, rfl, rfl⟩
  exact ⟨hS.1, hS.2.1, hS.2.2.1, hS.2.2.2.1, by rw [hK.plOk]; exact h1, by rw [hK.allOk, hK.does]; exact h2⟩
theorem mx_mono {f g : Nat → Nat} : ∀ n, (∀ i, i < n → f i ≤ g i) → mx f n ≤ mx g n
  | 0, _ => Nat.le_refl _
  | n + 1, h => by
    have := mx_mono n (fun i hi => h i (by omega))
    have := h n (by omega)
    unfold mx
    omega
theorem less_ok {P : Nat → Nat} {D : Nat → Nat → Bool} {s t : Nat} (hs : s < S.ns) : (S.linesOk P D t → S.linesOk (put P s 0) D t) ∧ (S.worksOk P D t → S.worksOk (put P s 0) D t) := by
  by_cases c : P s = 0
  · rw [← c, put_self]; exact ⟨id, id⟩
  · have e : put P s (P s) = P := put_self
    refine ⟨fun q l hl => ?_, fun q a ha => ?_⟩
    · have := q l hl
      have k1 := ld_put (P := P) (D := D) (t := t) hs c l
      have k2 : S.fl (put P s 0) D l t ≤ S.fl P D l t := mx_mono 9 fun f _ => by
        have := pa_put (P := P) (D := D) (t := t) hs c l f
        rw [e] at this
        omega
      rw [e] at k1
      omega
    · have := q a ha
      have k1 := wo_put (P := P) (D := D) (t := t) hs c a
      rw [e] at k1
      omega
theorem tks_lt (s : Nat) : S.tks s < 2 ^ 24 := bs_lt _ _
theorem tks_bit {s t : Nat} (ht : t < 24) : (S.tks s).testBit t = S.does s t := by
  unfold St.tks
  rw [bs_bit, decide_eq_true ht, Bool.true_and]
theorem plOk_put0 {P : Nat → Nat} (h : S.plOk P) (j : Nat) : S.plOk (put P j 0) := fun s hs c => by
  by_cases e : s = j
  · rw [e, put_at] at c; exact absurd rfl c
  · rw [put_ne _ _ e] at c ⊢
    exact h s hs c
theorem mPl_put0 {P : Nat → Nat} (h : mPl S P M) {j : Nat} {M' : IM} (f : ∀ k i, ¬ (k = 106 ∧ i = j) → M' k i = M k i) (g : M' 106 j = 0) : mPl S (put P j 0) M' := fun s hs => by
  by_cases e : s = j
  · rw [e, put_at]; exact ⟨fun _ => g, fun q => absurd rfl q⟩
  · rw [put_ne _ _ e, f 106 s (by omega), f 107 s (by omega), f 108 s (by omega), f 109 s (by omega), f 110 s (by omega), f 111 s (by omega)]
    exact h s hs
theorem sim_out (hT : PlS T) (hS : S.ok) (hC : RC T S C) (hM : RM S M) (a1 : Int32) : jX11_outK C a1 ∧ jX12_outK M a1 ∧ jX11_out C a1 = jX12_out M a1 ∧ ∃ S' : St, S'.ok ∧ RC T S' (jX11_outM C a1) ∧ RM S' (jX12_outM M a1) := by
  have h8 := hS.2.1.1
  unfold jX11_outK jX12_outK jX11_out jX12_out jX11_outM jX12_outM jX12_finds jX11_goOutK jX11_goOutM
  by_cases h : ∃ j, j < S.ns ∧ a1 = nI j
  · have e1 := (sl_C hS hC a1).mpr h
    have e2 := (sl_M hS hM a1).mpr h
    obtain ⟨j, hj, rfl⟩ := h
    have v : vp_in (nI j) 8 := (vp_nI (by omega)).mpr (by omega)
    have i1 := in_C hS hC (j := j) (by omega)
    have i2 := in_M hM (j := j) (by omega)
    rw [nI_clamp (by omega)]
    by_cases c : S.pl j = 0
    · have d1 : ¬ inS C j := fun q => i1.mp q c
      have d2 := i2.mpr c
      simp only [eq_true e1, eq_true e2, eq_false d1, eq_true d2, eq_true v, ↓reduceIte, not_true_eq_false, not_false_eq_true, true_imp_iff, false_imp_iff, implies_true, and_true, true_and, eq_self]
      exact bad hT hS hC hM
    · have d1 := i1.mpr c
      have d2 : ¬ M 106 j = 0 := fun q => c (i2.mp q)
      obtain ⟨-, w, u, a, pp, -, g1, g2, g3, g4, g5, -, -, g8⟩ := pl_parts hS.1 hS.2.2.2.2.1 (show j < 8 by omega) c
      have hl := pl_lt hS (j := j) (by omega)
      obtain ⟨b1, b2, b3⟩ := go_S (S := S) (P := S.pl) (D := S.does) (C := C) (b := 49) (n := 24) (s := j) (p := S.pl j) (wh := S.tks j) hS.2.1 hS.1 (by omega) hj rfl (.inl rfl) (by omega) c (by rw [g1]; exact g4) (by rw [g2]; exact g5) (by omega) hC.1.2.1 hC.2.2.2.2.2.2.2.1.1 (need_C hS hC hj) (hC.2.2.2.1.2 j (by omega)).2.2.2.2.2.2.1 (tks_lt j) (fun t ht => tks_bit ht) hC.2.2.2.2.2.2.2.1.2
      simp only [eq_true e1, eq_true e2, eq_true d1, eq_false d2, eq_true v, ↓reduceIte, not_true_eq_false, not_false_eq_true, true_imp_iff, false_imp_iff, implies_true, and_true, true_and, eq_self]
      rw [hC.2.2.2.2.2.1 j (by omega), hC.2.2.2.2.1 j hj]
      refine ⟨b1, S.s_pl (put S.pl j 0), ok_setPl hS (plOk_put0 hS.2.2.2.2.1 j) (fun t ht => ⟨(less_ok hj).1 (hS.2.2.2.2.2 t ht).1, (less_ok hj).2 (hS.2.2.2.2.2 t ht).2⟩), RC.setPl hT hS hC (fun k i q1 q2 q3 => ?_) (fun s hs => ?_) ?_, RM.setPl hM (fun i _ => by rw [up2_ap, if_neg (by omega)]) (fun k q => up2_ne (by omega)) (mPl_put0 hM.2.2.2.2.1 (fun k i q => by rw [up2_ap, if_neg q]) (up2_at _ _ _ _))⟩
      · rw [up2_ap, if_neg (by omega), b3 k (by omega)]
      · by_cases e : s = j
        · rw [e, up2_at, put_at]; rfl
        · rw [up2_ap, if_neg (by omega), b3 _ (by omega), put_ne _ _ e]
          exact hC.2.2.2.2.2.1 s hs
      · exact b2.of fun k q1 q2 => up2_ne (by omega)
  · have e1 := mt (sl_C hS hC a1).mp h
    have e2 := mt (sl_M hS hM a1).mp h
    simp only [eq_false e1, eq_false e2, ↓reduceIte, not_true_eq_false, not_false_eq_true, true_imp_iff, false_imp_iff, implies_true, and_true, true_and, eq_self]
    exact bad hT hS hC hM
/-! SHEETS -/
theorem sh_upd {S' : St} {C' M' : IM} (hT : PlS T) (hS : S.ok) (hC : RC T S C) (hM : RM S M) (hK : Core S S') (hp : S'.pl = S.pl) (e : S'.dn = S.dn ∧ S'.lat = S.lat ∧ S'.ov = S.ov ∧ S'.er = S.er ∧ S'.wt = S.wt ∧ S'.slt = S.slt ∧ S'.ps = S.ps ∧ S'.ln = S.ln ∧ S'.pd = S.pd ∧ S'.tick = S.tick ∧ S'.lent = S.lent ∧ S'.finds = S.finds ∧ S'.tried = S.tried ∧ S'.psE = S.psE ∧ S'.pdE = S.pdE) (hs : S'.shOk)
    (f : ∀ k, k < 71 ∨ 136 ≤ k → C' k = C k) (g : ∀ k, 79 ≤ k → k < 112 → M' k = M k) (c : cSh S' C') (m : mSh S' M') : S'.ok ∧ RC T S' C' ∧ RM S' M' := by
  obtain ⟨q1, q2, q3, q4, q5, q6, q7, q8, q9, q10, q11, q12, q13, q14, q15⟩ := e
  obtain ⟨h1, h2, h3, h4, h5, h6, h7, h8, g9, h10, h11, h12, h13, h14, h15⟩ := id hC
  obtain ⟨m1, m2, m3, m4, m5, m6, m7, m8, m9⟩ := id hM
  have hd := hS.2.2.1
  refine ⟨ok_upd hS hK hp (hK.netOk hS.1 (by rw [q1]; exact hS.1.2.2.2.1) fun l hl => by rw [q2]; exact (hS.1.2.2.2.2 l hl).2.2.2.2.2.2.2.2) (hK.slOk hS.2.1 (fun s r1 r2 => by rw [q5, q6]; exact ⟨(hS.2.1.2.2 s r1 r2).2.2.1, (hS.2.1.2.2 s r1 r2).2.2.2.1⟩) fun s r => by rw [q5, q6]; have := hS.2.1.2.1 s r; exact ⟨this.2.2.2.2.2.2.2.2.2.2.2.2.2.2.1, this.2.2.2.2.2.2.2.2.2.2.2.2.2.2.2⟩) (by unfold St.dayOk; rw [q10, q11, q2, hK.nl]; exact hd) hs, ?_, ?_⟩
  · refine RC.upd hT hS hK hp hC (fun k j q => by rw [f k (by omega)]) ?_ ?_ ?_ ?_ ?_ ?_ c
    · unfold cPass; rw [q2, q3, q4]; exact h2.of fun k j r1 r2 r3 => by rw [f k (by omega)]
    · unfold cDn; rw [q1]; exact h3.of (by rw [f 1 (by omega)])
    · unfold cWt; rw [q5, q6, q7, q8, q9]; exact h7.of fun s j r1 r2 r3 => by rw [f _ (by omega)]
    · unfold cDay; rw [q10, q11, q14, q15]; exact h12.of (f _ (by omega))
    · unfold cFnd; rw [q12]; exact h13.of (by rw [f 0 (by omega)])
    · unfold cTry; rw [q13]; exact h14.of (by rw [f 56 (by omega)])
  · refine RM.upd hK hp hM (fun k j q => by rw [g k (by omega) (by omega)]) (fun l hl => by rw [q1, g 89 (by omega) (by omega)]; exact m1.2.2.2.2 l hl) ?_ ?_ ?_ ?_ ?_ m
    · unfold mPass; rw [q2, q3, q4]; exact m2.of fun k r1 r2 => g k (by omega) (by omega)
    · unfold mWt; rw [q5, q6, q7, q8, q9]; exact m4.of fun k r1 r2 => g k (by omega) (by omega)
    · unfold mDay; rw [q10, q11, q14, q15]; exact m6.of fun j _ => by rw [g 79 (by omega) (by omega)]
    · unfold mFnd; rw [q12]; exact m7.of (by rw [g 79 (by omega) (by omega)])
    · unfold mTry; rw [q13]; exact m8.of (by rw [g 79 (by omega) (by omega)])
/-- a SHEET begun anew, on both sides -/
theorem sheet_step (hT : PlS T) (hS : S.ok) (hC : RC T S C) (hM : RM S M) {i z : Nat} (a2 a3 : Int32) (hi : i < 4) (hz : z ≤ 8) : jBeginO i a2 a3 FU 0 (up2 (up2 C (71 + 2 * i) 1 a2) (71 + 2 * i) 2 (nI z)) ∧ jX12_sheetO (nI i) a2 a3 FU 0 (up2 (up2 M 112 i a2) 113 i (nI z)) ∧
    (jBeginI i a2 a3 FU 0 (up2 (up2 C (71 + 2 * i) 1 a2) (71 + 2 * i) 2 (nI z))).1 = (jX12_sheetI (nI i) a2 a3 FU 0 (up2 (up2 M 112 i a2) 113 i (nI z))).1 ∧ ∃ S' : St, S'.ok ∧ RC T S' (jBeginI i a2 a3 FU 0 (up2 (up2 C (71 + 2 * i) 1 a2) (71 + 2 * i) 2 (nI z))).2 ∧ RM S' (jX12_sheetI (nI i) a2 a3 FU 0 (up2 (up2 M 112 i a2) 113 i (nI z))).2 := by
  obtain ⟨C2, hC2⟩ : ∃ C2, C2 = up2 (up2 C (71 + 2 * i) 1 a2) (71 + 2 * i) 2 (nI z) := ⟨_, rfl⟩
  obtain ⟨M2, hM2⟩ : ∃ M2, M2 = up2 (up2 M 112 i a2) 113 i (nI z) := ⟨_, rfl⟩
  rw [← hC2, ← hM2]
  have E1 : Ends (fun n (s : Int32 × IM) => jBeginI i a2 a3 n s.1 s.2) (fun n s => jBeginO i a2 a3 n s.1 s.2) (8 * 1 + 1) ((nI 0, C2) : Int32 × IM) (nI z, rowU C2 (72 + 2 * i) 0 (fun _ => 0) 8) := by
    have := Go.loop (F := fun n (s : Int32 × IM) => jBeginI i a2 a3 n s.1 s.2) (O := fun n s => jBeginO i a2 a3 n s.1 s.2) (B := 1) (a := fun k => (nI k, rowU C2 (72 + 2 * i) 0 (fun _ => 0) k)) 8 fun k hk => Go.one fun n => ?_
    · rw [rowU_0] at this
      refine this.ends (Ends.one fun n => ?_)
      dsimp only
      have c0 : (8 : Int32) ≤ nI 8 := by decide
      rw [jBeginO_20, jBeginI_20, rowU_ne (by omega)]
      simp only [eq_true c0, ↓reduceIte, not_true_eq_false, not_false_eq_true, true_imp_iff, false_imp_iff, implies_true, and_true, true_and, eq_self]
      rw [hC2, up2_at]
    · dsimp only
      have c0 : ¬ (8 : Int32) ≤ nI k := by rw [li8]; exact nI_ge (by omega) (by omega)
      have v : vp_in (nI k) 8 := (vp_nI (by omega)).mpr hk
      rw [jBeginO_20, jBeginI_20, nI_clamp (by omega), nI_1, rowU_1, Nat.zero_add]
      simp only [eq_false c0, eq_true v, ↓reduceIte, not_true_eq_false, not_false_eq_true, true_imp_iff, false_imp_iff, implies_true, and_true, true_and, eq_self]
      first | exact id | exact ⟨id, rfl⟩
  have E2 : Ends (fun n (s : Int32 × IM) => jX12_sheetI (nI i) a2 a3 n s.1 s.2) (fun n s => jX12_sheetO (nI i) a2 a3 n s.1 s.2) (8 * 1 + 1) ((nI 0, M2) : Int32 × IM) (nI z, rowU M2 114 (8 * i) (fun _ => 0) 8) := by
    have := Go.loop (F := fun n (s : Int32 × IM) => jX12_sheetI (nI i) a2 a3 n s.1 s.2) (O := fun n s => jX12_sheetO (nI i) a2 a3 n s.1 s.2) (B := 1) (a := fun k => (nI k, rowU M2 114 (8 * i) (fun _ => 0) k)) 8 fun k hk => Go.one fun n => ?_
    · rw [rowU_0] at this
      refine this.ends (Ends.one fun n => ?_)
      dsimp only
      have c0 : (8 : Int32) ≤ nI 8 := by decide
      have v : vp_in (nI i) 4 := (vp_nI (by omega)).mpr hi
      rw [jX12_sheetO_86, jX12_sheetI_86, nI_clamp (by omega), rowU_ne (by omega)]
      simp only [eq_true c0, eq_true v, ↓reduceIte, not_true_eq_false, not_false_eq_true, true_imp_iff, false_imp_iff, implies_true, and_true, true_and, eq_self]
      rw [hM2, up2_at]
    · dsimp only
      have c0 : ¬ (8 : Int32) ≤ nI k := by rw [li8]; exact nI_ge (by omega) (by omega)
      have v : vp_in (nI (8 * i + k)) 32 := (vp_nI (by omega)).mpr (by omega)
      rw [jX12_sheetO_86, jX12_sheetI_86, show (8 : Int32) * nI i + nI k = nI (8 * i + k) by rw [li8, nI_mul, nI_add], nI_clamp (by omega), nI_1, rowU_1]
      simp only [eq_false c0, eq_true v, ↓reduceIte, not_true_eq_false, not_false_eq_true, true_imp_iff, false_imp_iff, implies_true, and_true, true_and, eq_self]
      first | exact id | exact ⟨id, rfl⟩
  obtain ⟨r1, r2⟩ := E1.use (f := FU) (by rw [FU_eq]; omega)
  obtain ⟨r3, r4⟩ := E2.use (f := FU) (by rw [FU_eq]; omega)
  have r2' : jBeginI i a2 a3 FU 0 C2 = (nI z, rowU C2 (72 + 2 * i) 0 (fun _ => 0) 8) := r2
  have r4' : jX12_sheetI (nI i) a2 a3 FU 0 M2 = (nI z, rowU M2 114 (8 * i) (fun _ => 0) 8) := r4
  refine ⟨r1, r3, by rw [r2', r4'], ((S.s_sbits (put S.sbits i a2)).s_ssize (put S.ssize i z)).s_sh (put S.sh i (fun _ => 0)), ?_⟩
  rw [r2', r4']
  refine sh_upd hT hS hC hM ⟨rfl, rfl, rfl, rfl, rfl, rfl, rfl, rfl, rfl, rfl, rfl, rfl, rfl, rfl, rfl, rfl, rfl, rfl, rfl, rfl⟩ rfl ⟨rfl, rfl, rfl, rfl, rfl, rfl, rfl, rfl, rfl, rfl, rfl, rfl, rfl, rfl, rfl⟩ (fun t ht => ?_) (fun k q => ?_) (fun k q1 q2 => ?_) (fun t ht => ?_) (fun t ht => ?_)
  · show put S.ssize i z t ≤ 8
    by_cases e : t = i
    · rw [e, put_at]; exact hz
    · rw [put_ne _ _ e]; exact hS.2.2.2.1 t ht
  · funext j
    show rowU C2 (72 + 2 * i) 0 (fun _ => 0) 8 k j = C k j
    rw [rowU_ne (by omega), hC2, up2_ap, if_neg (by omega), up2_ap, if_neg (by omega)]
  · funext j
    show rowU M2 114 (8 * i) (fun _ => 0) 8 k j = M k j
    rw [rowU_ne (by omega), hM2, up2_ap, if_neg (by omega), up2_ap, if_neg (by omega)]
  · show rowU C2 (72 + 2 * i) 0 (fun _ => 0) 8 (71 + 2 * t) 1 = put S.sbits i a2 t ∧ rowU C2 (72 + 2 * i) 0 (fun _ => 0) 8 (71 + 2 * t) 2 = nI (put S.ssize i z t) ∧ ∀ j, j < 8 → rowU C2 (72 + 2 * i) 0 (fun _ => 0) 8 (72 + 2 * t) j = put S.sh i (fun _ => 0) t j
    obtain ⟨o1, o2, o3⟩ := hC.2.2.2.2.2.2.2.2.2.2.2.2.2.2 t ht
    by_cases e : t = i
    · subst e
      rw [put_at, put_at, put_at]
      refine ⟨?_, ?_, fun j hj => ?_⟩
      · rw [rowU_ne (by omega), hC2, up2_sj _ _ _ (by omega), up2_at]
      · rw [rowU_ne (by omega), hC2, up2_at]
      · have := rowU_at (C := C2) (a := 72 + 2 * t) (lo := 0) (g := fun _ => (0 : Int32)) hj
        rw [Nat.zero_add] at this
        exact this
    · rw [put_ne _ _ e, put_ne _ _ e, put_ne _ _ e]
      refine ⟨?_, ?_, fun j hj => ?_⟩
      · rw [rowU_ne (by omega), hC2, up2_ap, if_neg (by omega), up2_ap, if_neg (by omega)]; exact o1
      · rw [rowU_ne (by omega), hC2, up2_ap, if_neg (by omega), up2_ap, if_neg (by omega)]; exact o2
      · rw [rowU_ne (by omega), hC2, up2_ap, if_neg (by omega), up2_ap, if_neg (by omega)]; exact o3 j hj
  · show rowU M2 114 (8 * i) (fun _ => 0) 8 112 t = put S.sbits i a2 t ∧ rowU M2 114 (8 * i) (fun _ => 0) 8 113 t = nI (put S.ssize i z t) ∧ ∀ j, j < 8 → rowU M2 114 (8 * i) (fun _ => 0) 8 114 (8 * t + j) = put S.sh i (fun _ => 0) t j
    obtain ⟨o1, o2, o3⟩ := hM.2.2.2.2.2.2.2.2 t ht
    by_cases e : t = i
    · subst e
      rw [put_at, put_at, put_at]
      refine ⟨?_, ?_, fun j hj => rowU_at hj⟩
      · rw [rowU_ne (by omega), hM2, up2_o _ _ _ _ (by omega), up2_at]
      · rw [rowU_ne (by omega), hM2, up2_at]
    · rw [put_ne _ _ e, put_ne _ _ e, put_ne _ _ e]
      refine ⟨?_, ?_, fun j hj => ?_⟩
      · rw [rowU_ne (by omega), hM2, up2_ap, if_neg (by omega), up2_ap, if_neg (by omega)]; exact o1
      · rw [rowU_ne (by omega), hM2, up2_ap, if_neg (by omega), up2_ap, if_neg (by omega)]; exact o2
      · rw [rowU_ne (by omega), hM2, up2_ap, if_neg (by omega), up2_ap, if_neg (by omega)]; exact o3 j hj
theorem sim_sheet (hT : PlS T) (hS : S.ok) (hC : RC T S C) (hM : RM S M) (a1 a2 a3 : Int32) : jX11_sheetK C a1 a2 a3 ∧ jX12_sheetK M a1 a2 a3 ∧ jX11_sheet C a1 a2 a3 = (jX12_sheet M a1 a2 a3).1 ∧ ∃ S' : St, S'.ok ∧ RC T S' (jX11_sheetM C a1 a2 a3) ∧ RM S' (jX12_sheet M a1 a2 a3).2 := by
  unfold jX11_sheetK jX12_sheetK jX11_sheet jX12_sheet jX11_sheetM jX12_finds jBeginK jBegin
  by_cases c1 : wi a1 0 3
  · obtain ⟨i, -, hi, rfl⟩ := wi_nI (a := 0) (b := 3) (by omega) c1 (by omega)
    have v : vp_in (nI i) 4 := (vp_nI (by omega)).mpr (by omega)
    rw [nI_clamp (by omega)]
    by_cases c3 : 0 ≤ a3
    · by_cases c4 : a3 ≤ 8
      · obtain ⟨z, -, hz, rfl⟩ := wi_nI (x := a3) (a := 0) (b := 8) (by omega) ⟨c3, c4⟩ (by omega)
        by_cases b0 : a2 = 0
        · have st := sheet_step hT hS hC hM a2 (nI z) (show i < 4 by omega) (show 0 ≤ 8 by omega)
          rw [nI_0] at st
          simp only [eq_true c1, eq_true c3, eq_true c4, eq_true b0, eq_true v, ↓reduceIte, not_true_eq_false, not_false_eq_true, true_imp_iff, false_imp_iff, implies_true, and_true, true_and, eq_self]
          exact st
        · have st := sheet_step hT hS hC hM a2 (nI z) (show i < 4 by omega) hz
          by_cases b8 : a2 = 8
          · simp only [eq_true c1, eq_true c3, eq_true c4, eq_false b0, eq_true b8, eq_true v, ↓reduceIte, not_true_eq_false, not_false_eq_true, true_imp_iff, false_imp_iff, implies_true, and_true, true_and, eq_self]
            exact st
          · by_cases b16 : a2 = 16
            · simp only [eq_true c1, eq_true c3, eq_true c4, eq_false b0, eq_false b8, eq_true b16, eq_true v, ↓reduceIte, not_true_eq_false, not_false_eq_true, true_imp_iff, false_imp_iff, implies_true, and_true, true_and, eq_self]
              exact st
            · by_cases b32 : a2 = 32
              · simp only [eq_true c1, eq_true c3, eq_true c4, eq_false b0, eq_false b8, eq_false b16, eq_true b32, eq_true v, ↓reduceIte, not_true_eq_false, not_false_eq_true, true_imp_iff, false_imp_iff, implies_true, and_true, true_and, eq_self]
                exact st
              · simp only [eq_true c1, eq_false b0, eq_false b8, eq_false b16, eq_false b32, ↓reduceIte, not_true_eq_false, not_false_eq_true, true_imp_iff, false_imp_iff, implies_true, and_true, true_and, eq_self]
                exact bad hT hS hC hM
      · by_cases b0 : a2 = 0
        · simp only [eq_true c1, eq_true c3, eq_false c4, eq_true b0, ↓reduceIte, not_true_eq_false, not_false_eq_true, true_imp_iff, false_imp_iff, implies_true, and_true, true_and, eq_self]
          exact bad hT hS hC hM
        · by_cases b8 : a2 = 8
          · simp only [eq_true c1, eq_true c3, eq_false c4, eq_false b0, eq_true b8, ↓reduceIte, not_true_eq_false, not_false_eq_true, true_imp_iff, false_imp_iff, implies_true, and_true, true_and, eq_self]
            exact bad hT hS hC hM
          · by_cases b16 : a2 = 16
            · simp only [eq_true c1, eq_true c3, eq_false c4, eq_false b0, eq_false b8, eq_true b16, ↓reduceIte, not_true_eq_false, not_false_eq_true, true_imp_iff, false_imp_iff, implies_true, and_true, true_and, eq_self]
              exact bad hT hS hC hM
            · by_cases b32 : a2 = 32
              · simp only [eq_true c1, eq_true c3, eq_false c4, eq_false b0, eq_false b8, eq_false b16, eq_true b32, ↓reduceIte, not_true_eq_false, not_false_eq_true, true_imp_iff, false_imp_iff, implies_true, and_true, true_and, eq_self]
                exact bad hT hS hC hM
              · simp only [eq_true c1, eq_false b0, eq_false b8, eq_false b16, eq_false b32, ↓reduceIte, not_true_eq_false, not_false_eq_true, true_imp_iff, false_imp_iff, implies_true, and_true, true_and, eq_self]
                exact bad hT hS hC hM
    · by_cases b0 : a2 = 0
      · simp only [eq_true c1, eq_false c3, eq_true b0, ↓reduceIte, not_true_eq_false, not_false_eq_true, true_imp_iff, false_imp_iff, implies_true, and_true, true_and, eq_self]
        exact bad hT hS hC hM
      · by_cases b8 : a2 = 8
        · simp only [eq_true c1, eq_false c3, eq_false b0, eq_true b8, ↓reduceIte, not_true_eq_false, not_false_eq_true, true_imp_iff, false_imp_iff, implies_true, and_true, true_and, eq_self]
          exact bad hT hS hC hM
        · by_cases b16 : a2 = 16
          · simp only [eq_true c1, eq_false c3, eq_false b0, eq_false b8, eq_true b16, ↓reduceIte, not_true_eq_false, not_false_eq_true, true_imp_iff, false_imp_iff, implies_true, and_true, true_and, eq_self]
            exact bad hT hS hC hM
          · by_cases b32 : a2 = 32
            · simp only [eq_true c1, eq_false c3, eq_false b0, eq_false b8, eq_false b16, eq_true b32, ↓reduceIte, not_true_eq_false, not_false_eq_true, true_imp_iff, false_imp_iff, implies_true, and_true, true_and, eq_self]
              exact bad hT hS hC hM
            · simp only [eq_true c1, eq_false b0, eq_false b8, eq_false b16, eq_false b32, ↓reduceIte, not_true_eq_false, not_false_eq_true, true_imp_iff, false_imp_iff, implies_true, and_true, true_and, eq_self]
              exact bad hT hS hC hM
  · simp only [eq_false c1, ↓reduceIte, not_true_eq_false, not_false_eq_true, true_imp_iff, false_imp_iff, implies_true, and_true, true_and, eq_self]
    exact bad hT hS hC hM
end SIM
end
