noncomputable section
theorem mNet.of {S : St} {M M' : IM} (h : mNet S M) (f0 : M' 79 0 = M 79 0) (f1 : M' 79 1 = M 79 1) (f : ∀ k, 80 ≤ k ∧ k ≤ 85 ∨ k = 89 → M' k = M k) : mNet S M' := by
  unfold mNet
  rw [f0, f1, f 80 (by omega), f 81 (by omega), f 82 (by omega), f 83 (by omega), f 84 (by omega), f 85 (by omega), f 89 (by omega)]
  exact h
theorem mPass.of {S : St} {M M' : IM} (h : mPass S M) (f : ∀ k, 86 ≤ k → k ≤ 88 → M' k = M k) : mPass S M' := by
  unfold mPass
  rw [f 86 (by omega) (by omega), f 87 (by omega) (by omega), f 88 (by omega) (by omega)]
  exact h
theorem mSl.of {S : St} {M M' : IM} (h : mSl S M) (f0 : M' 79 2 = M 79 2) (f : ∀ k, 90 ≤ k → k ≤ 100 → M' k = M k) : mSl S M' := by
  unfold mSl
  rw [f0, f 90 (by omega) (by omega), f 91 (by omega) (by omega), f 92 (by omega) (by omega), f 93 (by omega) (by omega), f 94 (by omega) (by omega), f 95 (by omega) (by omega), f 96 (by omega) (by omega), f 97 (by omega) (by omega), f 98 (by omega) (by omega), f 99 (by omega) (by omega), f 100 (by omega) (by omega)]
  exact h
theorem mWt.of {S : St} {M M' : IM} (h : mWt S M) (f : ∀ k, 101 ≤ k → k ≤ 105 → M' k = M k) : mWt S M' := by
  unfold mWt
  rw [f 101 (by omega) (by omega), f 102 (by omega) (by omega), f 103 (by omega) (by omega), f 104 (by omega) (by omega), f 105 (by omega) (by omega)]
  exact h
theorem mPl.of {S : St} {P : Nat → Nat} {M M' : IM} (h : mPl S P M) (f : ∀ k, 106 ≤ k → k ≤ 111 → M' k = M k) : mPl S P M' := by
  unfold mPl
  rw [f 106 (by omega) (by omega), f 107 (by omega) (by omega), f 108 (by omega) (by omega), f 109 (by omega) (by omega), f 110 (by omega) (by omega), f 111 (by omega) (by omega)]
  exact h
theorem mDay.of {S : St} {M M' : IM} (h : mDay S M) (f : ∀ j, j = 3 ∨ j = 6 ∨ j = 7 ∨ j = 8 → M' 79 j = M 79 j) : mDay S M' := by
  unfold mDay
  rw [f 8 (by omega), f 3 (by omega), f 6 (by omega), f 7 (by omega)]
  exact h
theorem mFnd.of {S : St} {M M' : IM} (h : mFnd S M) (f : M' 79 4 = M 79 4) : mFnd S M' := by unfold mFnd; rw [f]; exact h
theorem mTry.of {S : St} {M M' : IM} (h : mTry S M) (f : M' 79 5 = M 79 5) : mTry S M' := by unfold mTry; rw [f]; exact h
theorem mSh.of {S : St} {M M' : IM} (h : mSh S M) (f : ∀ k, 112 ≤ k → k ≤ 114 → M' k = M k) : mSh S M' := by
  unfold mSh
  rw [f 112 (by omega) (by omega), f 113 (by omega) (by omega), f 114 (by omega) (by omega)]
  exact h
def St.addL (S : St) (a b r e p : Nat) : St := (((((S.s_nl (S.nl + 1)).s_ea (put S.ea S.nl a)).s_eb (put S.eb S.nl b)).s_rm (put S.rm S.nl r)).s_lt (put S.lt S.nl e)).s_pr (put S.pr S.nl p)
section SIM
variable {T : Topo} {S : St} {C M : IM}
theorem addL_oth {a b r e p : Nat} (l x : Nat) (hl : l < S.nl) : (S.addL a b r e p).oth l x = S.oth l x := by
  have e1 : (S.addL a b r e p).ea l = S.ea l := put_ne S.ea a (by omega)
  have e2 : (S.addL a b r e p).eb l = S.eb l := put_ne S.eb b (by omega)
  unfold St.oth
  rw [e1, e2]
theorem line_step (hT : PlS T) (hS : S.ok) (hC : RC T S C) (hM : RM S M) (h9 : S.nl < 9) {a b r e p : Nat} (ha : a < S.nn) (hb : b < S.nn) (hab : a ≠ b) (hr : 1 ≤ r ∧ r ≤ 50) (he : 1 ≤ e ∧ e ≤ 9) (hp : p ≤ 9) :
    (S.addL a b r e p).ok ∧ RC T (S.addL a b r e p) (up2 (up2 (up2 (up2 (up2 (up2 C (6 + S.nl) 0 (nI a)) (6 + S.nl) 1 (nI b)) (6 + S.nl) 2 (nI r)) (6 + S.nl) 3 (nI e)) (6 + S.nl) 4 (nI p)) 1 4 (nI (S.nl + 1))) ∧
    RM (S.addL a b r e p) (up2 (up2 (up2 (up2 (up2 (up2 (up2 M 81 S.nl (nI a)) 82 S.nl (nI b)) 83 S.nl (nI r)) 84 S.nl (nI e)) 85 S.nl (nI p)) 89 S.nl 1) 79 1 (nI (S.nl + 1))) := by
  have hI : ∀ s w u h, s < S.ns → S.pl s ≠ 0 → S.isPl s w u h → (S.addL a b r e p).isPl s w u h := fun s w u h _ _ q => isPl_mono (S := S) (S' := S.addL a b r e p) (Nat.le_succ _) addL_oth (Nat.le_refl _) rfl rfl rfl q
  have hlk : likeP S (S.addL a b r e p) S.pl S.does (S.addL a b r e p).does := ⟨hS.2.1.1, hS.2.1.1, fun s hs c => ⟨(hS.2.2.2.2.1 s hs c).1, (hS.2.2.2.2.1 s hs c).1, rfl, rfl, fun _ => rfl⟩⟩
  refine ⟨?_, ?_, ?_⟩
  · obtain ⟨⟨b1, b2, b3, b4, b5⟩, ⟨c1, c2, c3⟩, d, sh, f, g⟩ := id hS
    refine ⟨⟨b1, h9, b3, Nat.lt_of_lt_of_le b4 (Nat.pow_le_pow_right (by decide) (Nat.le_succ _)), fun l hl => ?_⟩, ⟨c1, c2, c3⟩, ⟨d.1, d.2.1, fun l q1 q2 => d.2.2 l q1 (Nat.le_of_succ_le q2)⟩, sh, plOk_mono (S := S) (S' := S.addL a b r e p) (Nat.le_refl _) hI f, ?_⟩
    · have hl' : l < S.nl + 1 := hl
      show put S.ea S.nl a l < S.nn ∧ put S.eb S.nl b l < S.nn ∧ put S.ea S.nl a l ≠ put S.eb S.nl b l ∧ 1 ≤ put S.rm S.nl r l ∧ put S.rm S.nl r l ≤ 50 ∧ 1 ≤ put S.lt S.nl e l ∧ put S.lt S.nl e l ≤ 9 ∧ put S.pr S.nl p l ≤ 9 ∧ S.lat l ≤ put S.rm S.nl r l
      by_cases q : l = S.nl
      · subst q
        rw [put_at, put_at, put_at, put_at, put_at, d.2.2 _ h9 (Nat.le_refl _)]
        exact ⟨ha, hb, hab, hr.1, hr.2, he.1, he.2, hp, Nat.zero_le _⟩
      · rw [put_ne _ _ q, put_ne _ _ q, put_ne _ _ q, put_ne _ _ q, put_ne _ _ q]
        exact b5 l (by omega)
    · refine likeP.allOk (S := S) (S' := S.addL a b r e p) (D := S.does) (D' := (S.addL a b r e p).does) hlk (fun l hl => ?_) (fun x hx => .inl ⟨hx, rfl⟩) g
      by_cases q : l = S.nl
      · refine .inr fun s hs c => ?_
        obtain ⟨-, w, u, h, -, -, g1, g2, -, g3, g4, -⟩ := pl_parts hS.1 f hs c
        rw [g1, g2]
        exact ⟨bit_no g3 (by omega), bit_no g4 (by omega)⟩
      · exact .inl ⟨by have : l < S.nl + 1 := hl; omega, put_ne _ _ q⟩
  · obtain ⟨h1, h2, h3, h4, h5, h6, h7, ⟨h8, h8'⟩, g9, h10, h11, h12, h13, h14, h15⟩ := hC
    obtain ⟨h1a, h1b, h1c, h1d⟩ := h1
    obtain ⟨X, hX⟩ : ∃ X, X = up2 (up2 (up2 (up2 (up2 (up2 C (6 + S.nl) 0 (nI a)) (6 + S.nl) 1 (nI b)) (6 + S.nl) 2 (nI r)) (6 + S.nl) 3 (nI e)) (6 + S.nl) 4 (nI p)) 1 4 (nI (S.nl + 1)) := ⟨_, rfl⟩
    have F : ∀ k j, ¬ (k = 1 ∧ j = 4) → ¬ (k = 6 + S.nl ∧ j < 5) → X k j = C k j := fun k j q1 q2 => by
      rw [hX, up2_ap, if_neg q1, up2_ap, if_neg (by omega), up2_ap, if_neg (by omega), up2_ap, if_neg (by omega), up2_ap, if_neg (by omega), up2_ap, if_neg (by omega)]
    have F' : ∀ k, k ≠ 1 → k ≠ 6 + S.nl → X k = C k := fun k q1 q2 => funext fun j => F k j (by omega) (by omega)
    have G : X 1 4 = nI (S.nl + 1) ∧ X (6 + S.nl) 0 = nI a ∧ X (6 + S.nl) 1 = nI b ∧ X (6 + S.nl) 2 = nI r ∧ X (6 + S.nl) 3 = nI e ∧ X (6 + S.nl) 4 = nI p := by
      rw [hX]
      refine ⟨?_, ?_, ?_, ?_, ?_, ?_⟩ <;> simp (disch := omega) only [up2_o, up2_at, up2_sj]
    rw [← hX]
    refine ⟨⟨?_, G.1, fun x hx => ?_, fun l hl => ?_⟩, h2.of fun k j q1 q2 q3 => F k j (by omega) (by omega), h3.of (F _ _ (by omega) (by omega)), h4.of fun k j q => by rw [F' k (by rcases q with q | ⟨s, q1, q2, q3⟩ <;> omega) (by rcases q with q | ⟨s, q1, q2, q3⟩ <;> omega)], h5.of fun s hs => by rw [F' _ (by omega) (by omega)], h6.of fun s hs => by rw [F' _ (by omega) (by omega)], h7.of fun s j hs q1 q2 => by rw [F' _ (by omega) (by omega)], ⟨by rw [F' _ (by omega) (by omega)]; exact h8, hlk.cBk (h8'.of fun k q1 q2 => F' k (by omega) (by omega))⟩, g9.of fun k q1 q2 => F' k (by omega) (by omega), ?_, ?_, h12.of (F' _ (by omega) (by omega)), h13.of (F _ _ (by omega) (by omega)), h14.of (F _ _ (by omega) (by omega)), h15.of fun k q1 q2 => F' k (by omega) (by omega)⟩
    · rw [F _ _ (by omega) (by omega)]; exact h1a
    · rw [F' _ (by omega) (by omega)]; exact h1c x hx
    · show X (6 + l) 0 = nI (put S.ea S.nl a l) ∧ X (6 + l) 1 = nI (put S.eb S.nl b l) ∧ X (6 + l) 2 = nI (put S.rm S.nl r l) ∧ X (6 + l) 3 = nI (put S.lt S.nl e l) ∧ X (6 + l) 4 = nI (put S.pr S.nl p l)
      by_cases q : l = S.nl
      · subst q
        rw [put_at, put_at, put_at, put_at, put_at]
        exact G.2
      · rw [put_ne _ _ q, put_ne _ _ q, put_ne _ _ q, put_ne _ _ q, put_ne _ _ q, F' _ (by omega) (by omega)]
        exact h1d l hl
    · unfold cWays
      rw [F' 4 (by omega) (by omega)]
      rcases h10 with h | ⟨m, q1, q2, q3⟩
      · exact .inl h
      · exact .inr ⟨m, Nat.le_succ_of_le q1, q2, fun q => by have : m = S.nl + 1 := q; omega⟩
    · intro i hi
      rw [F' _ (by omega) (by omega)]
      rcases h11 i hi with h | ⟨g1, m, g2, g3, g4⟩
      · exact .inl h
      · exact .inr ⟨g1, m, Nat.le_succ_of_le g2, g3, fun q => by have : m = S.nl + 1 := q; omega⟩
  · obtain ⟨h1, h2, h3, h4, h5, h6, h7, h8, h9'⟩ := hM
    obtain ⟨h1a, h1b, h1c, h1d, h1e⟩ := h1
    obtain ⟨X, hX⟩ : ∃ X, X = up2 (up2 (up2 (up2 (up2 (up2 (up2 M 81 S.nl (nI a)) 82 S.nl (nI b)) 83 S.nl (nI r)) 84 S.nl (nI e)) 85 S.nl (nI p)) 89 S.nl 1) 79 1 (nI (S.nl + 1)) := ⟨_, rfl⟩
    have F : ∀ k j, ¬ (k = 79 ∧ j = 1) → ¬ ((81 ≤ k ∧ k ≤ 85 ∨ k = 89) ∧ j = S.nl) → X k j = M k j := fun k j q1 q2 => by
      rw [hX, up2_ap, if_neg q1, up2_ap, if_neg (by omega), up2_ap, if_neg (by omega), up2_ap, if_neg (by omega), up2_ap, if_neg (by omega), up2_ap, if_neg (by omega), up2_ap, if_neg (by omega)]
    have F' : ∀ k, k ≠ 79 → k = 80 ∨ 86 ≤ k → k ≠ 89 → X k = M k := fun k q1 q2 q3 => funext fun j => F k j (by omega) (by omega)
    have G : X 79 1 = nI (S.nl + 1) ∧ (X 81 S.nl = nI a ∧ X 82 S.nl = nI b ∧ X 83 S.nl = nI r ∧ X 84 S.nl = nI e ∧ X 85 S.nl = nI p) ∧ X 89 S.nl = 1 := by
      rw [hX]
      refine ⟨?_, ⟨?_, ?_, ?_, ?_, ?_⟩, ?_⟩ <;> simp (disch := omega) only [up2_o, up2_at, up2_sj]
    rw [← hX]
    refine ⟨⟨?_, G.1, fun x hx => ?_, fun l hl => ?_, fun l hl => ?_⟩, h2.of fun k q1 q2 => F' k (by omega) (by omega) (by omega), h3.of (F _ _ (by omega) (by omega)) fun k q1 q2 => F' k (by omega) (by omega) (by omega), h4.of fun k q1 q2 => F' k (by omega) (by omega) (by omega), mPl_mono (S := S) (S' := S.addL a b r e p) hS.2.2.2.2.1 hI h5 (fun k q1 q2 => F' k (by omega) (by omega) (by omega)), h6.of fun j q => F _ _ (by omega) (by omega), h7.of (F _ _ (by omega) (by omega)), h8.of (F _ _ (by omega) (by omega)), h9'.of fun k q1 q2 => F' k (by omega) (by omega) (by omega)⟩
    · rw [F _ _ (by omega) (by omega)]; exact h1a
    · rw [F' _ (by omega) (by omega) (by omega)]; exact h1c x hx
    · show X 81 l = nI (put S.ea S.nl a l) ∧ X 82 l = nI (put S.eb S.nl b l) ∧ X 83 l = nI (put S.rm S.nl r l) ∧ X 84 l = nI (put S.lt S.nl e l) ∧ X 85 l = nI (put S.pr S.nl p l)
      by_cases q : l = S.nl
      · subst q
        rw [put_at, put_at, put_at, put_at, put_at]
        exact G.2.1
      · rw [put_ne _ _ q, put_ne _ _ q, put_ne _ _ q, put_ne _ _ q, put_ne _ _ q, F _ _ (by omega) (by omega), F _ _ (by omega) (by omega), F _ _ (by omega) (by omega), F _ _ (by omega) (by omega), F _ _ (by omega) (by omega)]
        exact h1d l hl
    · show X 89 l = if S.dn.testBit l = true then 0 else 1
      have hl' : l < S.nl + 1 := hl
      by_cases q : l = S.nl
      · subst q
        rw [G.2.2, if_neg (by rw [bit_no hS.1.2.2.2.1 (Nat.le_refl _)]; decide)]
      · rw [F _ _ (by omega) (by omega)]
        exact h1e l (by omega)
theorem sim_line (hT : PlS T) (hS : S.ok) (hC : RC T S C) (hM : RM S M) (a1 a2 a3 a4 a5 : Int32) : jX11_lineK C a1 a2 a3 a4 a5 ∧ jX12_lineK M a1 a2 a3 a4 a5 ∧ jX11_line C a1 a2 a3 a4 a5 = jX12_line M a1 a2 a3 a4 a5 ∧ ∃ S' : St, S'.ok ∧ RC T S' (jX11_lineM C a1 a2 a3 a4 a5) ∧ RM S' (jX12_lineM M a1 a2 a3 a4 a5) := by
  have h9 := hS.1.2.1
  have e1 := no_M hS hM
  unfold jX11_lineK jX12_lineK jX11_line jX12_line jX11_lineM jX12_lineM jX12_finds jX5_addLine jX5_addLineM jX5_addLineK
  rw [hC.1.2.1, hM.1.2.1]
  have t1 := tw_CM hS hC hM a1 a2
  by_cases c1 : tw C a1 a2
  · obtain ⟨m1, m2, m3⟩ := t1.mp c1
    obtain ⟨a, b, ha, hb, hab, rfl, rfl⟩ := tw_of hS hC c1
    by_cases c3 : wi a3 1 50
    · by_cases c4 : wi a4 1 9
      · by_cases c5 : wi a5 0 9
        · by_cases c6 : S.nl = 9
          · have d1 : ¬ nI S.nl < 9 := by rw [c6]; decide
            have d2 : nI S.nl = 9 := by rw [c6]; rfl
            simp only [eq_true c1, eq_true m1, eq_true m2, eq_false m3, eq_true c3, eq_true c4, eq_true c5, eq_false d1, eq_true d2, ↓reduceIte, not_true_eq_false, not_false_eq_true, true_imp_iff, false_imp_iff, implies_true, and_true, true_and, eq_self]
            exact bad hT hS hC hM
          · have d1 : nI S.nl < 9 := by rw [li9]; exact nI_lt (by omega) (by omega)
            have d2 : ¬ nI S.nl = 9 := by rw [li9]; exact fun q => c6 ((nI_eq (by omega) (by omega)).mp q)
            obtain ⟨r, hr1, hr2, rfl⟩ := wi_nI (a := 1) (b := 50) (by omega) c3 (by omega)
            obtain ⟨e, he1, he2, rfl⟩ := wi_nI (a := 1) (b := 9) (by omega) c4 (by omega)
            obtain ⟨p, -, hp2, rfl⟩ := wi_nI (a := 0) (b := 9) (by omega) c5 (by omega)
            have vp : vp_in (nI S.nl) 9 := (vp_nI (by omega)).mpr (by omega)
            simp only [eq_true c1, eq_true m1, eq_true m2, eq_false m3, eq_true c3, eq_true c4, eq_true c5, eq_true d1, eq_false d2, eq_true vp, ↓reduceIte, not_true_eq_false, not_false_eq_true, true_imp_iff, false_imp_iff, implies_true, and_true, true_and, eq_self]
            rw [nI_clamp (by omega), nI_1]
            exact ⟨_, line_step hT hS hC hM (by omega) ha hb hab ⟨hr1, hr2⟩ ⟨he1, he2⟩ hp2⟩
        · simp only [eq_true c1, eq_true m1, eq_true m2, eq_false m3, eq_true c3, eq_true c4, eq_false c5, ↓reduceIte, not_true_eq_false, not_false_eq_true, true_imp_iff, false_imp_iff, implies_true, and_true, true_and, eq_self]
          exact bad hT hS hC hM
      · simp only [eq_true c1, eq_true m1, eq_true m2, eq_false m3, eq_true c3, eq_false c4, ↓reduceIte, not_true_eq_false, not_false_eq_true, true_imp_iff, false_imp_iff, implies_true, and_true, true_and, eq_self]
        exact bad hT hS hC hM
    · simp only [eq_true c1, eq_true m1, eq_true m2, eq_false m3, eq_false c3, ↓reduceIte, not_true_eq_false, not_false_eq_true, true_imp_iff, false_imp_iff, implies_true, and_true, true_and, eq_self]
      exact bad hT hS hC hM
  · have c2 := mt t1.mpr c1
    by_cases m1 : wi a1 0 (M 79 0 - 1)
    · by_cases m2 : wi a2 0 (M 79 0 - 1)
      · have m3 : a1 = a2 := by
          by_cases q : a1 = a2
          · exact q
          · exact absurd ⟨m1, m2, q⟩ c2
        simp only [eq_false c1, eq_true m1, eq_true m2, eq_true m3, ↓reduceIte, not_true_eq_false, not_false_eq_true, true_imp_iff, false_imp_iff, implies_true, and_true, true_and, eq_self]
        exact bad hT hS hC hM
      · simp only [eq_false c1, eq_true m1, eq_false m2, ↓reduceIte, not_true_eq_false, not_false_eq_true, true_imp_iff, false_imp_iff, implies_true, and_true, true_and, eq_self]
        exact bad hT hS hC hM
    · simp only [eq_false c1, eq_false m1, ↓reduceIte, not_true_eq_false, not_false_eq_true, true_imp_iff, false_imp_iff, implies_true, and_true, true_and, eq_self]
      exact bad hT hS hC hM
end SIM
end
