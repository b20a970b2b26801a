noncomputable section
def St.setT (S : St) (j a b c : Nat) : St := ((S.s_ls (put S.ls j a)).s_wk (put S.wk j b)).s_wo (put S.wo j c)
def St.setP (S : St) (j f l h : Nat) : St := ((S.s_fi (put S.fi j f)).s_la (put S.la j l)).s_ho (put S.ho j h)
section SIM
variable {T : Topo} {S : St} {C M : IM}
theorem terms_step (hT : PlS T) (hS : S.ok) (hC : RC T S C) (hM : RM S M) {j a b c : Nat} (hj : j < S.ns) (p0 : S.pl j = 0) (ha : a ≤ S.rt j) (hb : b ≤ 20) (hc : c ≤ 1000) {X Y : IM}
    (hX : X = up2 (up2 (up2 C (17 + 4 * j) 5 (nI a)) (17 + 4 * j) 6 (nI b)) (17 + 4 * j) 7 (nI c)) (hY : Y = up2 (up2 (up2 M 95 j (nI a)) 96 j (nI b)) 97 j (nI c)) :
    (S.setT j a b c).ok ∧ RC T (S.setT j a b c) X ∧ RM (S.setT j a b c) Y := by
  have h8 := hS.2.1.1
  have ne : ∀ s, s < 8 → S.pl s ≠ 0 → s ≠ j := fun s _ c e => c (e ▸ p0)
  have hI : ∀ s w u h, s < S.ns → S.pl s ≠ 0 → S.isPl s w u h → (S.setT j a b c).isPl s w u h := fun s w u h hs _ q => isPl_mono (S := S) (S' := S.setT j a b c) (Nat.le_refl _) (fun _ _ _ => rfl) (Nat.le_refl _) rfl rfl rfl q
  have e1 : ∀ s, s ≠ j → (S.setT j a b c).need s = S.need s := fun s q => by
    have q3 : (S.setT j a b c).ls s = S.ls s := put_ne S.ls a q
    unfold St.need
    rw [q3]; rfl
  have hlk : likeP S (S.setT j a b c) S.pl S.does (S.setT j a b c).does := ⟨h8, h8, fun s hs q => ⟨(hS.2.2.2.2.1 s hs q).1, (hS.2.2.2.2.1 s hs q).1, e1 s (ne s hs q), put_ne S.wk b (ne s hs q), fun t => rfl⟩⟩
  refine ⟨?_, ?_, ?_⟩
  · obtain ⟨bn, ⟨c1, c2, c3⟩, dd, sh, f, g⟩ := id hS
    refine ⟨bn, ⟨h8, fun s hs => ?_, fun s q1 q2 => ?_⟩, dd, sh, plOk_mono (S := S) (S' := S.setT j a b c) (Nat.le_refl _) hI f, likeP.allOk (S := S) (S' := S.setT j a b c) (D := S.does) (D' := (S.setT j a b c).does) hlk (fun l hl => .inl ⟨hl, rfl⟩) (fun x hx => .inl ⟨hx, rfl⟩) g⟩
    · have o := c2 s hs
      show S.kd s ≤ 4 ∧ S.sa s < S.nn ∧ S.sb s < S.nn ∧ S.sa s ≠ S.sb s ∧ 1 ≤ S.rt s ∧ S.rt s ≤ 20 ∧ 1 ≤ S.bd s ∧ S.bd s ≤ 99 ∧ put S.ls j a s ≤ S.rt s ∧ put S.wk j b s ≤ 20 ∧ put S.wo j c s ≤ 1000 ∧ S.fi s ≤ S.la s ∧ S.la s ≤ 23 ∧ S.ho s < 64 ∧ S.wt s ≤ 1000 ∧ S.slt s ≤ 20
      by_cases q : s = j
      · subst q
        rw [put_at, put_at, put_at]
        omega
      · rw [put_ne _ _ q, put_ne _ _ q, put_ne _ _ q]
        exact o
    · have o := c3 s q1 q2
      have q2' : S.ns ≤ s := q2
      show S.fi s = 0 ∧ S.ho s = 0 ∧ S.wt s = 0 ∧ S.slt s = 0 ∧ put S.ls j a s = 0 ∧ put S.wk j b s = 0 ∧ put S.wo j c s = 0
      rw [put_ne _ _ (by omega), put_ne _ _ (by omega), put_ne _ _ (by omega)]
      exact o
  · obtain ⟨h1, h2, h3, h4, h5, h6, h7, ⟨h8a, h8'⟩, g9, h10, h11, h12, h13, h14, h15⟩ := hC
    have F : ∀ k i, ¬ (k = 17 + 4 * j ∧ 5 ≤ i ∧ i ≤ 7) → X k i = C k i := fun k i q2 => by
      rw [hX, up2_ap, if_neg (by omega), up2_ap, if_neg (by omega), up2_ap, if_neg (by omega)]
    have F' : ∀ k, k ≠ 17 + 4 * j → X k = C k := fun k q2 => funext fun i => F k i (by omega)
    have G : X (17 + 4 * j) 5 = nI a ∧ X (17 + 4 * j) 6 = nI b ∧ X (17 + 4 * j) 7 = nI c := by
      rw [hX]
      refine ⟨?_, ?_, ?_⟩ <;> simp (disch := omega) only [up2_o, up2_at, up2_sj]
    refine ⟨h1.of fun k i q => F k i (by omega), h2.of fun k i q1 q2 q3 => F k i (by omega), h3.of (F _ _ (by omega)), ⟨by rw [F _ _ (by omega)]; exact h4.1, fun s hs => ?_⟩, ?_, h6.of fun s hs => F _ _ (by omega), h7.of fun s i hs q1 q2 => F _ _ (by omega), ⟨by rw [F _ _ (by omega)]; exact h8a, hlk.cBk (h8'.of fun k q1 q2 => F' k (by omega))⟩, g9.of fun k q1 q2 => F' k (by omega), cWays.congr (S := S) (S' := S.setT j a b c) rfl rfl rfl rfl (Nat.le_refl _) (h10.of fun k q => F' k (by omega)), cPlc.congr (S := S) (S' := S.setT j a b c) hS.1 hS.2.1 rfl rfl rfl rfl (Nat.le_refl _) (Nat.le_refl _) (fun s hs => ⟨rfl, rfl, rfl, rfl⟩) (h11.of hT fun i hi => ⟨F _ _ (by omega), F _ _ (by omega), F' _ (by have := (hT i hi).1; omega)⟩), h12.of (F' _ (by omega)), h13.of (F _ _ (by omega)), h14.of (F _ _ (by omega)), h15.of fun k q1 q2 => F' k (by omega)⟩
    · have o := h4.2 s hs
      show X (17 + 4 * s) 0 = nI (S.kd s) ∧ X (17 + 4 * s) 1 = nI (S.sa s) ∧ X (17 + 4 * s) 2 = nI (S.sb s) ∧ X (17 + 4 * s) 3 = nI (S.rt s) ∧ X (17 + 4 * s) 4 = nI (S.bd s) ∧ X (17 + 4 * s) 5 = nI (put S.ls j a s) ∧ X (17 + 4 * s) 6 = nI (put S.wk j b s) ∧ X (17 + 4 * s) 7 = nI (put S.wo j c s) ∧ X (17 + 4 * s) 8 = nI (S.fi s) ∧ X (17 + 4 * s) 9 = nI (S.la s) ∧ X (17 + 4 * s) 10 = nI (S.ho s)
      by_cases q : s = j
      · subst q
        rw [put_at, put_at, put_at, F _ 0 (by omega), F _ 1 (by omega), F _ 2 (by omega), F _ 3 (by omega), F _ 4 (by omega), F _ 8 (by omega), F _ 9 (by omega), F _ 10 (by omega)]
        exact ⟨o.1, o.2.1, o.2.2.1, o.2.2.2.1, o.2.2.2.2.1, G.1, G.2.1, G.2.2, o.2.2.2.2.2.2.2.2⟩
      · rw [put_ne _ _ q, put_ne _ _ q, put_ne _ _ q, F' _ (by omega)]
        exact o
    · have : cTk S X := h5.of fun s hs => F _ _ (by omega)
      exact this
  · obtain ⟨h1, h2, h3, h4, h5, h6, h7, h8a, h9'⟩ := hM
    have F : ∀ k i, ¬ (95 ≤ k ∧ k ≤ 97 ∧ i = j) → Y k i = M k i := fun k i q2 => by
      rw [hY, up2_ap, if_neg (by omega), up2_ap, if_neg (by omega), up2_ap, if_neg (by omega)]
    have F' : ∀ k, k < 95 ∨ 97 < k → Y k = M k := fun k q2 => funext fun i => F k i (by omega)
    have G : Y 95 j = nI a ∧ Y 96 j = nI b ∧ Y 97 j = nI c := by
      rw [hY]
      refine ⟨?_, ?_, ?_⟩ <;> simp (disch := omega) only [up2_o, up2_at, up2_sj]
    refine ⟨h1.of (F _ _ (by omega)) (F _ _ (by omega)) fun k q => F' k (by omega), h2.of fun k q1 q2 => F' k (by omega), ⟨by rw [F _ _ (by omega)]; exact h3.1, fun s hs => ?_⟩, h4.of fun k q1 q2 => F' k (by omega), mPl_mono (S := S) (S' := S.setT j a b c) hS.2.2.2.2.1 hI h5 (fun k q1 q2 => F' k (by omega)), h6.of fun i q => F _ _ (by omega), h7.of (F _ _ (by omega)), h8a.of (F _ _ (by omega)), h9'.of fun k q1 q2 => F' k (by omega)⟩
    have o := h3.2 s hs
    show Y 90 s = nI (S.kd s) ∧ Y 91 s = nI (S.sa s) ∧ Y 92 s = nI (S.sb s) ∧ Y 93 s = nI (S.rt s) ∧ Y 94 s = nI (S.bd s) ∧ Y 95 s = nI (put S.ls j a s) ∧ Y 96 s = nI (put S.wk j b s) ∧ Y 97 s = nI (put S.wo j c s) ∧ Y 98 s = nI (S.fi s) ∧ Y 99 s = nI (S.la s) ∧ Y 100 s = nI (S.ho s)
    rw [F' 90 (by omega), F' 91 (by omega), F' 92 (by omega), F' 93 (by omega), F' 94 (by omega), F' 98 (by omega), F' 99 (by omega), F' 100 (by omega)]
    by_cases q : s = j
    · subst q
      rw [put_at, put_at, put_at]
      exact ⟨o.1, o.2.1, o.2.2.1, o.2.2.2.1, o.2.2.2.2.1, G.1, G.2.1, G.2.2, o.2.2.2.2.2.2.2.2⟩
    · rw [put_ne _ _ q, put_ne _ _ q, put_ne _ _ q, F 95 _ (by omega), F 96 _ (by omega), F 97 _ (by omega)]
      exact o
theorem span_step (hT : PlS T) (hS : S.ok) (hC : RC T S C) (hM : RM S M) {j f l h : Nat} (hj : j < S.ns) (p0 : S.pl j = 0) (hf : f ≤ l) (hl : l ≤ 23) (hh : h < 64) {X Y : IM}
    (hX : X = up2 (up2 (up2 (up2 C (17 + 4 * j) 8 (nI f)) (17 + 4 * j) 9 (nI l)) (17 + 4 * j) 10 (nI h)) (17 + 4 * j) 11 (nI (bs (tkB (S.kd j) f l h) 24))) (hY : Y = up2 (up2 (up2 M 98 j (nI f)) 99 j (nI l)) 100 j (nI h)) :
    (S.setP j f l h).ok ∧ RC T (S.setP j f l h) X ∧ RM (S.setP j f l h) Y := by
  have h8 := hS.2.1.1
  have ne : ∀ s, s < 8 → S.pl s ≠ 0 → s ≠ j := fun s _ c e => c (e ▸ p0)
  have hI : ∀ s w u x, s < S.ns → S.pl s ≠ 0 → S.isPl s w u x → (S.setP j f l h).isPl s w u x := fun s w u x hs _ q => isPl_mono (S := S) (S' := S.setP j f l h) (Nat.le_refl _) (fun _ _ _ => rfl) (Nat.le_refl _) rfl rfl rfl q
  have e2 : ∀ s t, s ≠ j → (S.setP j f l h).does s t = S.does s t := fun s t q => by
    have q1 : (S.setP j f l h).fi s = S.fi s := put_ne S.fi f q
    have q2 : (S.setP j f l h).la s = S.la s := put_ne S.la l q
    have q3 : (S.setP j f l h).ho s = S.ho s := put_ne S.ho h q
    unfold St.does
    rw [q1, q2, q3]; rfl
  have hlk : likeP S (S.setP j f l h) S.pl S.does (S.setP j f l h).does := ⟨h8, h8, fun s hs q => ⟨(hS.2.2.2.2.1 s hs q).1, (hS.2.2.2.2.1 s hs q).1, rfl, rfl, fun t => e2 s t (ne s hs q)⟩⟩
  refine ⟨?_, ?_, ?_⟩
  · obtain ⟨bn, ⟨c1, c2, c3⟩, dd, sh, fp, g⟩ := id hS
    refine ⟨bn, ⟨h8, fun s hs => ?_, fun s q1 q2 => ?_⟩, dd, sh, plOk_mono (S := S) (S' := S.setP j f l h) (Nat.le_refl _) hI fp, likeP.allOk (S := S) (S' := S.setP j f l h) (D := S.does) (D' := (S.setP j f l h).does) hlk (fun l hl => .inl ⟨hl, rfl⟩) (fun x hx => .inl ⟨hx, rfl⟩) g⟩
    · have o := c2 s hs
      show S.kd s ≤ 4 ∧ S.sa s < S.nn ∧ S.sb s < S.nn ∧ S.sa s ≠ S.sb s ∧ 1 ≤ S.rt s ∧ S.rt s ≤ 20 ∧ 1 ≤ S.bd s ∧ S.bd s ≤ 99 ∧ S.ls s ≤ S.rt s ∧ S.wk s ≤ 20 ∧ S.wo s ≤ 1000 ∧ put S.fi j f s ≤ put S.la j l s ∧ put S.la j l s ≤ 23 ∧ put S.ho j h s < 64 ∧ S.wt s ≤ 1000 ∧ S.slt s ≤ 20
      by_cases q : s = j
      · subst q
        rw [put_at, put_at, put_at]
        omega
      · rw [put_ne _ _ q, put_ne _ _ q, put_ne _ _ q]
        exact o
    · have o := c3 s q1 q2
      have q2' : S.ns ≤ s := q2
      show put S.fi j f s = 0 ∧ put S.ho j h s = 0 ∧ S.wt s = 0 ∧ S.slt s = 0 ∧ S.ls s = 0 ∧ S.wk s = 0 ∧ S.wo s = 0
      rw [put_ne _ _ (by omega), put_ne _ _ (by omega)]
      exact o
  · obtain ⟨h1, h2, h3, h4, h5, h6, h7, ⟨h8a, h8'⟩, g9, h10, h11, h12, h13, h14, h15⟩ := hC
    have F : ∀ k i, ¬ (k = 17 + 4 * j ∧ 8 ≤ i ∧ i ≤ 11) → X k i = C k i := fun k i q2 => by
      rw [hX, up2_ap, if_neg (by omega), up2_ap, if_neg (by omega), up2_ap, if_neg (by omega), up2_ap, if_neg (by omega)]
    have F' : ∀ k, k ≠ 17 + 4 * j → X k = C k := fun k q2 => funext fun i => F k i (by omega)
    have G : X (17 + 4 * j) 8 = nI f ∧ X (17 + 4 * j) 9 = nI l ∧ X (17 + 4 * j) 10 = nI h ∧ X (17 + 4 * j) 11 = nI (bs (tkB (S.kd j) f l h) 24) := by
      rw [hX]
      refine ⟨?_, ?_, ?_, ?_⟩ <;> simp (disch := omega) only [up2_o, up2_at, up2_sj]
    refine ⟨h1.of fun k i q => F k i (by omega), h2.of fun k i q1 q2 q3 => F k i (by omega), h3.of (F _ _ (by omega)), ⟨by rw [F _ _ (by omega)]; exact h4.1, fun s hs => ?_⟩, fun s hs => ?_, h6.of fun s hs => F _ _ (by omega), h7.of fun s i hs q1 q2 => F _ _ (by omega), ⟨by rw [F _ _ (by omega)]; exact h8a, hlk.cBk (h8'.of fun k q1 q2 => F' k (by omega))⟩, g9.of fun k q1 q2 => F' k (by omega), cWays.congr (S := S) (S' := S.setP j f l h) rfl rfl rfl rfl (Nat.le_refl _) (h10.of fun k q => F' k (by omega)), cPlc.congr (S := S) (S' := S.setP j f l h) hS.1 hS.2.1 rfl rfl rfl rfl (Nat.le_refl _) (Nat.le_refl _) (fun s hs => ⟨rfl, rfl, rfl, rfl⟩) (h11.of hT fun i hi => ⟨F _ _ (by omega), F _ _ (by omega), F' _ (by have := (hT i hi).1; omega)⟩), h12.of (F' _ (by omega)), h13.of (F _ _ (by omega)), h14.of (F _ _ (by omega)), h15.of fun k q1 q2 => F' k (by omega)⟩
    · have o := h4.2 s hs
      show X (17 + 4 * s) 0 = nI (S.kd s) ∧ X (17 + 4 * s) 1 = nI (S.sa s) ∧ X (17 + 4 * s) 2 = nI (S.sb s) ∧ X (17 + 4 * s) 3 = nI (S.rt s) ∧ X (17 + 4 * s) 4 = nI (S.bd s) ∧ X (17 + 4 * s) 5 = nI (S.ls s) ∧ X (17 + 4 * s) 6 = nI (S.wk s) ∧ X (17 + 4 * s) 7 = nI (S.wo s) ∧ X (17 + 4 * s) 8 = nI (put S.fi j f s) ∧ X (17 + 4 * s) 9 = nI (put S.la j l s) ∧ X (17 + 4 * s) 10 = nI (put S.ho j h s)
      by_cases q : s = j
      · subst q
        rw [put_at, put_at, put_at, F _ 0 (by omega), F _ 1 (by omega), F _ 2 (by omega), F _ 3 (by omega), F _ 4 (by omega), F _ 5 (by omega), F _ 6 (by omega), F _ 7 (by omega)]
        exact ⟨o.1, o.2.1, o.2.2.1, o.2.2.2.1, o.2.2.2.2.1, o.2.2.2.2.2.1, o.2.2.2.2.2.2.1, o.2.2.2.2.2.2.2.1, G.1, G.2.1, G.2.2.1⟩
      · rw [put_ne _ _ q, put_ne _ _ q, put_ne _ _ q, F' _ (by omega)]
        exact o
    · have hs' : s < S.ns := hs
      by_cases q : s = j
      · subst q
        rw [G.2.2.2]
        congr 1
        refine bs_congr fun t _ => ?_
        unfold tkB St.does
        rw [show (S.setP s f l h).fi s = f from put_at _ _ _, show (S.setP s f l h).la s = l from put_at _ _ _, show (S.setP s f l h).ho s = h from put_at _ _ _]; rfl
      · rw [F' _ (by omega), h5 s hs']
        congr 1
        exact bs_congr fun t _ => (e2 s t q).symm
  · obtain ⟨h1, h2, h3, h4, h5, h6, h7, h8a, h9'⟩ := hM
    have F : ∀ k i, ¬ (98 ≤ k ∧ k ≤ 100 ∧ i = j) → Y k i = M k i := fun k i q2 => by
      rw [hY, up2_ap, if_neg (by omega), up2_ap, if_neg (by omega), up2_ap, if_neg (by omega)]
    have F' : ∀ k, k < 98 ∨ 100 < k → Y k = M k := fun k q2 => funext fun i => F k i (by omega)
    have G : Y 98 j = nI f ∧ Y 99 j = nI l ∧ Y 100 j = nI h := by
      rw [hY]
      refine ⟨?_, ?_, ?_⟩ <;> simp (disch := omega) only [up2_o, up2_at, up2_sj]
    refine ⟨h1.of (F _ _ (by omega)) (F _ _ (by omega)) fun k q => F' k (by omega), h2.of fun k q1 q2 => F' k (by omega), ⟨by rw [F _ _ (by omega)]; exact h3.1, fun s hs => ?_⟩, h4.of fun k q1 q2 => F' k (by omega), mPl_mono (S := S) (S' := S.setP j f l h) hS.2.2.2.2.1 hI h5 (fun k q1 q2 => F' k (by omega)), h6.of fun i q => F _ _ (by omega), h7.of (F _ _ (by omega)), h8a.of (F _ _ (by omega)), h9'.of fun k q1 q2 => F' k (by omega)⟩
    have o := h3.2 s hs
    show Y 90 s = nI (S.kd s) ∧ Y 91 s = nI (S.sa s) ∧ Y 92 s = nI (S.sb s) ∧ Y 93 s = nI (S.rt s) ∧ Y 94 s = nI (S.bd s) ∧ Y 95 s = nI (S.ls s) ∧ Y 96 s = nI (S.wk s) ∧ Y 97 s = nI (S.wo s) ∧ Y 98 s = nI (put S.fi j f s) ∧ Y 99 s = nI (put S.la j l s) ∧ Y 100 s = nI (put S.ho j h s)
    rw [F' 90 (by omega), F' 91 (by omega), F' 92 (by omega), F' 93 (by omega), F' 94 (by omega), F' 95 (by omega), F' 96 (by omega), F' 97 (by omega)]
    by_cases q : s = j
    · subst q
      rw [put_at, put_at, put_at]
      exact ⟨o.1, o.2.1, o.2.2.1, o.2.2.2.1, o.2.2.2.2.1, o.2.2.2.2.2.1, o.2.2.2.2.2.2.1, o.2.2.2.2.2.2.2.1, G.1, G.2.1, G.2.2⟩
    · rw [put_ne _ _ q, put_ne _ _ q, put_ne _ _ q, F 98 _ (by omega), F 99 _ (by omega), F 100 _ (by omega)]
      exact o
theorem sim_terms (hT : PlS T) (hS : S.ok) (hC : RC T S C) (hM : RM S M) (a1 a2 a3 a4 : Int32) : jX11_termsK C a1 a2 a3 a4 ∧ jX12_termsK M a1 a2 a3 a4 ∧ jX11_terms C a1 a2 a3 a4 = jX12_terms M a1 a2 a3 a4 ∧ ∃ S' : St, S'.ok ∧ RC T S' (jX11_termsM C a1 a2 a3 a4) ∧ RM S' (jX12_termsM M a1 a2 a3 a4) := by
  have h8 := hS.2.1.1
  unfold jX11_termsK jX12_termsK jX11_terms jX12_terms jX11_termsM jX12_termsM jX12_finds
  by_cases h : ∃ j, j < S.ns ∧ a1 = nI j
  · have e1 := (sl_C hS hC a1).mpr h
    have e2 := (sl_M hS hM a1).mpr h
    obtain ⟨j, hj, rfl⟩ := h
    have v : vp_in (nI j) 8 := (vp_nI (by omega)).mpr (by omega)
    have i1 := in_C hS hC (j := j) (by omega)
    have i2 := in_M hM (j := j) (by omega)
    have hr := hS.2.1.2.1 j hj
    rw [nI_clamp (by omega), (hC.2.2.2.1.2 j (by omega)).2.2.2.1, (hM.2.2.1.2 j (by omega)).2.2.2.1]
    by_cases c2 : wi a2 0 (nI (S.rt j))
    · by_cases c3 : wi a3 0 20
      · by_cases c4 : wi a4 0 1000
        · by_cases c : S.pl j = 0
          · have d1 : ¬ inS C j := fun q => i1.mp q c
            have d2 := i2.mpr c
            obtain ⟨a, -, ha, rfl⟩ := wi_nI (a := 0) (b := S.rt j) (by omega) c2 (by omega)
            obtain ⟨b, -, hb, rfl⟩ := wi_nI (a := 0) (b := 20) (by omega) c3 (by omega)
            obtain ⟨x, -, hx, rfl⟩ := wi_nI (a := 0) (b := 1000) (by omega) c4 (by omega)
            simp only [eq_true e1, eq_true e2, eq_true c2, eq_true c3, eq_true c4, eq_false d1, eq_true d2, eq_true v, ↓reduceIte, not_true_eq_false, not_false_eq_true, true_imp_iff, false_imp_iff, implies_true, and_true, true_and, eq_self]
            exact ⟨_, terms_step hT hS hC hM hj c ha hb hx rfl rfl⟩
          · have d1 : inS C j := i1.mpr c
            have d2 : ¬ M 106 j = 0 := fun q => c (i2.mp q)
            simp only [eq_true e1, eq_true e2, eq_true c2, eq_true c3, eq_true c4, eq_true d1, eq_false d2, eq_true v, ↓reduceIte, not_true_eq_false, not_false_eq_true, true_imp_iff, false_imp_iff, implies_true, and_true, true_and, eq_self]
            exact bad hT hS hC hM
        · simp only [eq_true e1, eq_true e2, eq_true c2, eq_true c3, eq_false c4, eq_true v, ↓reduceIte, not_true_eq_false, not_false_eq_true, true_imp_iff, false_imp_iff, implies_true, and_true, true_and, eq_self]
          exact bad hT hS hC hM
      · simp only [eq_true e1, eq_true e2, eq_true c2, eq_false c3, eq_true v, ↓reduceIte, not_true_eq_false, not_false_eq_true, true_imp_iff, false_imp_iff, implies_true, and_true, true_and, eq_self]
        exact bad hT hS hC hM
    · simp only [eq_true e1, eq_true e2, eq_false c2, eq_true v, ↓reduceIte, not_true_eq_false, not_false_eq_true, true_imp_iff, false_imp_iff, implies_true, and_true, true_and, eq_self]
      exact bad hT hS hC hM
  · have e1 := mt (sl_C hS hC a1).mp h
    have e2 := mt (sl_M hS hM a1).mp h
    simp only [eq_false e1, eq_false e2, ↓reduceIte, not_true_eq_false, not_false_eq_true, true_imp_iff, false_imp_iff, implies_true, and_true, true_and, eq_self]
    exact bad hT hS hC hM
theorem sim_span (hT : PlS T) (hS : S.ok) (hC : RC T S C) (hM : RM S M) (a1 a2 a3 a4 : Int32) : jX11_spanK C a1 a2 a3 a4 ∧ jX12_spanK M a1 a2 a3 a4 ∧ jX11_span C a1 a2 a3 a4 = jX12_span M a1 a2 a3 a4 ∧ ∃ S' : St, S'.ok ∧ RC T S' (jX11_spanM C a1 a2 a3 a4) ∧ RM S' (jX12_spanM M a1 a2 a3 a4) := by
  have h8 := hS.2.1.1
  unfold jX11_spanK jX12_spanK jX11_span jX12_span jX11_spanM jX12_spanM jX12_finds
  by_cases h : ∃ j, j < S.ns ∧ a1 = nI j
  · have e1 := (sl_C hS hC a1).mpr h
    have e2 := (sl_M hS hM a1).mpr h
    obtain ⟨j, hj, rfl⟩ := h
    have v : vp_in (nI j) 8 := (vp_nI (by omega)).mpr (by omega)
    have i1 := in_C hS hC (j := j) (by omega)
    have i2 := in_M hM (j := j) (by omega)
    have hr := hS.2.1.2.1 j hj
    rw [nI_clamp (by omega)]
    by_cases c2 : wi a2 0 23
    · obtain ⟨f, -, hf, rfl⟩ := wi_nI (a := 0) (b := 23) (by omega) c2 (by omega)
      by_cases c3 : wi a3 (nI f) 23
      · obtain ⟨l, hl1, hl2, rfl⟩ := wi_nI (a := f) (b := 23) (by omega) c3 (by omega)
        have c3' : wi (nI l) 0 23 := (wi_nI' (a := 0) (b := 23) (by omega) (by omega) (by omega)).mpr ⟨by omega, by omega⟩
        have c3'' : ¬ nI l < nI f := nI_nlt (by omega) (by omega)
        by_cases c4 : wi a4 0 63
        · by_cases c : S.pl j = 0
          · have d1 : ¬ inS C j := fun q => i1.mp q c
            have d2 := i2.mpr c
            obtain ⟨x, -, hx, rfl⟩ := wi_nI (a := 0) (b := 63) (by omega) c4 (by omega)
            obtain ⟨s1, s2⟩ := setSpan_S (I := C) (i := j) (kd := S.kd j) (f := f) (l := l) (h := x) (hC.2.2.2.1.2 j (by omega)).1 hr.1 hl1 hl2 (by omega)
            simp only [eq_true e1, eq_true e2, eq_true c2, eq_true c3, eq_true c3', eq_false c3'', eq_true c4, eq_false d1, eq_true d2, eq_true v, eq_true s1, s2, ↓reduceIte, not_true_eq_false, not_false_eq_true, true_imp_iff, false_imp_iff, implies_true, and_true, true_and, eq_self]
            exact ⟨_, span_step hT hS hC hM hj c hl1 hl2 (by omega) rfl rfl⟩
          · have d1 : inS C j := i1.mpr c
            have d2 : ¬ M 106 j = 0 := fun q => c (i2.mp q)
            simp only [eq_true e1, eq_true e2, eq_true c2, eq_true c3, eq_true c3', eq_false c3'', eq_true c4, eq_true d1, eq_false d2, eq_true v, ↓reduceIte, not_true_eq_false, not_false_eq_true, true_imp_iff, false_imp_iff, implies_true, and_true, true_and, eq_self]
            exact bad hT hS hC hM
        · simp only [eq_true e1, eq_true e2, eq_true c2, eq_true c3, eq_true c3', eq_false c3'', eq_false c4, eq_true v, ↓reduceIte, not_true_eq_false, not_false_eq_true, true_imp_iff, false_imp_iff, implies_true, and_true, true_and, eq_self]
          exact bad hT hS hC hM
      · by_cases c5 : wi a3 0 23
        · obtain ⟨l, -, hl2, rfl⟩ := wi_nI (a := 0) (b := 23) (by omega) c5 (by omega)
          have c6 : nI l < nI f := by
            by_cases q : l < f
            · exact nI_lt q (by omega)
            · exact absurd ((wi_nI' (a := f) (b := 23) (by omega) (by omega) (by omega)).mpr ⟨by omega, hl2⟩) c3
          simp only [eq_true e1, eq_true e2, eq_true c2, eq_false c3, eq_true c5, eq_true c6, eq_true v, ↓reduceIte, not_true_eq_false, not_false_eq_true, true_imp_iff, false_imp_iff, implies_true, and_true, true_and, eq_self]
          exact bad hT hS hC hM
        · simp only [eq_true e1, eq_true e2, eq_true c2, eq_false c3, eq_false c5, eq_true v, ↓reduceIte, not_true_eq_false, not_false_eq_true, true_imp_iff, false_imp_iff, implies_true, and_true, true_and, eq_self]
          exact bad hT hS hC hM
    · simp only [eq_true e1, eq_true e2, eq_false c2, eq_true v, ↓reduceIte, not_true_eq_false, not_false_eq_true, true_imp_iff, false_imp_iff, implies_true, and_true, true_and, eq_self]
      exact bad hT hS hC hM
  · have e1 := mt (sl_C hS hC a1).mp h
    have e2 := mt (sl_M hS hM a1).mp h
    simp only [eq_false e1, eq_false e2, ↓reduceIte, not_true_eq_false, not_false_eq_true, true_imp_iff, false_imp_iff, implies_true, and_true, true_and, eq_self]
    exact bad hT hS hC hM
end SIM
end
