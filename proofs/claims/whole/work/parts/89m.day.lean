noncomputable section
section GO2
variable {σ β τ γ : Type} {F : Nat → σ → β} {O : Nat → σ → Prop} {F2 : Nat → τ → γ} {O2 : Nat → τ → Prop}
theorem Go.loop2 {B B2 : Nat} {P : Nat → σ → τ → Prop} : ∀ N, (∀ k, k < N → ∀ s t, P k s t → ∃ s' t', P (k + 1) s' t' ∧ Go F O B s s' ∧ Go F2 O2 B2 t t') → ∀ s t, P 0 s t → ∃ s' t', P N s' t' ∧ Go F O (N * B) s s' ∧ Go F2 O2 (N * B2) t t'
  | 0, _, s, t, h => ⟨s, t, h, Go.refl.le (by omega), Go.refl.le (by omega)⟩
  | N + 1, h, s, t, h0 => by
    obtain ⟨s1, t1, p1, g1, k1⟩ := Go.loop2 N (fun k hk => h k (by omega)) s t h0
    obtain ⟨s2, t2, p2, g2, k2⟩ := h N (by omega) s1 t1 p1
    exact ⟨s2, t2, p2, by rw [Nat.add_mul, Nat.one_mul]; exact g1.trans g2, by rw [Nat.add_mul, Nat.one_mul]; exact k1.trans k2⟩
end GO2
section DAY
variable {T : Topo} {S : St} {C M : IM}
/-- both stand for the same state -/
def RR (T : Topo) (S : St) (C M : IM) : Prop := S.ok ∧ RC T S C ∧ RM S M
/-- all but the day's numbers is the same -/
def SameD (S S' : St) : Prop := Core S S' ∧ S'.pl = S.pl ∧ S'.dn = S.dn ∧ S'.finds = S.finds ∧ S'.tried = S.tried ∧ S'.sbits = S.sbits ∧ S'.ssize = S.ssize ∧ S'.sh = S.sh
theorem SameD.trans {S S' S'' : St} (h : SameD S S') (h2 : SameD S' S'') : SameD S S'' := by
  obtain ⟨a1, a2, a3, a4, a5, a6, a7, a8⟩ := h
  obtain ⟨b1, b2, b3, b4, b5, b6, b7, b8⟩ := h2
  exact ⟨⟨b1.nn.trans a1.nn, b1.nl.trans a1.nl, b1.ns.trans a1.ns, b1.wr.trans a1.wr, b1.ea.trans a1.ea, b1.eb.trans a1.eb, b1.rm.trans a1.rm, b1.lt.trans a1.lt, b1.pr.trans a1.pr, b1.kd.trans a1.kd, b1.sa.trans a1.sa, b1.sb.trans a1.sb, b1.rt.trans a1.rt, b1.bd.trans a1.bd, b1.ls.trans a1.ls, b1.wk.trans a1.wk, b1.wo.trans a1.wo, b1.fi.trans a1.fi, b1.la.trans a1.la, b1.ho.trans a1.ho⟩, b2.trans a2, b3.trans a3, b4.trans a4, b5.trans a5, b6.trans a6, b7.trans a7, b8.trans a8⟩
theorem SameD.refl (S : St) : SameD S S := ⟨⟨rfl, rfl, rfl, rfl, rfl, rfl, rfl, rfl, rfl, rfl, rfl, rfl, rfl, rfl, rfl, rfl, rfl, rfl, rfl, rfl⟩, rfl, rfl, rfl, rfl, rfl, rfl, rfl⟩
theorem day_upd {S' : St} {C' M' : IM} (hT : PlS T) (h : RR T S C M) (hD : SameD S S') (b1 : ∀ l, l < S.nl → S'.lat l ≤ S.rm l) (b2 : ∀ l, l < 9 → S.nl ≤ l → S'.lat l = 0) (b3 : ∀ s, s < S.ns → S'.wt s ≤ 1000 ∧ S'.slt s ≤ 20) (b4 : ∀ s, s < 8 → S.ns ≤ s → S'.wt s = 0 ∧ S'.slt s = 0) (b5 : S'.tick < 24 ∧ S'.lent ≤ 8)
    (f : ∀ k j, ¬ (6 ≤ k ∧ k < 15 ∧ 5 ≤ j) → ¬ (17 ≤ k ∧ k < 49 ∧ k % 4 = 1 ∧ 13 ≤ j) → k ≠ 69 → C' k j = C k j) (g : ∀ k j, ¬ (86 ≤ k ∧ k ≤ 88) → ¬ (101 ≤ k ∧ k ≤ 105) → ¬ (k = 79 ∧ (j = 3 ∨ j = 6 ∨ j = 7 ∨ j = 8)) → M' k j = M k j)
    (c1 : cPass S' C') (c2 : cWt S' C') (c3 : cDay S' C') (m1 : mPass S' M') (m2 : mWt S' M') (m3 : mDay S' M') : RR T S' C' M' := by
  obtain ⟨hS, hC, hM⟩ := h
  obtain ⟨hK, a2, a3, a4, a5, a6, a7, a8⟩ := hD
  have f' : ∀ k, k < 6 ∨ k = 15 ∨ k = 16 ∨ (49 ≤ k ∧ k ≠ 69) → C' k = C k := fun k q => funext fun j => f k j (by omega) (by omega) (by omega)
  have g' : ∀ k, k ≠ 79 → ¬ (86 ≤ k ∧ k ≤ 88) → ¬ (101 ≤ k ∧ k ≤ 105) → M' k = M k := fun k q1 q2 q3 => funext fun j => g k j q2 q3 (by omega)
  refine ⟨ok_upd hS hK a2 (hK.netOk hS.1 (by rw [a3]; exact hS.1.2.2.2.1) b1) (hK.slOk hS.2.1 b4 b3) ⟨b5.1, b5.2, by rw [hK.nl]; exact b2⟩ (by unfold St.shOk; rw [a7]; exact hS.2.2.2.1), ?_, ?_⟩
  · refine RC.upd hT hS hK a2 hC (fun k j q => f k j (by omega) (by omega) (by omega)) c1 ?_ c2 c3 ?_ ?_ ?_
    · unfold cDn; rw [a3, f' 1 (by omega)]; exact hC.2.2.1
    · unfold cFnd; rw [a4, f' 0 (by omega)]; exact hC.2.2.2.2.2.2.2.2.2.2.2.2.1
    · unfold cTry; rw [a5, f' 56 (by omega)]; exact hC.2.2.2.2.2.2.2.2.2.2.2.2.2.1
    · unfold cSh; rw [a6, a7, a8]; exact hC.2.2.2.2.2.2.2.2.2.2.2.2.2.2.of fun k q1 q2 => f' k (by omega)
  · refine RM.upd hK a2 hM (fun k j q => g k j (by omega) (by omega) (by omega)) (fun l hl => ?_) m1 m2 m3 ?_ ?_ ?_
    · rw [a3, g' 89 (by omega) (by omega) (by omega)]; exact hM.1.2.2.2.2 l hl
    · unfold mFnd; rw [a4, g 79 4 (by omega) (by omega) (by omega)]; exact hM.2.2.2.2.2.2.1
    · unfold mTry; rw [a5, g 79 5 (by omega) (by omega) (by omega)]; exact hM.2.2.2.2.2.2.2.1
    · unfold mSh; rw [a6, a7, a8]; exact hM.2.2.2.2.2.2.2.2.of fun k q1 q2 => g' k (by omega) (by omega) (by omega)
theorem lat_ok (h : S.ok) {l : Nat} (hl : l < S.nl) : S.lat l ≤ S.rm l := (h.1.2.2.2.2 l hl).2.2.2.2.2.2.2.2
theorem wt_ok (h : S.ok) {s : Nat} (hs : s < S.ns) : S.wt s ≤ 1000 ∧ S.slt s ≤ 20 := by have := h.2.1.2.1 s hs; exact ⟨this.2.2.2.2.2.2.2.2.2.2.2.2.2.2.1, this.2.2.2.2.2.2.2.2.2.2.2.2.2.2.2⟩
theorem wt_no (h : S.ok) {s : Nat} (hs : s < 8) (hn : S.ns ≤ s) : S.wt s = 0 ∧ S.slt s = 0 := by have := h.2.1.2.2 s hs hn; exact ⟨this.2.2.1, this.2.2.2.1⟩
/-- one LINE's latest forgotten -/
theorem reset_line (hT : PlS T) (h : RR T S C M) {l : Nat} (hl : l < S.nl) : RR T (S.s_lat (put S.lat l 0)) (up2 C (6 + l) 6 0) (up2 M 87 l 0) := by
  have h9 := h.1.1.2.1
  have hz : ∀ x, put S.lat l 0 x = 0 ∨ put S.lat l 0 x = S.lat x := fun x => by
    by_cases e : x = l
    · rw [e, put_at]; exact .inl rfl
    · rw [put_ne _ _ e]; exact .inr rfl
  refine day_upd hT h ⟨⟨rfl, rfl, rfl, rfl, rfl, rfl, rfl, rfl, rfl, rfl, rfl, rfl, rfl, rfl, rfl, rfl, rfl, rfl, rfl, rfl⟩, rfl, rfl, rfl, rfl, rfl, rfl, rfl⟩ (fun x hx => ?_) (fun x q1 q2 => ?_) (fun s hs => wt_ok h.1 hs) (fun s q1 q2 => wt_no h.1 q1 q2) ⟨h.1.2.2.1.1, h.1.2.2.1.2.1⟩ (fun k j q1 q2 q3 => by rw [up2_ap, if_neg (by omega)]) (fun k j q1 q2 q3 => by rw [up2_ap, if_neg (by omega)]) (fun x hx => ?_) (h.2.1.2.2.2.2.2.2.1.of fun s j q1 q2 q3 => by rw [up2_ap, if_neg (by omega)]) (h.2.1.2.2.2.2.2.2.2.2.2.2.2.1.of (up2_ne (by omega))) (fun x hx => ?_) (h.2.2.2.2.2.1.of fun k q1 q2 => up2_ne (by omega)) (h.2.2.2.2.2.2.2.1.of fun j q => by rw [up2_ne (by omega)])
  · show put S.lat l 0 x ≤ S.rm x
    have := lat_ok h.1 hx
    rcases hz x with e | e <;> omega
  · show put S.lat l 0 x = 0
    have := h.1.2.2.1.2.2 x q1 q2
    rcases hz x with e | e <;> omega
  · show _ = S.ov x ∧ _ = nI (put S.lat l 0 x) ∧ _ = S.er x
    obtain ⟨o1, o2, o3⟩ := h.2.1.2.1 x hx
    by_cases e : x = l
    · subst e
      rw [put_at, up2_sj _ _ _ (by omega), up2_at, up2_sj _ _ _ (by omega)]; exact ⟨o1, rfl, o3⟩
    · rw [put_ne _ _ e, up2_ne (by omega)]; exact ⟨o1, o2, o3⟩
  · show up2 M 87 l 0 86 x = S.ov x ∧ up2 M 87 l 0 87 x = nI (put S.lat l 0 x) ∧ up2 M 87 l 0 88 x = S.er x
    obtain ⟨o1, o2, o3⟩ := h.2.2.2.1 x hx
    refine ⟨by rw [up2_o _ _ _ _ (by omega)]; exact o1, ?_, by rw [up2_o _ _ _ _ (by omega)]; exact o3⟩
    by_cases e : x = l
    · rw [e, put_at, up2_at]; rfl
    · rw [put_ne _ _ e, up2_sj _ _ _ e]; exact o2
/-- one SLICE's latest forgotten -/
theorem reset_slice (hT : PlS T) (h : RR T S C M) {i : Nat} (hi : i < S.ns) : RR T (S.s_slt (put S.slt i 0)) (up2 C (17 + 4 * i) 17 0) (up2 M 105 i 0) := by
  have h8 := h.1.2.1.1
  have hz : ∀ x, put S.slt i 0 x = 0 ∨ put S.slt i 0 x = S.slt x := fun x => by
    by_cases e : x = i
    · rw [e, put_at]; exact .inl rfl
    · rw [put_ne _ _ e]; exact .inr rfl
  refine day_upd hT h ⟨⟨rfl, rfl, rfl, rfl, rfl, rfl, rfl, rfl, rfl, rfl, rfl, rfl, rfl, rfl, rfl, rfl, rfl, rfl, rfl, rfl⟩, rfl, rfl, rfl, rfl, rfl, rfl, rfl⟩ (fun x hx => lat_ok h.1 hx) (fun x q1 q2 => h.1.2.2.1.2.2 x q1 q2) (fun s hs => ?_) (fun s q1 q2 => ?_) ⟨h.1.2.2.1.1, h.1.2.2.1.2.1⟩ (fun k j q1 q2 q3 => by rw [up2_ap, if_neg (by omega)]) (fun k j q1 q2 q3 => by rw [up2_ap, if_neg (by omega)]) (h.2.1.2.1.of fun k j q1 q2 q3 => by rw [up2_ap, if_neg (by omega)]) (fun s hs => ?_) (h.2.1.2.2.2.2.2.2.2.2.2.2.2.1.of (up2_ne (by omega))) (h.2.2.2.1.of fun k q1 q2 => up2_ne (by omega)) (fun s hs => ?_) (h.2.2.2.2.2.2.2.1.of fun j q => by rw [up2_ne (by omega)])
  · show S.wt s ≤ 1000 ∧ put S.slt i 0 s ≤ 20
    have := wt_ok h.1 hs
    rcases hz s with e | e <;> omega
  · show S.wt s = 0 ∧ put S.slt i 0 s = 0
    have := wt_no h.1 q1 q2
    rcases hz s with e | e <;> omega
  · show _ ∧ _ ∧ _ ∧ _ ∧ _ = nI (put S.slt i 0 s)
    obtain ⟨o1, o2, o3, o4, o5⟩ := h.2.1.2.2.2.2.2.2.1 s hs
    by_cases e : s = i
    · subst e
      rw [put_at, up2_sj _ _ _ (by omega), up2_sj _ _ _ (by omega), up2_sj _ _ _ (by omega), up2_sj _ _ _ (by omega), up2_at]; exact ⟨o1, o2, o3, o4, rfl⟩
    · rw [put_ne _ _ e, up2_ne (by omega)]; exact ⟨o1, o2, o3, o4, o5⟩
  · show up2 M 105 i 0 101 s = nI (S.wt s) ∧ up2 M 105 i 0 102 s = S.ps s ∧ up2 M 105 i 0 103 s = S.ln s ∧ up2 M 105 i 0 104 s = S.pd s ∧ up2 M 105 i 0 105 s = nI (put S.slt i 0 s)
    obtain ⟨o1, o2, o3, o4, o5⟩ := h.2.2.2.2.2.1 s hs
    refine ⟨by rw [up2_o _ _ _ _ (by omega)]; exact o1, by rw [up2_o _ _ _ _ (by omega)]; exact o2, by rw [up2_o _ _ _ _ (by omega)]; exact o3, by rw [up2_o _ _ _ _ (by omega)]; exact o4, ?_⟩
    by_cases e : s = i
    · rw [e, put_at, up2_at]; rfl
    · rw [put_ne _ _ e, up2_sj _ _ _ e]; exact o5
/-- units pass over one LINE -/
theorem pass_line (hT : PlS T) (h : RR T S C M) {l n : Nat} (hl : l < S.nl) (hn : S.lat l + n ≤ S.rm l) : RR T (((S.s_ov (put S.ov l (S.ov l + nI n))).s_lat (put S.lat l (S.lat l + n))).s_er (put S.er l (S.er l + nI n * nI (S.pr l)))) (jPassM C l (nI n)) (up2 (up2 (up2 M 86 l (M 86 l + nI n)) 87 l (M 87 l + nI n)) 88 l (M 88 l + nI n * M 85 l)) := by
  have h9 := h.1.1.2.1
  obtain ⟨o1, o2, o3⟩ := h.2.1.2.1 l (by omega)
  obtain ⟨p1, p2, p3⟩ := h.2.2.2.1 l (by omega)
  have q4 := (h.2.1.1.2.2.2 l (by omega)).2.2.2.2
  have q5 := (h.2.2.1.2.2.2.1 l (by omega)).2.2.2.2
  unfold jPassM
  rw [o1, o2, o3, p1, p2, p3, q4, q5, nI_add]
  refine day_upd hT h ⟨⟨rfl, rfl, rfl, rfl, rfl, rfl, rfl, rfl, rfl, rfl, rfl, rfl, rfl, rfl, rfl, rfl, rfl, rfl, rfl, rfl⟩, rfl, rfl, rfl, rfl, rfl, rfl, rfl⟩ (fun x hx => ?_) (fun x q1 q2 => ?_) (fun s hs => wt_ok h.1 hs) (fun s q1 q2 => wt_no h.1 q1 q2) ⟨h.1.2.2.1.1, h.1.2.2.1.2.1⟩ (fun k j q1 q2 q3 => by rw [up2_ap, if_neg (by omega), up2_ap, if_neg (by omega), up2_ap, if_neg (by omega)]) (fun k j q1 q2 q3 => by rw [up2_ap, if_neg (by omega), up2_ap, if_neg (by omega), up2_ap, if_neg (by omega)]) (fun x hx => ?_) (h.2.1.2.2.2.2.2.2.1.of fun s j q1 q2 q3 => by rw [up2_ap, if_neg (by omega), up2_ap, if_neg (by omega), up2_ap, if_neg (by omega)]) (h.2.1.2.2.2.2.2.2.2.2.2.2.2.1.of (by rw [up2_ne (by omega), up2_ne (by omega), up2_ne (by omega)])) (fun x hx => ?_) (h.2.2.2.2.2.1.of fun k q1 q2 => by rw [up2_ne (by omega), up2_ne (by omega), up2_ne (by omega)]) (h.2.2.2.2.2.2.2.1.of fun j q => by rw [up2_ne (by omega), up2_ne (by omega), up2_ne (by omega)])
  · show put S.lat l (S.lat l + n) x ≤ S.rm x
    by_cases e : x = l
    · rw [e, put_at]; exact hn
    · rw [put_ne _ _ e]; exact lat_ok h.1 hx
  · show put S.lat l (S.lat l + n) x = 0
    rw [put_ne _ _ (by omega)]; exact h.1.2.2.1.2.2 x q1 q2
  · show _ = put S.ov l (S.ov l + nI n) x ∧ _ = nI (put S.lat l (S.lat l + n) x) ∧ _ = put S.er l (S.er l + nI n * nI (S.pr l)) x
    by_cases e : x = l
    · subst e
      rw [put_at, put_at, put_at]
      refine ⟨?_, ?_, ?_⟩ <;> simp (disch := omega) only [up2_o, up2_at, up2_sj]
    · rw [put_ne _ _ e, put_ne _ _ e, put_ne _ _ e, up2_ne (by omega), up2_ne (by omega), up2_ne (by omega)]; exact h.2.1.2.1 x hx
  · show _ = put S.ov l (S.ov l + nI n) x ∧ _ = nI (put S.lat l (S.lat l + n) x) ∧ _ = put S.er l (S.er l + nI n * nI (S.pr l)) x
    by_cases e : x = l
    · subst e
      rw [put_at, put_at, put_at]
      refine ⟨?_, ?_, ?_⟩ <;> simp (disch := omega) only [up2_o, up2_at, up2_sj]
    · rw [put_ne _ _ e, put_ne _ _ e, put_ne _ _ e]
      obtain ⟨r1, r2, r3⟩ := h.2.2.2.1 x hx
      refine ⟨?_, ?_, ?_⟩
      · rw [up2_ne (by omega), up2_ne (by omega), up2_sj _ _ _ e]; exact r1
      · rw [up2_ne (by omega), up2_sj _ _ _ e, up2_ne (by omega)]; exact r2
      · rw [up2_sj _ _ _ e, up2_ne (by omega), up2_ne (by omega)]; exact r3
/-- and for the SLICE -/
theorem pass_slice (hT : PlS T) (h : RR T S C M) {i n : Nat} (v : Int32) (hi : i < S.ns) (hn : n ≤ S.wt i) (hl : S.slt i + n ≤ 20) : RR T ((((((S.s_wt (put S.wt i (S.wt i - n))).s_ps (put S.ps i (S.ps i + nI n))).s_slt (put S.slt i (S.slt i + n))).s_pd (put S.pd i (S.pd i + nI n * v))).s_psE (S.psE + nI n)).s_pdE (S.pdE + nI n * v)) (up2 (up2 (up2 (up2 (up2 (up2 C (17 + 4 * i) 13 (C (17 + 4 * i) 13 - nI n)) (17 + 4 * i) 14 (C (17 + 4 * i) 14 + nI n)) (17 + 4 * i) 17 (C (17 + 4 * i) 17 + nI n)) (17 + 4 * i) 16 (C (17 + 4 * i) 16 + nI n * v)) 69 4 (C 69 4 + nI n)) 69 5 (C 69 5 + nI n * v)) (up2 (up2 (up2 (up2 (up2 (up2 M 101 i (M 101 i - nI n)) 102 i (M 102 i + nI n)) 105 i (M 105 i + nI n)) 104 i (M 104 i + nI n * v)) 79 6 (M 79 6 + nI n)) 79 7 (M 79 7 + nI n * v)) := by
  have h8 := h.1.2.1.1
  obtain ⟨o1, o2, o3, o4, o5⟩ := h.2.1.2.2.2.2.2.2.1 i (by omega)
  obtain ⟨p1, p2, p3, p4, p5⟩ := h.2.2.2.2.2.1 i (by omega)
  obtain ⟨d1, d2, d3, d4⟩ := h.2.1.2.2.2.2.2.2.2.2.2.2.2.1
  obtain ⟨e1, e2, e3, e4⟩ := h.2.2.2.2.2.2.2.1
  rw [o1, o2, o4, o5, p1, p2, p4, p5, d3, d4, e3, e4, nI_sub hn, nI_add]
  refine day_upd hT h ⟨⟨rfl, rfl, rfl, rfl, rfl, rfl, rfl, rfl, rfl, rfl, rfl, rfl, rfl, rfl, rfl, rfl, rfl, rfl, rfl, rfl⟩, rfl, rfl, rfl, rfl, rfl, rfl, rfl⟩ (fun x hx => lat_ok h.1 hx) (fun x q1 q2 => h.1.2.2.1.2.2 x q1 q2) (fun s hs => ?_) (fun s q1 q2 => ?_) ⟨h.1.2.2.1.1, h.1.2.2.1.2.1⟩ (fun k j q1 q2 q3 => ?_) (fun k j q1 q2 q3 => ?_) (h.2.1.2.1.of fun k j q1 q2 q3 => ?_) (fun s hs => ?_) ⟨?_, ?_, ?_, ?_⟩ (h.2.2.2.1.of fun k q1 q2 => ?_) (fun s hs => ?_) ⟨?_, ?_, ?_, ?_⟩
  · show put S.wt i (S.wt i - n) s ≤ 1000 ∧ put S.slt i (S.slt i + n) s ≤ 20
    have := wt_ok h.1 hs
    by_cases e : s = i
    · subst e; rw [put_at, put_at]; omega
    · rw [put_ne _ _ e, put_ne _ _ e]; exact this
  · show put S.wt i (S.wt i - n) s = 0 ∧ put S.slt i (S.slt i + n) s = 0
    rw [put_ne _ _ (by omega), put_ne _ _ (by omega)]
    exact wt_no h.1 q1 q2
  · rw [up2_ap, if_neg (by omega), up2_ap, if_neg (by omega), up2_ap, if_neg (by omega), up2_ap, if_neg (by omega), up2_ap, if_neg (by omega), up2_ap, if_neg (by omega)]
  · rw [up2_ap, if_neg (by omega), up2_ap, if_neg (by omega), up2_ap, if_neg (by omega), up2_ap, if_neg (by omega), up2_ap, if_neg (by omega), up2_ap, if_neg (by omega)]
  · rw [up2_ap, if_neg (by omega), up2_ap, if_neg (by omega), up2_ap, if_neg (by omega), up2_ap, if_neg (by omega), up2_ap, if_neg (by omega), up2_ap, if_neg (by omega)]
  · show _ = nI (put S.wt i (S.wt i - n) s) ∧ _ = put S.ps i (S.ps i + nI n) s ∧ _ = S.ln s ∧ _ = put S.pd i (S.pd i + nI n * v) s ∧ _ = nI (put S.slt i (S.slt i + n) s)
    by_cases e : s = i
    · subst e
      rw [put_at, put_at, put_at, put_at]
      refine ⟨?_, ?_, ?_, ?_, ?_⟩ <;> simp (disch := omega) only [up2_o, up2_at, up2_sj]
      exact o3
    · rw [put_ne _ _ e, put_ne _ _ e, put_ne _ _ e, put_ne _ _ e, up2_ne (by omega), up2_ne (by omega), up2_ne (by omega), up2_ne (by omega), up2_ne (by omega), up2_ne (by omega)]
      exact h.2.1.2.2.2.2.2.2.1 s hs
  · simp (disch := omega) only [up2_o, up2_at, up2_sj]; exact d1
  · simp (disch := omega) only [up2_o, up2_at, up2_sj]; exact d2
  · simp (disch := omega) only [up2_o, up2_at, up2_sj]; rfl
  · simp (disch := omega) only [up2_o, up2_at, up2_sj]; rfl
  · rw [up2_ne (by omega), up2_ne (by omega), up2_ne (by omega), up2_ne (by omega), up2_ne (by omega), up2_ne (by omega)]
  · show _ = nI (put S.wt i (S.wt i - n) s) ∧ _ = put S.ps i (S.ps i + nI n) s ∧ _ = S.ln s ∧ _ = put S.pd i (S.pd i + nI n * v) s ∧ _ = nI (put S.slt i (S.slt i + n) s)
    obtain ⟨r1, r2, r3, r4, r5⟩ := h.2.2.2.2.2.1 s hs
    by_cases e : s = i
    · subst e
      rw [put_at, put_at, put_at, put_at]
      refine ⟨?_, ?_, ?_, ?_, ?_⟩ <;> simp (disch := omega) only [up2_o, up2_at, up2_sj]
      exact r3
    · rw [put_ne _ _ e, put_ne _ _ e, put_ne _ _ e, put_ne _ _ e]
      refine ⟨?_, ?_, ?_, ?_, ?_⟩ <;> simp (disch := omega) only [up2_o, up2_at, up2_sj] <;> assumption
  · simp (disch := omega) only [up2_o, up2_at, up2_sj]; exact e1
  · simp (disch := omega) only [up2_o, up2_at, up2_sj]; exact e2
  · simp (disch := omega) only [up2_o, up2_at, up2_sj]; rfl
  · simp (disch := omega) only [up2_o, up2_at, up2_sj]; rfl
/-- units of a SLICE pass, on both sides -/
theorem pass_both (hT : PlS T) (h : RR T S C M) {i n x : Nat} (hi : i < S.ns) (hx : x < 512) (hn : n ≤ S.wt i) (hl : S.slt i + n ≤ 20) (hr : ∀ l, l < S.nl → x.testBit l = true → S.lat l + n ≤ S.rm l) :
    jX2_passK C i (nI x) (nI n) ∧ jX12_passesK M (nI i) (nI x) (nI n) ∧ ∃ S' : St, RR T S' (jX2_pass C i (nI x) (nI n)) (jX12_passes M (nI i) (nI x) (nI n)) ∧ SameD S S' ∧ S'.tick = S.tick ∧ S'.lent = S.lent ∧ S'.wt = put S.wt i (S.wt i - n) ∧ S'.slt = put S.slt i (S.slt i + n) := by
  have h8 := h.1.2.1.1
  have h9 := h.1.1.2.1
  unfold jX2_passK jX12_passesK jX2_pass jX12_passes
  obtain ⟨⟨v4, v5, C1⟩, ⟨w4, w5, M1⟩, ⟨S1, a1, a2, a3, a4, a5, a6, a7, a8, a9, a10⟩, g1, g2⟩ := Go.loop2 (F := fun m (t : Int32 × Int32 × IM) => jX2_passI i (nI x) (nI n) m t.1 t.2.1 t.2.2) (O := fun m t => jX2_passO i (nI x) (nI n) m t.1 t.2.1 t.2.2) (F2 := fun m (t : Int32 × Int32 × IM) => jX12_passesI (nI i) (nI x) (nI n) m t.1 t.2.1 t.2.2) (O2 := fun m t => jX12_passesO (nI i) (nI x) (nI n) m t.1 t.2.1 t.2.2) (B := 1) (B2 := 1)
    (P := fun k t u => ∃ S1 : St, RR T S1 t.2.2 u.2.2 ∧ t.1 = u.1 ∧ t.2.1 = nI k ∧ u.2.1 = nI k ∧ SameD S S1 ∧ S1.tick = S.tick ∧ S1.lent = S.lent ∧ S1.wt = S.wt ∧ S1.slt = S.slt ∧ ∀ l, k ≤ l → S1.lat l = S.lat l) S.nl
    (fun k hk t u ht => by
      obtain ⟨v4, v5, C1⟩ := t
      obtain ⟨w4, w5, M1⟩ := u
      obtain ⟨S1, a1, a2, a3, a4, a5, a6, a7, a8, a9, a10⟩ := ht
      dsimp only at a1 a2 a3 a4
      subst a2 a3 a4
      have nl1 := a5.1.nl
      have c0 : ¬ S.nl ≤ k := by omega
      have v : vp_in (nI k) 9 := (vp_nI (by omega)).mpr (by omega)
      have n1 : C1 1 4 = nI S.nl := by rw [a1.2.1.1.2.1, nl1]
      have n2 : M1 79 1 = nI S.nl := by rw [a1.2.2.1.2.1, nl1]
      by_cases c : x.testBit k = true
      · have q4 : C1 (6 + k) 4 = nI (S1.pr k) := (a1.2.1.1.2.2.2 k (by omega)).2.2.2.2
        have q5 : M1 85 k = nI (S1.pr k) := (a1.2.2.1.2.2.2.1 k (by omega)).2.2.2.2
        have st := pass_line hT a1 (l := k) (n := n) (by rw [nl1]; exact hk) (by rw [a10 k (Nat.le_refl _), a5.1.rm]; exact hr k hk c)
        have q6 : jPassM C1 k (nI n) (6 + k) 4 = nI (S1.pr k) := by
          unfold jPassM
          simp (disch := omega) only [up2_o, up2_at, up2_sj]
          exact q4
        refine ⟨(v4 + nI (S1.pr k), nI (k + 1), jPassM C1 k (nI n)), (v4 + nI (S1.pr k), nI (k + 1), _), ⟨_, st, rfl, rfl, rfl, a5.trans ⟨⟨rfl, rfl, rfl, rfl, rfl, rfl, rfl, rfl, rfl, rfl, rfl, rfl, rfl, rfl, rfl, rfl, rfl, rfl, rfl, rfl⟩, rfl, rfl, rfl, rfl, rfl, rfl, rfl⟩, a6, a7, a8, a9, fun l hl => ?_⟩, Go.one fun m => ?_, Go.one fun m => ?_⟩
        · show put S1.lat k (S1.lat k + n) l = S.lat l
          rw [put_ne _ _ (by omega)]; exact a10 l (by omega)
        · dsimp only
          rw [jX2_passO_6, jX2_passI_6, n1, nI_clamp (by omega), q6, nI_1]
          simp (disch := omega) only [nI_leI, hs_nI, eq_false c0, eq_true c, eq_true v, ↓reduceIte, not_true_eq_false, not_false_eq_true, true_imp_iff, false_imp_iff, implies_true, and_true, true_and, eq_self]
          first | exact id | exact ⟨id, rfl⟩
        · dsimp only
          rw [jX12_passesO_6, jX12_passesI_6, n2, nI_clamp (by omega), q5, nI_1]
          simp (disch := omega) only [nI_leI, hs_nI, eq_false c0, eq_true c, eq_true v, ↓reduceIte, not_true_eq_false, not_false_eq_true, true_imp_iff, false_imp_iff, implies_true, and_true, true_and, eq_self]
          first | exact id | exact ⟨id, rfl⟩
      · refine ⟨(v4, nI (k + 1), C1), (v4, nI (k + 1), M1), ⟨S1, a1, rfl, rfl, rfl, a5, a6, a7, a8, a9, fun l hl => a10 l (by omega)⟩, Go.one fun m => ?_, Go.one fun m => ?_⟩
        · dsimp only
          rw [jX2_passO_6, jX2_passI_6, n1, nI_1]
          simp (disch := omega) only [nI_leI, hs_nI, eq_false c0, eq_false c, eq_true v, ↓reduceIte, not_true_eq_false, not_false_eq_true, true_imp_iff, false_imp_iff, implies_true, and_true, true_and, eq_self]
          first | exact id | exact ⟨id, rfl⟩
        · dsimp only
          rw [jX12_passesO_6, jX12_passesI_6, n2, nI_1]
          simp (disch := omega) only [nI_leI, hs_nI, eq_false c0, eq_false c, eq_true v, ↓reduceIte, not_true_eq_false, not_false_eq_true, true_imp_iff, false_imp_iff, implies_true, and_true, true_and, eq_self]
          first | exact id | exact ⟨id, rfl⟩)
    ((0, nI 0, C) : Int32 × Int32 × IM) ((0, nI 0, M) : Int32 × Int32 × IM) ⟨S, h, rfl, rfl, rfl, SameD.refl S, rfl, rfl, rfl, rfl, fun _ _ => rfl⟩
  dsimp only at a1 a2 a3 a4
  subst a2 a3 a4
  have n1 : C1 1 4 = nI S.nl := by rw [a1.2.1.1.2.1, a5.1.nl]
  have n2 : M1 79 1 = nI S.nl := by rw [a1.2.2.1.2.1, a5.1.nl]
  have c0 : S.nl ≤ S.nl := Nat.le_refl _
  have v8 : vp_in (nI i) 8 := (vp_nI (by omega)).mpr (by omega)
  have st := pass_slice hT a1 (i := i) (n := n) v4 (by rw [a5.1.ns]; exact hi) (by rw [a8]; exact hn) (by rw [a9]; exact hl)
  have E1 := g1.ends (Ends.one (b := up2 (up2 (up2 (up2 (up2 (up2 C1 (17 + 4 * i) 13 (C1 (17 + 4 * i) 13 - nI n)) (17 + 4 * i) 14 (C1 (17 + 4 * i) 14 + nI n)) (17 + 4 * i) 17 (C1 (17 + 4 * i) 17 + nI n)) (17 + 4 * i) 16 (C1 (17 + 4 * i) 16 + nI n * v4)) 69 4 (C1 69 4 + nI n)) 69 5 (C1 69 5 + nI n * v4)) fun m => by
    dsimp only
    rw [jX2_passO_6, jX2_passI_6, n1]
    simp (disch := omega) only [nI_leI, eq_true c0, ↓reduceIte, not_true_eq_false, not_false_eq_true, true_imp_iff, false_imp_iff, implies_true, and_true, true_and, eq_self])
  have E2 := g2.ends (Ends.one (b := up2 (up2 (up2 (up2 (up2 (up2 M1 101 i (M1 101 i - nI n)) 102 i (M1 102 i + nI n)) 105 i (M1 105 i + nI n)) 104 i (M1 104 i + nI n * v4)) 79 6 (M1 79 6 + nI n)) 79 7 (M1 79 7 + nI n * v4)) fun m => by
    dsimp only
    rw [jX12_passesO_6, jX12_passesI_6, n2, nI_clamp (n := i) (by omega)]
    simp (disch := omega) only [nI_leI, eq_true c0, eq_true v8, ↓reduceIte, not_true_eq_false, not_false_eq_true, true_imp_iff, false_imp_iff, implies_true, and_true, true_and, eq_self])
  obtain ⟨r1, r2⟩ := E1.use (f := FU) (by rw [FU_eq]; omega)
  obtain ⟨r3, r4⟩ := E2.use (f := FU) (by rw [FU_eq]; omega)
  refine ⟨r1, r3, ((((((S1.s_wt (put S1.wt i (S1.wt i - n))).s_ps (put S1.ps i (S1.ps i + nI n))).s_slt (put S1.slt i (S1.slt i + n))).s_pd (put S1.pd i (S1.pd i + nI n * v4))).s_psE (S1.psE + nI n)).s_pdE (S1.pdE + nI n * v4)), ?_, a5.trans ⟨⟨rfl, rfl, rfl, rfl, rfl, rfl, rfl, rfl, rfl, rfl, rfl, rfl, rfl, rfl, rfl, rfl, rfl, rfl, rfl, rfl⟩, rfl, rfl, rfl, rfl, rfl, rfl, rfl⟩, a6, a7, ?_, ?_⟩
  · have r2' : jX2_passI i (nI x) (nI n) FU 0 0 C = _ := r2
    have r4' : jX12_passesI (nI i) (nI x) (nI n) FU 0 0 M = _ := r4
    rw [r2', r4']
    exact st
  · show put S1.wt i (S1.wt i - n) = _
    rw [a8]
  · show put S1.slt i (S1.slt i + n) = _
    rw [a9]
end DAY
end
