noncomputable section
section TR
variable {T : Topo} {S : St} {C : IM} {s n : Nat} {P : Nat → Nat} {wh : Nat → Nat}
def TB (S : St) (P : Nat → Nat) (wh : Nat → Nat) (n : Nat) (C : IM) : Prop := cBk S P (whD wh) 57 n C ∧ ∀ k j, ((k = 57 + 1 + 0 ∨ k = 57 + 1 + 1) ∧ 9 * n ≤ j ∧ j < 216) ∨ (k = 57 + 1 + 2 ∧ 81 * n ≤ j ∧ j < 1944) ∨ (k = 57 + 1 + 3 ∧ 6 * n ≤ j ∧ j < 144) → C k j = 0
theorem TB.fr (h : TB S P wh n C) {C' : IM} (f : ∀ k j, 58 ≤ k → k ≤ 61 → C' k j = C k j) : TB S P wh n C' :=
  ⟨h.1.of fun k q1 q2 => funext fun j => f k j (by omega) (by omega), fun k j q => (f k j (by omega) (by omega)).trans (h.2 k j q)⟩
theorem TB.hi {P' : Nat → Nat} (h : TB S P wh n C) {C' : IM} (h1 : cBk S P' (whD wh) 57 n C') (h2 : HiS 57 n C C') : TB S P' wh n C' := ⟨h1, fun k j q => (h2 k j (by omega)).trans (h.2 k j q)⟩
theorem TB.tri (hn : n ≤ 24) (h : TB S P wh n C) (hz : ∀ i, i < S.ns → P i = 0) : cTri C := by
  obtain ⟨h1, h2⟩ := h
  have zz : (0 : Int32) = nI 0 := rfl
  refine ⟨fun j hj => ?_, fun j hj => ?_, fun j hj => ?_⟩
  · by_cases c : j < 9 * n
    · obtain ⟨k1, -⟩ := h1 (j / 9) (by omega)
      obtain ⟨k2, k3, -⟩ := k1 (j % 9) (Nat.mod_lt _ (by omega))
      have e : 9 * (j / 9) + j % 9 = j := Nat.div_add_mod j 9
      obtain ⟨z1, -, z2, -⟩ := zero_all (S := S) (D := whD wh) (t := j / 9) hz
      rw [e, z1] at k2
      rw [e, z2] at k3
      exact ⟨k2, k3⟩
    · exact ⟨h2 58 j (by omega), h2 59 j (by omega)⟩
  · by_cases c : j < 81 * n
    · obtain ⟨k1, -⟩ := h1 (j / 9 / 9) (by omega)
      obtain ⟨-, -, k3⟩ := k1 (j / 9 % 9) (Nat.mod_lt _ (by omega))
      have k4 := k3 (j % 9) (Nat.mod_lt _ (by omega))
      have e1 : 9 * (j / 9 / 9) + j / 9 % 9 = j / 9 := Nat.div_add_mod _ 9
      have e : j / 9 * 9 + j % 9 = j := by rw [Nat.mul_comm]; exact Nat.div_add_mod j 9
      obtain ⟨-, z1, -⟩ := zero_all (S := S) (D := whD wh) (t := j / 9 / 9) hz
      rw [e1, e, z1] at k4
      exact k4
    · exact h2 60 j (by omega)
  · by_cases c : j < 6 * n
    · obtain ⟨-, k1⟩ := h1 (j / 6) (by omega)
      have k2 := k1 (j % 6) (Nat.mod_lt _ (by omega))
      have e : 6 * (j / 6) + j % 6 = j := Nat.div_add_mod j 6
      obtain ⟨-, -, -, z1, -⟩ := zero_all (S := S) (D := whD wh) (t := j / 6) hz
      rw [e, z1] at k2
      exact k2
    · exact h2 61 j (by omega)
theorem cTri.tb (hn : n ≤ 24) (h : cTri C) (hz : ∀ i, i < S.ns → P i = 0) : TB S P wh n C := by
  obtain ⟨h1, h2, h3⟩ := h
  refine ⟨fun t ht => ?_, fun k j q => ?_⟩
  · obtain ⟨z1, z2, z3, z4, -⟩ := zero_all (S := S) (D := whD wh) (t := t) hz
    refine ⟨fun l hl => ⟨?_, ?_, fun f hf => ?_⟩, fun a ha => ?_⟩
    · rw [z1]; exact (h1 _ (by omega)).1
    · rw [z3]; exact (h1 _ (by omega)).2
    · rw [z2]; exact h2 _ (by omega)
    · rw [z4]; exact h3 _ (by omega)
  · rcases q with ⟨q | q, q1, q2⟩ | ⟨q, q1, q2⟩ | ⟨q, q1, q2⟩
    · subst q; exact (h1 j q2).1
    · subst q; exact (h1 j q2).2
    · subst q; exact h2 j q2
    · subst q; exact h3 j q2
theorem put_C (hc : TC T S n wh) (hX : LX T S n wh C) (hB : TB S P wh n C) (hss : s < S.ns) (h0 : P s = 0) {i : Nat} (hi : i < (S.ups s).length) : jX3_putK T C (nI s) (nI i) ∧ (∀ k j, ¬ (k = 66 ∧ j = s) → ¬ (58 ≤ k ∧ k ≤ 61) → jX3_putM T C (nI s) (nI i) k j = C k j) ∧ jX3_putM T C (nI s) (nI i) 66 s = nI ((S.ups s).getD i 0) ∧ TB S (put P s ((S.ups s).getD i 0)) wh n (jX3_putM T C (nI s) (nI i)) := by
  have h8 := hc.2.2.1.1
  have hlen := ups_len hc.2.1 s
  have ul : (S.ups s).length ≤ (S.plist s).length := List.length_filter_le _ _
  obtain ⟨b1, b2, b3⟩ := plB_facts hc.1 (show s < 8 by omega)
  have v8 : vp_in (nI s) 8 := (vp_nI (by omega)).mpr (by omega)
  have vb : vp_in (nI i) (tL T (plB T s)) := (vp_nI (by omega)).mpr (by rw [b3]; have := hc.2.2.2.2.2.2 s hss; omega)
  obtain ⟨p, hp⟩ : ∃ p, p = (S.ups s).getD i 0 := ⟨_, rfl⟩
  have kp : C (plB T s) i = nI p := by rw [(hX.2.2.2.2 s hss).2 i hi, hp]
  have mem : p ∈ S.plist s := by
    rw [hp, List.getD_eq_getElem?_getD, List.getElem?_eq_getElem hi]
    exact (List.mem_filter.mp (List.getElem_mem hi)).1
  obtain ⟨f0, f1, f2, f3, f4, f5, f6⟩ := place_facts hc.2.1 hc.2.2.1 hss mem
  have kw : C 63 s = nI (wh s) := hX.2.2.2.1 s (by omega)
  have nn6 : S.nn ≤ 6 := hc.2.1.1
  have fr : FrD C (up2 C 66 s (nI p)) := fun k j q1 q2 q3 => by rw [up2_ap, if_neg (by omega)]
  have hX1 := hX.frd hc.1 h8 fr
  have hB1 : TB S P wh n (up2 C 66 s (nI p)) := hB.fr fun k j q1 q2 => by rw [up2_ap, if_neg (by omega)]
  obtain ⟨e1, e2, e3, e4⟩ := come_S4 (S := S) (P := P) (D := whD wh) (C := up2 C 66 s (nI p)) (b := 57) (n := n) (s := s) (p := p) (wh := wh s) hc.2.2.1 hc.2.1 hc.2.2.2.1 hss h0 (.inr rfl) (by omega) f1 f3 f4 (by omega) hX1.1.2.1 hX1.2.2.1 (need_LX hc.2.2.1 hX1.2.1 hss) (hX1.2.1.2 s (by omega)).2.2.2.2.2.2.1 (hc.2.2.2.2.1 s) (fun t _ => rfl) hB1.1
  unfold jX3_putK jX3_putM jX6_upAtK jX6_upAt
  rw [nI_clamp (n := s) (by omega), nI_clamp (n := i) (by omega), kp, kw, ← hp]
  refine ⟨⟨v8, vb, v8, v8, v8, v8, e1⟩, fun k j q1 q2 => ?_, ?_, hB1.hi e2 e4⟩
  · rw [e3 k (by omega), up2_ap, if_neg q1]
  · rw [e3 66 (by omega), up2_at]
theorem back_C (hc : TC T S n wh) (hX : LX T S n wh C) (hB : TB S P wh n C) (hss : s < S.ns) (h0 : P s ≠ 0) (hm : P s ∈ S.plist s) {l : Nat} (hl : l < 8) (e64 : C 64 l = nI s) (e66 : C 66 s = nI (P s)) : jX3_takeBackK C (nI l) ∧ (∀ k j, ¬ (58 ≤ k ∧ k ≤ 61) → jX3_takeBackM C (nI l) k j = C k j) ∧ TB S (put P s 0) wh n (jX3_takeBackM C (nI l)) := by
  have h8 := hc.2.2.1.1
  have v8 : vp_in (nI s) 8 := (vp_nI (by omega)).mpr (by omega)
  have vl : vp_in (nI l) 8 := (vp_nI (by omega)).mpr (by omega)
  obtain ⟨f0, f1, f2, f3, f4, f5, f6⟩ := place_facts hc.2.1 hc.2.2.1 hss hm
  have kw : C 63 s = nI (wh s) := hX.2.2.2.1 s (by omega)
  have nn6 : S.nn ≤ 6 := hc.2.1.1
  obtain ⟨e1, e2, e3, e4⟩ := go_S4 (S := S) (P := P) (D := whD wh) (C := C) (b := 57) (n := n) (s := s) (p := P s) (wh := wh s) hc.2.2.1 hc.2.1 hc.2.2.2.1 hss rfl (.inr rfl) (by omega) f1 f3 f4 (by omega) hX.1.2.1 hX.2.2.1 (need_LX hc.2.2.1 hX.2.1 hss) (hX.2.1.2 s (by omega)).2.2.2.2.2.2.1 (hc.2.2.2.2.1 s) (fun t _ => rfl) hB.1
  have z : ¬ nI l < 0 := nI_nn (by omega)
  unfold jX3_takeBackK jX3_takeBackM
  rw [nI_clamp (n := l) (by omega), e64, nI_clamp (n := s) (by omega), e66, kw, if_neg z]
  refine ⟨⟨fun q => absurd q z, fun _ => ⟨vl, v8, v8, v8, e1⟩⟩, fun k j q => by rw [e3 k (by omega)], hB.hi e2 e4⟩
abbrev zF (T : Topo) (set : Int32) : Nat → Nat × Int32 × Int32 × Int32 × IM → Int32 × IM := fun m t => jX3_laidI T set m t.1 t.2.1 t.2.2.1 t.2.2.2.1 t.2.2.2.2
abbrev zO (T : Topo) (set : Int32) : Nat → Nat × Int32 × Int32 × Int32 × IM → Prop := fun m t => jX3_laidO T set m t.1 t.2.1 t.2.2.1 t.2.2.2.1 t.2.2.2.2
def FrU (C C' : IM) : Prop := ∀ k j, ¬ (58 ≤ k ∧ k ≤ 61) → C' k j = C k j
theorem FrU.d {A B : IM} (h : FrU A B) : FrD A B := fun a b q1 q2 q3 => h a b (by omega)
/-- all is taken back at the end -/
theorem undo_C (hc : TC T S n wh) (set : Int32) {v3 : Int32} (hv : v3 = 0 ∨ v3 = 1) {lv : Nat} (hlv : lv ≤ 8) : ∀ (B : List Nat) (j : Nat) (P : Nat → Nat) (C : IM), j + B.length = lv → LX T S n wh C → TB S P wh n C → (∀ i, i < B.length → C 64 (j + i) = nI (B.getD i 0)) → B.Nodup → (∀ b, b ∈ B → b < S.ns ∧ P b ≠ 0 ∧ P b ∈ S.plist b ∧ C 66 b = nI (P b)) → (∀ i, P i ≠ 0 → i ∈ B) →
    ∃ C' P', FrU C C' ∧ TB S P' wh n C' ∧ (∀ i, i < S.ns → P' i = 0) ∧ Ends (zF T set) (zO T set) (B.length + 1) (1, nI lv, v3, nI j, C) (v3, C')
  | [], j, P, C, hj, hX, hB, h64, hn, hb, hz => by
    refine ⟨C, P, fun _ _ _ => rfl, hB, fun i _ => ?_, Ends.one fun m => ?_⟩
    · by_cases c : P i = 0
      · exact c
      · exact absurd (hz i c) (by simp)
    · dsimp only [zF, zO]
      have c : lv ≤ j := by simp at hj; omega
      rw [jX3_laidO_131, jX3_laidI_131]
      simp at hj
      simp (disch := omega) only [nI_leI, eq_true c, ↓reduceIte, not_true_eq_false, not_false_eq_true, true_imp_iff, false_imp_iff, implies_true, and_true, true_and, eq_self]
      exact hv
  | b :: B, j, P, C, hj, hX, hB, h64, hn, hb, hz => by
    have h8 := hc.2.2.1.1
    obtain ⟨b1, b2, b3, b4⟩ := hb b (.head _)
    have e64 : C 64 j = nI b := h64 0 (by simp)
    simp at hj
    obtain ⟨k1, k2, k3⟩ := back_C hc hX hB b1 b2 b3 (show j < 8 by omega) e64 b4
    obtain ⟨nb, nB⟩ := List.nodup_cons.mp hn
    have fr : FrU C (jX3_takeBackM C (nI j)) := k2
    obtain ⟨C', P', i1, i2, i3, i4⟩ := undo_C hc set hv hlv B (j + 1) (put P b 0) (jX3_takeBackM C (nI j)) (by omega) (hX.frd hc.1 h8 fr.d) k3 (fun i hi => by
        rw [fr _ _ (by omega), show j + 1 + i = j + (i + 1) by omega]; exact h64 (i + 1) (by simp; omega)) nB (fun x hx => by
        obtain ⟨x1, x2, x3, x4⟩ := hb x (.tail _ hx)
        have ne : x ≠ b := fun e => nb (e ▸ hx)
        rw [put_ne _ _ ne, fr _ _ (by omega)]
        exact ⟨x1, x2, x3, x4⟩) (fun i hi => by
        by_cases e : i = b
        · subst e; rw [put_at] at hi; exact absurd rfl hi
        · rw [put_ne _ _ e] at hi
          cases hz i hi with
          | head => exact absurd rfl e
          | tail _ q => exact q)
    refine ⟨C', P', fun k j q => (i1 k j q).trans (fr k j q), i2, i3, Ends.le (Go.ends (B1 := 1) (Go.one fun m => ?_) i4) (by simp; omega)⟩
    dsimp only [zF, zO]
    have c : ¬ lv ≤ j := by omega
    rw [jX3_laidO_131, jX3_laidI_131, nI_1]
    simp (disch := omega) only [nI_leI, eq_false c, eq_true k1, ↓reduceIte, not_true_eq_false, not_false_eq_true, true_imp_iff, false_imp_iff, implies_true, and_true, true_and, eq_self]
    first | exact id | exact ⟨id, rfl⟩
end TR
end
