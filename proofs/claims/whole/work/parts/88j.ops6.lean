noncomputable section
theorem and0 {a b : Nat} (ha : a < 2 ^ 31) : nI a &&& nI b = 0 ↔ a &&& b = 0 := by
  rw [and_nI, li0, nI_eq (Nat.lt_of_le_of_lt Nat.and_le_left ha) (by omega)]
theorem pow_and {l n : Nat} : 2 ^ l &&& n = 0 ↔ ¬ n.testBit l = true := by
  constructor
  · intro h q
    have := congrArg (fun x => Nat.testBit x l) h
    simp only [Nat.testBit_and, pow_bit, q, Nat.zero_testBit, decide_true, Bool.true_and] at this
    exact absurd this (by decide)
  · intro h
    refine set_eq fun k => ?_
    rw [Nat.testBit_and, pow_bit, Nat.zero_testBit]
    by_cases q : l = k
    · subst q; simp [h]
    · simp [q]
section SIM
variable {T : Topo} {S : St} {C M : IM}
theorem up_step (hT : PlS T) (hS : S.ok) (hC : RC T S C) (hM : RM S M) {l d : Nat} {v : Int32} (hl : l < S.nl) (hd : d < 2 ^ S.nl) (hv : v = if d.testBit l = true then 0 else 1) (hb : ∀ k, k ≠ l → d.testBit k = S.dn.testBit k) :
    ∃ S' : St, S'.ok ∧ RC T S' (up2 C 1 5 (nI d)) ∧ RM S' (up2 M 89 l v) := by
  have hK : Core S (S.s_dn d) := ⟨rfl, rfl, rfl, rfl, rfl, rfl, rfl, rfl, rfl, rfl, rfl, rfl, rfl, rfl, rfl, rfl, rfl, rfl, rfl, rfl⟩
  have F : ∀ k j, ¬ (k = 1 ∧ j = 5) → up2 C 1 5 (nI d) k j = C k j := fun k j q => by rw [up2_ap, if_neg q]
  have F' : ∀ k, k ≠ 1 → up2 C 1 5 (nI d) k = C k := fun k q => up2_ne q
  have G' : ∀ k, k ≠ 89 → up2 M 89 l v k = M k := fun k q => up2_ne q
  refine ⟨S.s_dn d, ok_upd hS hK rfl (hK.netOk hS.1 hd fun x hx => (hS.1.2.2.2.2 x hx).2.2.2.2.2.2.2.2) (hK.slOk hS.2.1 (fun s q1 q2 => ⟨(hS.2.1.2.2 s q1 q2).2.2.1, (hS.2.1.2.2 s q1 q2).2.2.2.1⟩) fun s q => by have := hS.2.1.2.1 s q; exact ⟨this.2.2.2.2.2.2.2.2.2.2.2.2.2.2.1, this.2.2.2.2.2.2.2.2.2.2.2.2.2.2.2⟩) hS.2.2.1 hS.2.2.2.1, ?_, ?_⟩
  · obtain ⟨h1, h2, h3, h4, h5, h6, h7, h8, g9, h10, h11, h12, h13, h14, h15⟩ := id hC
    exact RC.upd hT hS hK rfl hC (fun k j q => F k j (by omega)) (h2.of fun k j q1 q2 q3 => F k j (by omega)) (up2_at _ _ _ _) (h7.of fun s j hs q1 q2 => F _ _ (by omega)) (h12.of (F' _ (by omega))) (h13.of (F _ _ (by omega))) (h14.of (F _ _ (by omega))) (h15.of fun k q1 q2 => F' k (by omega))
  · obtain ⟨h1, h2, h3, h4, h5, h6, h7, h8, h9'⟩ := id hM
    refine RM.upd hK rfl hM (fun k j q => by rw [G' k (by omega)]) (fun x hx => ?_) (h2.of fun k q1 q2 => G' k (by omega)) (h4.of fun k q1 q2 => G' k (by omega)) (h6.of fun j q => by rw [G' 79 (by omega)]) (h7.of (by rw [G' 79 (by omega)])) (h8.of (by rw [G' 79 (by omega)])) (h9'.of fun k q1 q2 => G' k (by omega))
    show _ = if d.testBit x = true then 0 else 1
    by_cases q : x = l
    · subst q; rw [up2_at, hv]
    · rw [up2_sj _ _ _ q, hb x q]
      exact h1.2.2.2.2 x hx
theorem sim_up (hT : PlS T) (hS : S.ok) (hC : RC T S C) (hM : RM S M) (a1 : Int32) {a2 : Int32} (h2 : a2 = 0 ∨ a2 = 1) : jX12_upK M a1 a2 ∧ jX11_up C a1 a2 = jX12_up M a1 a2 ∧ ∃ S' : St, S'.ok ∧ RC T S' (jX11_upM C a1 a2) ∧ RM S' (jX12_upM M a1 a2) := by
  have h9 := hS.1.2.1
  unfold jX12_upK jX11_up jX12_up jX11_upM jX12_upM jX12_finds jX5_setUp jX5_setUpM
  by_cases h : ∃ j, j < S.nl ∧ a1 = nI j
  · have e1 := (li_C hS hC a1).mpr h
    have e2 := (li_M hS hM a1).mpr h
    obtain ⟨j, hj, rfl⟩ := h
    have v : vp_in (nI j) 9 := (vp_nI (by omega)).mpr (by omega)
    have hd : S.dn < 2 ^ 9 := Nat.lt_of_lt_of_le hS.1.2.2.2.1 (Nat.pow_le_pow_right (by decide) h9)
    have hz : (nI (2 ^ j) &&& nI S.dn = 0) = ¬ S.dn.testBit j = true := propext ((and0 (Nat.lt_of_le_of_lt (Nat.pow_le_pow_right (show 0 < 2 by decide) (show j ≤ 9 by omega)) (by decide))).trans pow_and)
    rw [nI_clamp (by omega), one_nI (by omega), hC.dnC, hM.1.2.2.2.2 j hj]
    have b : bI (nI (2 ^ j) &&& nI S.dn = 0) = if S.dn.testBit j = true then 0 else 1 := by
      unfold bI
      by_cases c : S.dn.testBit j = true
      · rw [if_neg (by rw [hz]; exact fun q => q c), if_pos c]
      · rw [if_pos (by rw [hz]; exact c), if_neg c]
    rw [b]
    have ans : (if (if (if S.dn.testBit j = true then (0 : Int32) else 1) = a2 then (0 : Int32) else 1) = 0 then (0 : Int32) else 1) = if (if S.dn.testBit j = true then (0 : Int32) else 1) = a2 then 0 else 1 := by
      by_cases q : (if S.dn.testBit j = true then (0 : Int32) else 1) = a2
      · rw [if_pos q]; rfl
      · rw [if_neg q]; rfl
    rw [ans]
    refine ⟨⟨fun _ => ⟨v, v, h2⟩, fun q => absurd e2 q⟩, ?_, ?_⟩
    · rw [if_pos e1, if_pos e2]
    · rw [if_pos e1, if_pos e2]
      rcases h2 with rfl | rfl
      · rw [if_pos rfl, or_nI]
        refine up_step hT hS hC hM hj (or_lt hS.1.2.2.2.1 (Nat.pow_lt_pow_right (by decide) hj)) ?_ fun k q => ?_
        · rw [Nat.testBit_or, pow_bit]; simp
        · rw [Nat.testBit_or, pow_bit, decide_eq_false (fun e => q e.symm), Bool.or_false]
      · obtain ⟨m, -, hm, hb⟩ := clr_nI (n := S.dn) (k := j) (by omega) (by omega)
        rw [one_nI (by omega)] at hm
        rw [if_neg (by decide), hm]
        refine up_step hT hS hC hM hj (set_lt fun k q => by rw [hb, bit_no hS.1.2.2.2.1 q, Bool.false_and]) ?_ fun k q => ?_
        · rw [hb]; simp
        · rw [hb, decide_eq_false q]; simp
  · have e1 := mt (li_C hS hC a1).mp h
    have e2 := mt (li_M hS hM a1).mp h
    simp only [eq_false e1, eq_false e2, ↓reduceIte, not_true_eq_false, not_false_eq_true, true_imp_iff, false_imp_iff, implies_true, and_true, true_and, eq_self]
    exact bad hT hS hC hM
theorem wt_step (hT : PlS T) (hS : S.ok) (hC : RC T S C) (hM : RM S M) {j x : Nat} (hj : j < S.ns) (hx : x ≤ 1000) : ∃ S' : St, (S'.ok ∧ RC T S' (up2 C (17 + 4 * j) 13 (nI x)) ∧ RM S' (up2 M 101 j (nI x))) ∧ S' = S.s_wt (put S.wt j x) := by
  have h8 := hS.2.1.1
  have hK : Core S (S.s_wt (put S.wt j x)) := ⟨rfl, rfl, rfl, rfl, rfl, rfl, rfl, rfl, rfl, rfl, rfl, rfl, rfl, rfl, rfl, rfl, rfl, rfl, rfl, rfl⟩
  have F : ∀ k i, ¬ (k = 17 + 4 * j ∧ i = 13) → up2 C (17 + 4 * j) 13 (nI x) k i = C k i := fun k i q => by rw [up2_ap, if_neg q]
  have F' : ∀ k, k ≠ 17 + 4 * j → up2 C (17 + 4 * j) 13 (nI x) k = C k := fun k q => up2_ne q
  have G' : ∀ k, k ≠ 101 → up2 M 101 j (nI x) k = M k := fun k q => up2_ne q
  refine ⟨S.s_wt (put S.wt j x), ⟨ok_upd hS hK rfl (hK.netOk hS.1 hS.1.2.2.2.1 fun l hl => (hS.1.2.2.2.2 l hl).2.2.2.2.2.2.2.2) (hK.slOk hS.2.1 (fun s q1 q2 => ?_) fun s q => ?_) hS.2.2.1 hS.2.2.2.1, ?_, ?_⟩, rfl⟩
  · have o := hS.2.1.2.2 s q1 q2
    exact ⟨(put_ne S.wt x (by omega)).trans o.2.2.1, o.2.2.2.1⟩
  · have o := hS.2.1.2.1 s q
    refine ⟨?_, o.2.2.2.2.2.2.2.2.2.2.2.2.2.2.2⟩
    show put S.wt j x s ≤ 1000
    by_cases e : s = j
    · rw [e, put_at]; exact hx
    · rw [put_ne _ _ e]; exact o.2.2.2.2.2.2.2.2.2.2.2.2.2.2.1
  · obtain ⟨h1, h2, h3, h4, h5, h6, h7, h8a, g9, h10, h11, h12, h13, h14, h15⟩ := id hC
    refine RC.upd hT hS hK rfl hC (fun k i q => F k i (by omega)) (h2.of fun k i q1 q2 q3 => F k i (by omega)) (h3.of (F _ _ (by omega))) (fun s hs => ?_) (h12.of (F' _ (by omega))) (h13.of (F _ _ (by omega))) (h14.of (F _ _ (by omega))) (h15.of fun k q1 q2 => F' k (by omega))
    show _ = nI (put S.wt j x s) ∧ _
    have o := h7 s hs
    rw [F _ 14 (by omega), F _ 15 (by omega), F _ 16 (by omega), F _ 17 (by omega)]
    refine ⟨?_, o.2⟩
    by_cases e : s = j
    · rw [e, put_at, up2_at]
    · rw [put_ne _ _ e, F _ _ (by omega)]; exact o.1
  · obtain ⟨h1, h2, h3, h4, h5, h6, h7, h8a, h9'⟩ := id hM
    refine RM.upd hK rfl hM (fun k i q => by rw [G' k (by omega)]) (by rw [G' 89 (by omega)]; exact h1.2.2.2.2) (h2.of fun k q1 q2 => G' k (by omega)) (fun s hs => ?_) (h6.of fun i q => by rw [G' 79 (by omega)]) (h7.of (by rw [G' 79 (by omega)])) (h8a.of (by rw [G' 79 (by omega)])) (h9'.of fun k q1 q2 => G' k (by omega))
    show _ = nI (put S.wt j x s) ∧ _
    have o := h4 s hs
    rw [G' 102 (by omega), G' 103 (by omega), G' 104 (by omega), G' 105 (by omega)]
    refine ⟨?_, o.2⟩
    by_cases e : s = j
    · rw [e, put_at, up2_at]
    · rw [put_ne _ _ e, up2_sj _ _ _ e]; exact o.1
theorem sim_offer (hT : PlS T) (hS : S.ok) (hC : RC T S C) (hM : RM S M) (a1 a2 : Int32) : jX11_offerK C a1 a2 ∧ jX12_offerK M a1 a2 ∧ jX11_offer C a1 a2 = jX12_offer M a1 a2 ∧ ∃ S' : St, S'.ok ∧ RC T S' (jX11_offerM C a1 a2) ∧ RM S' (jX12_offerM M a1 a2) := by
  have h8 := hS.2.1.1
  unfold jX11_offerK jX12_offerK jX11_offer jX12_offer jX11_offerM jX12_offerM jX12_finds
  by_cases h : ∃ j, j < S.ns ∧ a1 = nI j
  · have e1 := (sl_C hS hC a1).mpr h
    have e2 := (sl_M hS hM a1).mpr h
    obtain ⟨j, hj, rfl⟩ := h
    have v : vp_in (nI j) 8 := (vp_nI (by omega)).mpr (by omega)
    rw [nI_clamp (by omega), (hC.2.2.2.2.2.2.1 j (by omega)).1, (hM.2.2.2.1 j (by omega)).1]
    by_cases c2 : wi a2 1 100
    · obtain ⟨x, hx1, hx2, rfl⟩ := wi_nI (a := 1) (b := 100) (by omega) c2 (by omega)
      rw [nI_add]
      have hw := (hS.2.1.2.1 j hj).2.2.2.2.2.2.2.2.2.2.2.2.2.2.1
      by_cases c3 : S.wt j + x ≤ 1000
      · have c3' : nI (S.wt j + x) ≤ 1000 := by rw [li1000]; exact nI_le c3 (by omega)
        simp only [eq_true e1, eq_true e2, eq_true c2, eq_true c3', eq_true v, ↓reduceIte, not_true_eq_false, not_false_eq_true, true_imp_iff, false_imp_iff, implies_true, and_true, true_and, eq_self]
        obtain ⟨S', q, -⟩ := wt_step hT hS hC hM hj c3
        exact ⟨S', q⟩
      · have c3' : ¬ nI (S.wt j + x) ≤ 1000 := by rw [li1000]; exact nI_ge (by omega) (by omega)
        simp only [eq_true e1, eq_true e2, eq_true c2, eq_false c3', eq_true v, ↓reduceIte, not_true_eq_false, not_false_eq_true, true_imp_iff, false_imp_iff, implies_true, and_true, true_and, eq_self]
        exact bad hT hS hC hM
    · simp only [eq_true e1, eq_true e2, eq_false c2, eq_true v, ↓reduceIte, not_true_eq_false, not_false_eq_true, true_imp_iff, false_imp_iff, implies_true, and_true, true_and, eq_self]
      exact bad hT hS hC hM
  · have e1 := mt (sl_C hS hC a1).mp h
    have e2 := mt (sl_M hS hM a1).mp h
    simp only [eq_false e1, eq_false e2, ↓reduceIte, not_true_eq_false, not_false_eq_true, true_imp_iff, false_imp_iff, implies_true, and_true, true_and, eq_self]
    exact bad hT hS hC hM
theorem sim_as (hT : PlS T) (hS : S.ok) (hC : RC T S C) (hM : RM S M) (a1 a2 : Int32) : jX11_asK C a1 a2 ∧ jX12_asK M a1 a2 ∧ jX11_as C a1 a2 = jX12_as M a1 a2 ∧ ∃ S' : St, S'.ok ∧ RC T S' (jX11_asM C a1 a2) ∧ RM S' (jX12_asM M a1 a2) := by
  have h8 := hS.2.1.1
  unfold jX11_asK jX12_asK jX11_as jX12_as jX11_asM jX12_asM jX12_finds
  by_cases h : ∃ j, j < S.ns ∧ a1 = nI j
  · have e1 := (sl_C hS hC a1).mpr h
    have e2 := (sl_M hS hM a1).mpr h
    obtain ⟨j, hj, rfl⟩ := h
    have v : vp_in (nI j) 8 := (vp_nI (by omega)).mpr (by omega)
    have hk := (hS.2.1.2.1 j hj).1
    rw [nI_clamp (by omega), (hM.2.2.1.2 j (by omega)).1]
    by_cases c2 : wi a2 0 4
    · obtain ⟨x, -, hx2, rfl⟩ := wi_nI (a := 0) (b := 4) (by omega) c2 (by omega)
      obtain ⟨k1, k2⟩ := isOf_C hS hC hj (k := x) (by omega)
      have g0 : (nI x = 0) = (x = 0) := propext (nI_eq (b := 0) (by omega) (by omega))
      have g1 : (nI x = nI (S.kd j)) = (x = S.kd j) := propext (nI_eq (by omega) (by omega))
      have g2 : (nI x = 2) = (x = 2) := propext (nI_eq (b := 2) (by omega) (by omega))
      have g3 : (nI (S.kd j) = 3) = (S.kd j = 3) := propext (nI_eq (b := 3) (by omega) (by omega))
      rw [k2]
      by_cases c : x = S.kd j ∨ x = 0 ∨ (x = 2 ∧ S.kd j = 3)
      · have d : ¬ (1 : Int32) = 0 := by decide
        simp only [eq_true e1, eq_true e2, eq_true c2, eq_true v, eq_true k1, eq_true c, g0, g1, g2, g3, eq_false d, ↓reduceIte, not_true_eq_false, not_false_eq_true, true_imp_iff, false_imp_iff, implies_true, and_true, true_and, eq_self]
        by_cases q1 : x = 0
        · rw [if_pos q1, if_pos q1]; exact ⟨rfl, S, hS, hC, hM⟩
        · by_cases q2 : x = S.kd j
          · rw [if_neg q1, if_neg q1, if_pos q2, if_pos q2]; exact ⟨rfl, S, hS, hC, hM⟩
          · have q3 : x = 2 ∧ S.kd j = 3 := by omega
            rw [if_neg q1, if_neg q1, if_neg q2, if_neg q2, if_pos q3.1, if_pos q3.1, if_pos q3.2, if_pos q3.2]; exact ⟨rfl, S, hS, hC, hM⟩
      · have q1 : ¬ x = 0 := fun q => c (.inr (.inl q))
        have q2 : ¬ x = S.kd j := fun q => c (.inl q)
        rw [if_neg c]
        simp only [eq_true e1, eq_true e2, eq_true c2, eq_true v, eq_true k1, g0, g1, g2, g3, eq_false q1, eq_false q2, ↓reduceIte, not_true_eq_false, not_false_eq_true, true_imp_iff, false_imp_iff, implies_true, and_true, true_and, eq_self]
        by_cases q3 : x = 2
        · have q4 : ¬ S.kd j = 3 := fun q => c (.inr (.inr ⟨q3, q⟩))
          rw [if_pos q3, if_pos q3, if_neg q4, if_neg q4]; exact ⟨rfl, bad hT hS hC hM⟩
        · rw [if_neg q3, if_neg q3]; exact ⟨rfl, bad hT hS hC hM⟩
    · simp only [eq_true e1, eq_true e2, eq_false c2, eq_true v, ↓reduceIte, not_true_eq_false, not_false_eq_true, true_imp_iff, false_imp_iff, implies_true, and_true, true_and, eq_self]
      exact bad hT hS hC hM
  · have e1 := mt (sl_C hS hC a1).mp h
    have e2 := mt (sl_M hS hM a1).mp h
    simp only [eq_false e1, eq_false e2, ↓reduceIte, not_true_eq_false, not_false_eq_true, true_imp_iff, false_imp_iff, implies_true, and_true, true_and, eq_self]
    exact bad hT hS hC hM
theorem sim_load (hT : PlS T) (hS : S.ok) (hC : RC T S C) (hM : RM S M) (a1 a2 : Int32) : jX11_loadK C a1 a2 ∧ jX12_loadK M a1 a2 ∧ jX11_load C a1 a2 = jX12_load M a1 a2 ∧ ∃ S' : St, S'.ok ∧ RC T S' (jX11_loadM C a1 a2) ∧ RM S' (jX12_loadM M a1 a2) := by
  have h9 := hS.1.2.1
  have mb : MB S S.pl M := ⟨hS.1, hS.2.1, hS.2.2.2.2.1, hM.1, hM.2.2.1, hM.2.2.2.2.1⟩
  unfold jX11_loadK jX12_loadK jX11_load jX12_load jX11_loadM jX12_loadM jX12_finds
  by_cases h : ∃ j, j < S.nl ∧ a1 = nI j
  · have e1 := (li_C hS hC a1).mpr h
    have e2 := (li_M hS hM a1).mpr h
    obtain ⟨j, hj, rfl⟩ := h
    by_cases c2 : wi a2 0 23
    · obtain ⟨t, -, ht, rfl⟩ := wi_nI (a := 0) (b := 23) (by omega) c2 (by omega)
      obtain ⟨k1, k2⟩ := counting_M mb (t := t) (by omega)
      obtain ⟨l1, l2⟩ := load_M mb (l := j) (t := t) (by omega)
      simp only [eq_true e1, eq_true e2, eq_true c2, eq_true k1, k2, eq_true l1, l2, ↓reduceIte, not_true_eq_false, not_false_eq_true, true_imp_iff, false_imp_iff, implies_true, and_true, true_and, eq_self]
      unfold jX0_loadAtK jX0_loadAt
      rw [idx9, nI_clamp (by omega)]
      exact ⟨(vp_nI (by omega)).mpr (by omega), ((hC.2.2.2.2.2.2.2.1.2 t (by omega)).1 j (by omega)).1, S, hS, hC, hM⟩
    · simp only [eq_true e1, eq_true e2, eq_false c2, ↓reduceIte, not_true_eq_false, not_false_eq_true, true_imp_iff, false_imp_iff, implies_true, and_true, true_and, eq_self]
      exact bad hT hS hC hM
  · have e1 := mt (li_C hS hC a1).mp h
    have e2 := mt (li_M hS hM a1).mp h
    simp only [eq_false e1, eq_false e2, ↓reduceIte, not_true_eq_false, not_false_eq_true, true_imp_iff, false_imp_iff, implies_true, and_true, true_and, eq_self]
    exact bad hT hS hC hM
theorem sim_fallRoom (hT : PlS T) (hS : S.ok) (hC : RC T S C) (hM : RM S M) (a1 a2 : Int32) : jX11_fallRoomK C a1 a2 ∧ jX12_fallRoomK M a1 a2 ∧ jX11_fallRoom C a1 a2 = jX12_fallRoom M a1 a2 ∧ ∃ S' : St, S'.ok ∧ RC T S' (jX11_fallRoomM C a1 a2) ∧ RM S' (jX12_fallRoomM M a1 a2) := by
  have h9 := hS.1.2.1
  have mb : MB S S.pl M := ⟨hS.1, hS.2.1, hS.2.2.2.2.1, hM.1, hM.2.2.1, hM.2.2.2.2.1⟩
  unfold jX11_fallRoomK jX12_fallRoomK jX11_fallRoom jX12_fallRoom jX11_fallRoomM jX12_fallRoomM jX12_finds
  by_cases h : ∃ j, j < S.nl ∧ a1 = nI j
  · have e1 := (li_C hS hC a1).mpr h
    have e2 := (li_M hS hM a1).mpr h
    obtain ⟨j, hj, rfl⟩ := h
    by_cases c2 : wi a2 0 23
    · obtain ⟨t, -, ht, rfl⟩ := wi_nI (a := 0) (b := 23) (by omega) c2 (by omega)
      obtain ⟨k1, k2⟩ := counting_M mb (t := t) (by omega)
      obtain ⟨l1, l2⟩ := fall_M mb (l := j) (t := t) (by omega)
      simp only [eq_true e1, eq_true e2, eq_true c2, eq_true k1, k2, eq_true l1, l2, ↓reduceIte, not_true_eq_false, not_false_eq_true, true_imp_iff, false_imp_iff, implies_true, and_true, true_and, eq_self]
      unfold jX0_fallAtK jX0_fallAt
      rw [idx9, nI_clamp (by omega)]
      exact ⟨(vp_nI (by omega)).mpr (by omega), ((hC.2.2.2.2.2.2.2.1.2 t (by omega)).1 j (by omega)).2.1, S, hS, hC, hM⟩
    · simp only [eq_true e1, eq_true e2, eq_false c2, ↓reduceIte, not_true_eq_false, not_false_eq_true, true_imp_iff, false_imp_iff, implies_true, and_true, true_and, eq_self]
      exact bad hT hS hC hM
  · have e1 := mt (li_C hS hC a1).mp h
    have e2 := mt (li_M hS hM a1).mp h
    simp only [eq_false e1, eq_false e2, ↓reduceIte, not_true_eq_false, not_false_eq_true, true_imp_iff, false_imp_iff, implies_true, and_true, true_and, eq_self]
    exact bad hT hS hC hM
theorem sim_work (hT : PlS T) (hS : S.ok) (hC : RC T S C) (hM : RM S M) (a1 a2 : Int32) : jX11_workK C a1 a2 ∧ jX12_workK M a1 a2 ∧ jX11_work C a1 a2 = jX12_work M a1 a2 ∧ ∃ S' : St, S'.ok ∧ RC T S' (jX11_workM C a1 a2) ∧ RM S' (jX12_workM M a1 a2) := by
  have h6 := hS.1.1
  have mb : MB S S.pl M := ⟨hS.1, hS.2.1, hS.2.2.2.2.1, hM.1, hM.2.2.1, hM.2.2.2.2.1⟩
  unfold jX11_workK jX12_workK jX11_work jX12_work jX11_workM jX12_workM jX12_finds
  by_cases h : ∃ j, j < S.nn ∧ a1 = nI j
  · have e1 := (no_C hS hC a1).mpr h
    have e2 := (no_M hS hM a1).mpr h
    obtain ⟨j, hj, rfl⟩ := h
    by_cases c2 : wi a2 0 23
    · obtain ⟨t, -, ht, rfl⟩ := wi_nI (a := 0) (b := 23) (by omega) c2 (by omega)
      obtain ⟨k1, k2⟩ := counting_M mb (t := t) (by omega)
      obtain ⟨l1, l2⟩ := work_M mb (a := j) (t := t) (by omega)
      simp only [eq_true e1, eq_true e2, eq_true c2, eq_true k1, k2, eq_true l1, l2, ↓reduceIte, not_true_eq_false, not_false_eq_true, true_imp_iff, false_imp_iff, implies_true, and_true, true_and, eq_self]
      unfold jX0_worksAtK jX0_worksAt
      rw [idx6, nI_clamp (by omega)]
      exact ⟨(vp_nI (by omega)).mpr (by omega), (hC.2.2.2.2.2.2.2.1.2 t (by omega)).2 j (by omega), S, hS, hC, hM⟩
    · simp only [eq_true e1, eq_true e2, eq_false c2, ↓reduceIte, not_true_eq_false, not_false_eq_true, true_imp_iff, false_imp_iff, implies_true, and_true, true_and, eq_self]
      exact bad hT hS hC hM
  · have e1 := mt (no_C hS hC a1).mp h
    have e2 := mt (no_M hS hM a1).mp h
    simp only [eq_false e1, eq_false e2, ↓reduceIte, not_true_eq_false, not_false_eq_true, true_imp_iff, false_imp_iff, implies_true, and_true, true_and, eq_self]
    exact bad hT hS hC hM
end SIM
end
