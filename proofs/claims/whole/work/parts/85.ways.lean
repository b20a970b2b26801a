noncomputable section
/-! the class's WAYS -/
def KeysC (S : St) (A : Acc) (C : IM) : Prop := C 4 4 = nI A.2 ∧ ∀ j, j < A.2 → C 5 j = nI (keyN S (A.1 j))
def FrW (C C' : IM) : Prop := ∀ k j, k ≠ 5 → ¬ (k = 4 ∧ j = 4) → C' k j = C k j
theorem FrW.refl (C : IM) : FrW C C := fun _ _ _ _ => rfl
theorem FrW.trans {A B C : IM} (h : FrW A B) (h2 : FrW B C) : FrW A C := fun k j a b => (h2 k j a b).trans (h k j a b)
theorem jInsert_loop {S : St} {W : Nat → List Nat} {p : List Nat} (hp : wOk S p) : ∀ (i f : Nat) (I : IM), i < f → i ≤ 26 → (∀ j, j < i → wOk S (W j) ∧ I 5 j = nI (keyN S (W j))) → jInsertO (nI (keyN S p)) f (nI i) I ∧ ∀ k j, jInsertI (nI (keyN S p)) f (nI i) I k j = if k = 4 ∧ j = 4 then I 4 4 + 1 else if k = 5 ∧ j ≤ i then nI (keyN S (insF (ahd S) W i p j)) else I k j := by
  intro i
  induction i with
  | zero =>
    intro f I hf h26 h
    obtain ⟨f, rfl⟩ : ∃ g, f = g + 1 := ⟨f - 1, by omega⟩
    rw [jInsertO_15, jInsertI_15]
    have h0 : nI 0 ≤ 0 := by decide
    refine ⟨⟨fun _ => (vp_nI (by omega)).mpr (by omega), fun q => absurd h0 q⟩, fun k j => ?_⟩
    rw [if_pos h0, nI_clamp (by omega), up2_ap, up2_ap]
    by_cases c : k = 4 ∧ j = 4
    · rw [if_pos c, if_pos c]
    · rw [if_neg c, if_neg c]
      by_cases c2 : k = 5 ∧ j = 0
      · rw [if_pos c2, if_pos (by omega)]
        unfold insF
        rw [if_pos c2.2]
      · rw [if_neg c2, if_neg (by omega)]
  | succ i ih =>
    intro f I hf h26 h
    obtain ⟨f, rfl⟩ : ∃ g, f = g + 1 := ⟨f - 1, by omega⟩
    rw [jInsertO_15, jInsertI_15]
    have h0 : ¬ nI (i + 1) ≤ 0 := nI_nle (by omega) (by omega)
    obtain ⟨hw, hi⟩ := h i (by omega)
    rw [nI_pred, pk_m1, nI_clamp (show i < 2 ^ 31 by omega), nI_clamp (show i + 1 < 2 ^ 31 by omega), hi]
    have hk1 := key_lt hp
    have hk2 := key_lt hw
    have hle : nI (keyN S (W i)) ≤ nI (keyN S p) ↔ ¬ ahd S p (W i) = true := by
      rw [nI_leI hk2 hk1, ahd_key hp hw]; omega
    have v1 : vp_in (nI i) 27 := (vp_nI (by omega)).mpr (by omega)
    have v2 : vp_in (nI (i + 1)) 27 := (vp_nI (by omega)).mpr (by omega)
    by_cases ha : ahd S p (W i) = true
    · have hle' : ¬ nI (keyN S (W i)) ≤ nI (keyN S p) := fun q => hle.mp q ha
      obtain ⟨i1, i2⟩ := ih f (up2 I 5 (i + 1) (nI (keyN S (W i)))) (by omega) (by omega) (fun j hj => ⟨(h j (by omega)).1, by rw [up2_sj _ _ _ (by omega)]; exact (h j (by omega)).2⟩)
      refine ⟨⟨fun q => absurd q h0, fun _ => ⟨v1, fun q => absurd q hle', fun _ => ⟨v1, v2, i1⟩⟩⟩, fun k j => ?_⟩
      rw [if_neg h0, if_neg hle', i2, up2_o _ _ _ _ (by omega), up2_ap]
      by_cases c : k = 4 ∧ j = 4
      · rw [if_pos c, if_pos c]
      · rw [if_neg c, if_neg c]
        rw [insF, if_pos ha]
        by_cases c2 : k = 5 ∧ j ≤ i
        · rw [if_pos c2, if_pos (by omega), if_neg (by omega)]
        · rw [if_neg c2]
          by_cases c3 : k = 5 ∧ j = i + 1
          · rw [if_pos c3, if_pos (by omega), if_pos c3.2]
          · rw [if_neg c3, if_neg (by omega)]
    · have hle' : nI (keyN S (W i)) ≤ nI (keyN S p) := hle.mpr ha
      refine ⟨⟨fun q => absurd q h0, fun _ => ⟨v1, fun _ => v2, fun q => absurd hle' q⟩⟩, fun k j => ?_⟩
      rw [if_neg h0, if_pos hle', up2_ap, up2_ap]
      by_cases c : k = 4 ∧ j = 4
      · rw [if_pos c, if_pos c]
      · rw [if_neg c, if_neg c]
        unfold insF
        rw [if_neg ha]
        by_cases c2 : k = 5 ∧ j = i + 1
        · rw [if_pos c2, if_pos (by omega), if_pos c2.2]
        · rw [if_neg c2]
          by_cases c3 : k = 5 ∧ j ≤ i + 1
          · rw [if_pos c3, if_neg (by omega), c3.1]
            exact (h j (by omega)).2
          · rw [if_neg c3]
theorem jInsert_spec {S : St} {A : Acc} {p : List Nat} {C : IM} (hp : wOk S p) (hA : ∀ j, j < A.2 → wOk S (A.1 j)) (h : KeysC S A C) (h27 : A.2 < 27) : jInsertK C (nI (keyN S p)) ∧ KeysC S (insF (ahd S) A.1 A.2 p, A.2 + 1) (jInsert C (nI (keyN S p))) ∧ FrW C (jInsert C (nI (keyN S p))) := by
  obtain ⟨h1, h2⟩ := h
  have hlt : C 4 4 < 27 := by rw [h1, li27]; exact nI_lt h27 (by omega)
  unfold jInsertK jInsert
  rw [if_pos hlt, h1]
  obtain ⟨g1, g2⟩ := jInsert_loop hp A.2 FU C (by rw [FU_eq]; omega) (by omega) (fun j hj => ⟨hA j hj, h2 j hj⟩)
  refine ⟨⟨fun _ => g1, fun _ => trivial⟩, ⟨?_, fun j hj => ?_⟩, fun k j a b => ?_⟩
  · rw [g2, if_pos ⟨rfl, rfl⟩, h1, nI_1]
  · have : j < A.2 + 1 := hj
    rw [g2, if_neg (by omega), if_pos ⟨rfl, by omega⟩]
  · rw [g2, if_neg b, if_neg (fun q => a q.1)]
/-- one LINE more in a key -/
theorem longer_key {S : St} {p : List Nat} {l : Nat} (hp : wOk S p) (h4 : p.length ≤ 4) (hl : l < 9) (ht : S.lt l ≤ 9) : jLonger (nI (keyN S p)) (nI l) (nI (S.lt l)) = nI (keyN S (p ++ [l])) := by
  have h1 := row16_lt4 hp h4
  have h2 := late_le p hp.2
  have h3 : keyN S p < 2 ^ 31 := key_lt hp
  have hm : nI (keyN S p) &&& 1048575 = nI (rowB 16 p 0) := by
    have : (1048575 : Int32) = nI 1048575 := rfl
    rw [this, and_nI]
    have e : keyN S p &&& 1048575 = keyN S p % 2 ^ 20 := Nat.and_two_pow_sub_one_eq_mod (keyN S p) 20
    rw [e]
    congr 1
    unfold keyN
    omega
  have hsh : nI (rowB 16 p 0) <<< ((4 : Int32) &&& 31) = nI (rowB 16 p 0 * 2 ^ 4) := shl_nI (k := 4) (by omega) (by omega)
  have hsl : nI (S.lt l) <<< ((23 : Int32) &&& 31) = nI (S.lt l * 2 ^ 23) := shl_nI (k := 23) (by omega) (by omega)
  unfold jLonger
  have h48 : (1048576 : Int32) = nI 1048576 := rfl
  rw [hm, hsh, hsl, h48, pk_sub (by unfold keyN; omega), nI_add, nI_add, or_nI, or_nI]
  congr 1
  have e1 : keyN S p - rowB 16 p 0 + S.lt l * 2 ^ 23 + 1048576 = (lateN S (p ++ [l]) * 8 + (p ++ [l]).length) * 2 ^ 20 := by
    rw [late_app, List.length_append, List.length_singleton]
    unfold keyN
    omega
  have e2 : rowB 16 p 0 * 2 ^ 4 ||| l = rowB 16 (p ++ [l]) 0 := by
    have e := Nat.two_pow_add_eq_or_of_lt (i := 4) (b := l) (by omega) (rowB 16 p 0)
    rw [rowB_app, Nat.mul_comm (rowB 16 p 0) (2 ^ 4), ← e]
  have e3 : rowB 16 (p ++ [l]) 0 < 2 ^ 20 := by
    rw [rowB_app]; omega
  rw [Nat.or_assoc, e2, e1, Nat.mul_comm, ← Nat.two_pow_add_eq_or_of_lt e3]
  unfold keyN
  omega
theorem jOther_S {S : St} {C : IM} (hS : S.netOk) (h : cNet S C) {l x : Nat} (hl : l < S.nl) (hx : x < 2 ^ 31) : jOther C l (nI x) = match S.oth l x with
    | none => -1
    | some y => nI y := by
  have h9 := hS.2.1
  obtain ⟨a1, a2, -⟩ := hS.2.2.2.2 l hl
  have h6 := hS.1
  obtain ⟨e1, e2, -⟩ := h.2.2.2 l (by omega)
  unfold jOther St.oth
  rw [e1, e2]
  by_cases c : x = S.ea l
  · rw [if_pos (congrArg nI c), if_pos c]
  · rw [if_neg (fun q => c ((nI_eq hx (by omega)).mp q)), if_neg c]
    by_cases c2 : x = S.eb l
    · rw [if_pos (congrArg nI c2), if_pos c2]
    · rw [if_neg (fun q => c2 ((nI_eq hx (by omega)).mp q)), if_neg c2]
theorem cNet.frw {S : St} {C C' : IM} (h : cNet S C) (f : FrW C C') : cNet S C' := by
  obtain ⟨h1, h2, h3, h4⟩ := h
  refine ⟨by rw [f _ _ (by omega) (by omega)]; exact h1, by rw [f _ _ (by omega) (by omega)]; exact h2, fun a ha => by rw [f _ _ (by omega) (by omega)]; exact h3 a ha, fun l hl => ?_⟩
  rw [f _ _ (by omega) (by omega), f _ _ (by omega) (by omega), f _ _ (by omega) (by omega), f _ _ (by omega) (by omega), f _ _ (by omega) (by omega)]
  exact h4 l hl
/-- extend goes through what the search goes through -/
theorem ext_spec {S : St} (hS : S.netOk) {a b : Nat} (ha : a < S.nn) (hb : b < S.nn) : ∀ (k x seen : Nat) (p : List Nat) (A : Acc) (C : IM), Pre S a b x seen p → p.length + k = 6 → cNet S C → C 4 2 = nI b → KeysC S A C → (∀ j, j < A.2 → S.path a (2 ^ a) b (A.1 j) ∧ wOk S (A.1 j)) → A.2 + cnt S b k x seen ≤ 27 →
    (jExtP k).2 C (nI x) (nI seen) (nI (keyN S p)) (nI p.length) ∧ KeysC S (dfs S b k x seen p A) ((jExtP k).1 C (nI x) (nI seen) (nI (keyN S p)) (nI p.length)) ∧ FrW C ((jExtP k).1 C (nI x) (nI seen) (nI (keyN S p)) (nI p.length)) ∧ ∀ j, j < (dfs S b k x seen p A).2 → S.path a (2 ^ a) b ((dfs S b k x seen p A).1 j) ∧ wOk S ((dfs S b k x seen p A).1 j) := by
  intro k
  induction k with
  | zero =>
    intro x seen p A C hP hk
    have := hP.len hS ha
    omega
  | succ k ih =>
    intro x seen p A C hP hk hN h42 hK hA hc
    have hp := hP.wOk hS ha
    obtain ⟨q1, q2, q3, q4⟩ := hP.pop hS ha
    have h6 := hS.1
    have h9 := hS.2.1
    show jExtSK C (nI x) (nI seen) (nI (keyN S p)) (nI p.length) (jExtP k).1 (jExtP k).2 ∧ KeysC S _ (jExtS C (nI x) (nI seen) (nI (keyN S p)) (nI p.length) (jExtP k).1 (jExtP k).2) ∧ FrW C (jExtS C (nI x) (nI seen) (nI (keyN S p)) (nI p.length) (jExtP k).1 (jExtP k).2) ∧ _
    unfold jExtSK jExtS
    unfold dfs
    unfold cnt at hc
    rw [h42]
    by_cases hxb : x = b
    · subst hxb
      rw [if_pos rfl] at hc ⊢
      rw [if_pos rfl]
      obtain ⟨g1, g2, g3⟩ := jInsert_spec hp (fun j hj => (hA j hj).2) hK (by omega)
      refine ⟨⟨fun q => absurd rfl q, fun _ => g1⟩, g2, g3, ?_⟩
      exact insF_all (Q := fun w => S.path a (2 ^ a) x w ∧ wOk S w) ⟨hP.done, hp⟩ A.2 hA
    · have hxb' : ¬ nI x = nI b := fun q => hxb ((nI_eq (by omega) (by omega)).mp q)
      rw [if_neg hxb] at hc ⊢
      rw [if_neg hxb']
      by_cases h5 : p.length = 5
      · have h5' : ¬ nI p.length < 5 := by rw [h5]; decide
        rw [if_neg h5', hP.stop hS ha h5 _ _ _ (Nat.le_refl _)]
        exact ⟨⟨fun _ => ⟨fun q => absurd q h5', fun _ => trivial⟩, fun q => absurd q hxb'⟩, hK, FrW.refl _, hA⟩
      · have hlen := hp.1
        have h5' : nI p.length < 5 := by rw [li5]; exact nI_lt (show p.length < 5 by omega) (by omega)
        rw [if_pos h5']
        have loop : ∀ (m l f : Nat) (C' : IM), m + l = S.nl → m < f → FrW C C' → KeysC S (lpA S x seen p (dfs S b k) A l) C' → (∀ j, j < (lpA S x seen p (dfs S b k) A l).2 → S.path a (2 ^ a) b ((lpA S x seen p (dfs S b k) A l).1 j) ∧ wOk S ((lpA S x seen p (dfs S b k) A l).1 j)) →
            jExtSO (nI x) (nI seen) (nI (keyN S p)) (nI p.length) (jExtP k).1 (jExtP k).2 f (nI l) C' ∧ KeysC S (lpA S x seen p (dfs S b k) A S.nl) (jExtSI (nI x) (nI seen) (nI (keyN S p)) (nI p.length) (jExtP k).1 (jExtP k).2 f (nI l) C') ∧ FrW C (jExtSI (nI x) (nI seen) (nI (keyN S p)) (nI p.length) (jExtP k).1 (jExtP k).2 f (nI l) C') ∧ (∀ j, j < (lpA S x seen p (dfs S b k) A S.nl).2 → S.path a (2 ^ a) b ((lpA S x seen p (dfs S b k) A S.nl).1 j) ∧ wOk S ((lpA S x seen p (dfs S b k) A S.nl).1 j)) := by
          intro m
          induction m with
          | zero =>
            intro l f C' hm hf hF hK' hA'
            obtain ⟨f, rfl⟩ : ∃ g, f = g + 1 := ⟨f - 1, by omega⟩
            have hN' := hN.frw hF
            obtain rfl : l = S.nl := by omega
            rw [jExtSO_25, jExtSI_25, hN'.2.1, if_pos (Int32.le_refl _)]
            exact ⟨⟨fun _ => trivial, fun q => absurd (Int32.le_refl _) q⟩, hK', hF, hA'⟩
          | succ m ihm =>
            intro l f C' hm hf hF hK' hA'
            obtain ⟨f, rfl⟩ : ∃ g, f = g + 1 := ⟨f - 1, by omega⟩
            have hN' := hN.frw hF
            have hll : l < S.nl := by omega
            have hl' : ¬ nI S.nl ≤ nI l := nI_ge hll (by omega)
            have hin : vp_in (nI l) 9 := (vp_nI (by omega)).mpr (by omega)
            have ho := jOther_S hS hN' hll (x := x) (by omega)
            have hlt := hS.2.2.2.2 l hll
            rw [jExtSO_25, jExtSI_25, hN'.2.1, if_neg hl', nI_clamp (show l < 2 ^ 31 by omega), ho, nI_1]
            cases e : S.oth l x with
            | none =>
              dsimp only
              have hneg : (-1 : Int32) < 0 := by decide
              have hs1 : lpA S x seen p (dfs S b k) A (l + 1) = lpA S x seen p (dfs S b k) A l := by
                rw [lpA, e]
              rw [if_pos hneg]
              obtain ⟨g1, g2⟩ := ihm (l + 1) f C' (by omega) (by omega) hF (hs1 ▸ hK') (hs1 ▸ hA')
              exact ⟨⟨fun q => absurd q hl', fun _ => ⟨hin, fun _ => g1, fun q => absurd hneg q⟩⟩, g2⟩
            | some y =>
              dsimp only
              obtain ⟨hy, -, -⟩ := oth_lt hS hll e
              have hneg : ¬ nI y < 0 := nI_pos (by omega)
              rw [if_neg hneg]
              have hhs : hs (nI seen) (nI y) ↔ seen.testBit y = true := hs_nI (by omega) (by omega)
              by_cases hsy : seen.testBit y = true
              · have hs1 : lpA S x seen p (dfs S b k) A (l + 1) = lpA S x seen p (dfs S b k) A l := by
                  rw [lpA, e]; dsimp only; rw [if_pos hsy]
                rw [if_pos (hhs.mpr hsy)]
                obtain ⟨g1, g2⟩ := ihm (l + 1) f C' (by omega) (by omega) hF (hs1 ▸ hK') (hs1 ▸ hA')
                exact ⟨⟨fun q => absurd q hl', fun _ => ⟨hin, fun q => absurd q hneg, fun _ => ⟨fun _ => g1, fun q => absurd (hhs.mpr hsy) q⟩⟩⟩, g2⟩
              · have hs1 : lpA S x seen p (dfs S b k) A (l + 1) = dfs S b k y (seen ||| 2 ^ y) (p ++ [l]) (lpA S x seen p (dfs S b k) A l) := by
                  rw [lpA, e]; dsimp only; rw [if_neg hsy]
                have hsy' := Bool.eq_false_iff.mpr hsy
                rw [if_neg (fun q => hsy (hhs.mp q))]
                have hl3 : C' (6 + l) 3 = nI (S.lt l) := (hN'.2.2.2 l (by omega)).2.2.2.1
                rw [hl3, one_nI (by omega), or_nI, longer_key hp (by omega) (by omega) hlt.2.2.2.2.2.2.1]
                have hlen' : (p ++ [l]).length = p.length + 1 := by rw [List.length_append]; rfl
                have hcl : (lpA S x seen p (dfs S b k) A (l + 1)).2 ≤ (lpA S x seen p (dfs S b k) A S.nl).2 := by
                  have mono : ∀ d, (lpA S x seen p (dfs S b k) A (l + 1)).2 ≤ (lpA S x seen p (dfs S b k) A (l + 1 + d)).2 := by
                    intro d
                    induction d with
                    | zero => exact Nat.le_refl _
                    | succ d ihd =>
                      refine Nat.le_trans ihd ?_
                      rw [← Nat.add_assoc]
                      show _ ≤ (lpA S x seen p (dfs S b k) A ((l + 1 + d) + 1)).2
                      rw [lpA]
                      split
                      · exact Nat.le_refl _
                      · split
                        · exact Nat.le_refl _
                        · rw [dfs_cnt]; omega
                  have := mono (S.nl - (l + 1))
                  rwa [show l + 1 + (S.nl - (l + 1)) = S.nl by omega] at this
                have htot : (lpA S x seen p (dfs S b k) A S.nl).2 ≤ 27 := by
                  have := dfs_cnt S b (k + 1) x seen p A
                  unfold dfs cnt at this
                  rw [if_neg hxb, if_neg hxb] at this
                  rw [this]; exact hc
                have hcc : (lpA S x seen p (dfs S b k) A l).2 + cnt S b k y (seen ||| 2 ^ y) ≤ 27 := by
                  have := dfs_cnt S b k y (seen ||| 2 ^ y) (p ++ [l]) (lpA S x seen p (dfs S b k) A l)
                  rw [← hs1] at this
                  omega
                have h42' : C' 4 2 = nI b := by rw [hF _ _ (by omega) (by omega)]; exact h42
                obtain ⟨r1, r2, r3, r4⟩ := ih y (seen ||| 2 ^ y) (p ++ [l]) (lpA S x seen p (dfs S b k) A l) C' (hP.snoc hxb hll e hsy') (by omega) hN' h42' hK' hA' hcc
                rw [hlen', ← nI_1] at r1 r2 r3
                obtain ⟨g1, g2⟩ := ihm (l + 1) f _ (by omega) (by omega) (hF.trans r3) (by rw [hs1]; exact r2) (by rw [hs1]; exact r4)
                exact ⟨⟨fun q => absurd q hl', fun _ => ⟨hin, fun q => absurd q hneg, fun _ => ⟨fun q => absurd (hhs.mp q) hsy, fun _ => ⟨r1, g1⟩⟩⟩⟩, g2⟩
        obtain ⟨g1, g2, g3, g4⟩ := loop S.nl 0 FU C (by omega) (by rw [FU_eq]; omega) (FrW.refl _) hK hA
        exact ⟨⟨fun _ => ⟨fun _ => g1, fun q => absurd h5' q⟩, fun q => absurd q hxb'⟩, g2, g3, g4⟩
end
