noncomputable section
/-! the class's find -/
def St.wayA (S : St) (a b : Nat) : Acc := dfs S b 6 a (2 ^ a) [] (fun _ => [], 0)
theorem key_nil (S : St) : keyN S [] = 0 := by simp [keyN, lateN, rowB]
def cWays (S : St) (C : IM) : Prop := C 4 3 = -1 ∨ ∃ m, m ≤ S.nl ∧ C 4 3 = nI m ∧ (m = S.nl → ∃ a b, a < S.nn ∧ b < S.nn ∧ C 4 1 = nI a ∧ C 4 2 = nI b ∧ KeysC S (S.wayA a b) C)
def FrF (C C' : IM) : Prop := ∀ k, k ≠ 4 → k ≠ 5 → C' k = C k
theorem wayA_27 {S : St} (hS : S.netOk) (a b : Nat) : (S.wayA a b).2 ≤ 27 := by
  unfold St.wayA
  rw [dfs_cnt]
  have := cnt_27 hS b 6 (x := a) (seen := 2 ^ a) (by rw [pow_bit]; simp)
  show 0 + _ ≤ _
  omega
theorem find_go {S : St} (hS : S.netOk) {C : IM} (hN : cNet S C) {a b : Nat} (ha : a < S.nn) (hb : b < S.nn) :
    (jExtP 6).2 (up2 (up2 (up2 (up2 C 4 1 (nI a)) 4 2 (nI b)) 4 3 (nI S.nl)) 4 4 0) (nI a) ((1 : Int32) <<< (nI a &&& 31)) 0 0 ∧ KeysC S (S.wayA a b) ((jExtP 6).1 (up2 (up2 (up2 (up2 C 4 1 (nI a)) 4 2 (nI b)) 4 3 (nI S.nl)) 4 4 0) (nI a) ((1 : Int32) <<< (nI a &&& 31)) 0 0) ∧ FrW (up2 (up2 (up2 (up2 C 4 1 (nI a)) 4 2 (nI b)) 4 3 (nI S.nl)) 4 4 0) ((jExtP 6).1 (up2 (up2 (up2 (up2 C 4 1 (nI a)) 4 2 (nI b)) 4 3 (nI S.nl)) 4 4 0) (nI a) ((1 : Int32) <<< (nI a &&& 31)) 0 0) ∧ ∀ j, j < (S.wayA a b).2 → S.path a (2 ^ a) b ((S.wayA a b).1 j) ∧ wOk S ((S.wayA a b).1 j) := by
  have h6 := hS.1
  have hc := cnt_27 hS b 6 (x := a) (seen := 2 ^ a) (by rw [pow_bit]; simp)
  have e := ext_spec hS ha hb 6 a (2 ^ a) [] (fun _ => [], 0) (up2 (up2 (up2 (up2 C 4 1 (nI a)) 4 2 (nI b)) 4 3 (nI S.nl)) 4 4 0) .nil rfl ?_ ?_ ?_ ?_ ?_
  · rw [show nI (keyN S []) = (0 : Int32) by rw [key_nil]; rfl, show nI ([] : List Nat).length = (0 : Int32) from rfl] at e
    rw [one_nI (by omega)]
    unfold St.wayA
    exact e
  · obtain ⟨h1, h2, h3, h4⟩ := hN
    refine ⟨by simp (disch := omega) only [up2_o]; exact h1, by simp (disch := omega) only [up2_o]; exact h2, fun a ha => by simp (disch := omega) only [up2_o]; exact h3 a ha, fun l hl => ?_⟩
    simp (disch := omega) only [up2_o]
    exact h4 l hl
  · simp (disch := omega) only [up2_at, up2_sj]
  · exact ⟨up2_at _ _ _ _, fun j hj => absurd hj (Nat.not_lt_zero _)⟩
  · exact fun j hj => absurd hj (Nat.not_lt_zero _)
  · show 0 + _ ≤ _
    omega
theorem way_ok {S : St} (hS : S.netOk) {a b : Nat} (ha : a < S.nn) (hb : b < S.nn) : ∀ j, j < (S.wayA a b).2 → S.path a (2 ^ a) b ((S.wayA a b).1 j) ∧ wOk S ((S.wayA a b).1 j) := by
  have hN : cNet S (fun k j => if k = 1 ∧ j = 3 then nI S.nn else if k = 1 ∧ j = 4 then nI S.nl else if k = 2 then nI (S.wr j) else if j = 0 then nI (S.ea (k - 6)) else if j = 1 then nI (S.eb (k - 6)) else if j = 2 then nI (S.rm (k - 6)) else if j = 3 then nI (S.lt (k - 6)) else nI (S.pr (k - 6))) := by
    refine ⟨by simp, by simp, fun a _ => by simp, fun l hl => ?_⟩
    have e : 6 + l - 6 = l := by omega
    have e1 : ¬ 6 + l = 1 := by omega
    have e2 : ¬ 6 + l = 2 := by omega
    simp [e, e1, e2]
  exact (find_go hS hN ha hb).2.2.2
theorem find_spec {S : St} (hS : S.netOk) {C : IM} (hN : cNet S C) (hW : cWays S C) {a b : Nat} (ha : a < S.nn) (hb : b < S.nn) : jFindK C (nI a) (nI b) ∧ KeysC S (S.wayA a b) (jFindM C (nI a) (nI b)) ∧ FrF C (jFindM C (nI a) (nI b)) ∧ cWays S (jFindM C (nI a) (nI b)) := by
  have h6 := hS.1
  have h9 := hS.2.1
  obtain ⟨g1, g2, g3, -⟩ := find_go hS hN ha hb
  have hF : FrF C ((jExtP 6).1 (up2 (up2 (up2 (up2 C 4 1 (nI a)) 4 2 (nI b)) 4 3 (nI S.nl)) 4 4 0) (nI a) ((1 : Int32) <<< (nI a &&& 31)) 0 0) := by
    intro k h1 h2
    funext j
    rw [g3 k j h2 (fun q => h1 q.1)]
    simp (disch := omega) only [up2_o]
  have hc : cWays S ((jExtP 6).1 (up2 (up2 (up2 (up2 C 4 1 (nI a)) 4 2 (nI b)) 4 3 (nI S.nl)) 4 4 0) (nI a) ((1 : Int32) <<< (nI a &&& 31)) 0 0) := by
    refine .inr ⟨S.nl, Nat.le_refl _, ?_, fun _ => ⟨a, b, ha, hb, ?_, ?_, g2⟩⟩
    · rw [g3 _ _ (by omega) (by omega)]; simp (disch := omega) only [up2_at, up2_sj]
    · rw [g3 _ _ (by omega) (by omega)]; simp (disch := omega) only [up2_at, up2_sj]
    · rw [g3 _ _ (by omega) (by omega)]; simp (disch := omega) only [up2_at, up2_sj]
  unfold jFindK jFindM
  rw [hN.2.1]
  by_cases c1 : nI a = C 4 1
  · rw [if_pos c1]
    by_cases c2 : nI b = C 4 2
    · rw [if_pos c2]
      by_cases c3 : nI S.nl = C 4 3
      · rw [if_pos c3]
        refine ⟨⟨fun q => absurd c1 q, fun _ => ⟨fun q => absurd c2 q, fun _ => ⟨fun q => absurd c3 q, fun _ => trivial⟩⟩⟩, ?_, fun _ _ _ => rfl, hW⟩
        rcases hW with h | ⟨m, h1, h2, h3⟩
        · rw [h] at c3
          exact absurd (c3 ▸ (nI_pos' (n := S.nl) (by omega)) : (0 : Int32) ≤ -1) (by decide)
        · have hm : m = S.nl := (nI_eq (by omega) (by omega)).mp (h2.symm.trans c3.symm)
          obtain ⟨a', b', q1, q2, q3, q4, q5⟩ := h3 hm
          have e1 : a = a' := (nI_eq (by omega) (by omega)).mp (c1.trans q3)
          have e2 : b = b' := (nI_eq (by omega) (by omega)).mp (c2.trans q4)
          subst e1; subst e2
          exact q5
      · rw [if_neg c3]
        exact ⟨⟨fun q => absurd c1 q, fun _ => ⟨fun q => absurd c2 q, fun _ => ⟨fun _ => g1, fun q => absurd q c3⟩⟩⟩, g2, hF, hc⟩
    · rw [if_neg c2]
      exact ⟨⟨fun q => absurd c1 q, fun _ => ⟨fun _ => g1, fun q => absurd q c2⟩⟩, g2, hF, hc⟩
  · rw [if_neg c1]
    exact ⟨⟨fun _ => g1, fun q => absurd q c1⟩, g2, hF, hc⟩
/-! the reference's record -/
def vM (S : St) (a : Nat) (w : List Nat) (k : Nat) : Int32 := if k = 116 then nI (rowN w 0) else if k = 117 then nI w.length else if k = 118 then nI (lateN S w) else if k = 119 then nI (setOf w) else nI (nodesOf S a w)
def WaysM (S : St) (a sl : Nat) (A : Acc) (M : IM) : Prop := M 115 sl = nI A.2 ∧ ∀ j, j < A.2 → ∀ k, 116 ≤ k → k ≤ 120 → M k (256 * sl + j) = vM S a (A.1 j) k
theorem up5 (I : IM) (o : Nat) (g : Nat → Int32) (k j : Nat) : up2 (up2 (up2 (up2 (up2 I 116 o (g 116)) 117 o (g 117)) 118 o (g 118)) 119 o (g 119)) 120 o (g 120) k j = if 116 ≤ k ∧ k ≤ 120 ∧ j = o then g k else I k j := by
  simp only [up2_ap]
  by_cases h : 116 ≤ k ∧ k ≤ 120 ∧ j = o
  · rw [if_pos h]
    obtain ⟨h1, h2, h3⟩ := h
    have : k = 116 ∨ k = 117 ∨ k = 118 ∨ k = 119 ∨ k = 120 := by omega
    rcases this with rfl | rfl | rfl | rfl | rfl <;> simp [h3]
  · rw [if_neg h, if_neg (by omega), if_neg (by omega), if_neg (by omega), if_neg (by omega), if_neg (by omega)]
theorem row10_lt {S : St} {p : List Nat} (h : wOk S p) : rowN p 0 < 100000 := by
  have h1 := rowB_lt (B := 10) p 0 (fun l hl => by have := (h.2 l hl).1; omega)
  have h2 : 10 ^ p.length ≤ 10 ^ 5 := Nat.pow_le_pow_right (by decide) h.1
  rw [rowN_eq]
  omega
theorem setOf_lt : ∀ {p : List Nat}, (∀ l ∈ p, l < 9) → setOf p < 2 ^ 9
  | [], _ => by decide
  | l :: p, h => or_lt (Nat.pow_lt_pow_right (by decide) (h l List.mem_cons_self)) (setOf_lt (fun x hx => h x (List.mem_cons_of_mem _ hx)))
theorem isAhead_eq {S : St} {a : Nat} {p w : List Nat} {M : IM} {o : Nat} (hp : wOk S p) (hw : wOk S w) (ho : o < 2304) (h : ∀ k, 116 ≤ k → k ≤ 120 → M k o = vM S a w k) : jX12_isAheadK M (nI (lateN S p)) (nI p.length) (nI o) ∧ (jX12_isAhead M (nI (lateN S p)) (nI p.length) (nI (rowN p 0)) (nI o) = 0 ↔ ¬ ahd S p w = true) := by
  have v : vp_in (nI o) 2304 := (vp_nI (by omega)).mpr ho
  have e6 : M 116 o = nI (rowN w 0) := h 116 (by omega) (by omega)
  have e7 : M 117 o = nI w.length := h 117 (by omega) (by omega)
  have e8 : M 118 o = nI (lateN S w) := h 118 (by omega) (by omega)
  have b1 := late_le p hp.2
  have b2 := late_le w hw.2
  have b3 := hp.1
  have b4 := hw.1
  have b5 := row10_lt hp
  have b6 := row10_lt hw
  refine ⟨⟨v, fun _ => ⟨v, fun _ => v, fun _ => v⟩, fun _ => v⟩, ?_⟩
  unfold jX12_isAhead ahd
  rw [nI_clamp (by omega), e6, e7, e8]
  simp (disch := omega) only [nI_eq, nI_leI]
  simp only [Bool.or_eq_true, Bool.and_eq_true, decide_eq_true_eq]
  by_cases c1 : lateN S p = lateN S w
  · rw [if_pos c1]
    by_cases c2 : p.length = w.length
    · rw [if_pos c2]
      by_cases c3 : rowN w 0 ≤ rowN p 0
      · rw [if_pos c3]; simp; omega
      · rw [if_neg c3]; simp; omega
    · rw [if_neg c2]
      by_cases c3 : w.length ≤ p.length
      · rw [if_pos c3]; simp; omega
      · rw [if_neg c3]; simp; omega
  · rw [if_neg c1]
    by_cases c3 : lateN S w ≤ lateN S p
    · rw [if_pos c3]; simp; omega
    · rw [if_neg c3]; simp; omega
def gV (S : St) (p : List Nat) (nd : Int32) (k : Nat) : Int32 := if k = 116 then nI (rowN p 0) else if k = 117 then nI p.length else if k = 118 then nI (lateN S p) else if k = 119 then nI (setOf p) else nd
theorem record_loop {S : St} {a sl : Nat} {W : Nat → List Nat} {p : List Nat} {nd : Int32} (hp : wOk S p) (hsl : sl < 9) (hnd : nd = nI (nodesOf S a p)) : ∀ (i f : Nat) (M : IM), i < f → i ≤ 255 → (∀ j, j < i → wOk S (W j) ∧ ∀ k, 116 ≤ k → k ≤ 120 → M k (256 * sl + j) = vM S a (W j) k) →
    jX12_recordO (nI sl) (nI p.length) nd f 1 (nI (rowN p 0)) (nI (lateN S p)) (nI (setOf p)) (nI (256 * sl + i)) M ∧ ∀ k j, jX12_recordI (nI sl) (nI p.length) nd f 1 (nI (rowN p 0)) (nI (lateN S p)) (nI (setOf p)) (nI (256 * sl + i)) M k j = if k = 115 ∧ j = sl then M 115 sl + 1 else if 116 ≤ k ∧ k ≤ 120 ∧ 256 * sl ≤ j ∧ j ≤ 256 * sl + i then vM S a (insF (ahd S) W i p (j - 256 * sl)) k else M k j := by
  have hg : ∀ k, 116 ≤ k → k ≤ 120 → gV S p nd k = vM S a p k := by
    intro k _ _; rw [hnd]; rfl
  have h256 : (256 : Int32) * nI sl = nI (256 * sl) := by rw [li256, pk_mul]
  intro i
  induction i with
  | zero =>
    intro f M hf h26 h
    obtain ⟨f, rfl⟩ : ∃ g, f = g + 1 := ⟨f - 1, by omega⟩
    have v : vp_in (nI (256 * sl)) 2304 := (vp_nI (by omega)).mpr (by omega)
    have v9 : vp_in (nI sl) 9 := (vp_nI (by omega)).mpr (by omega)
    rw [jX12_recordO_84, jX12_recordI_84, h256, Nat.add_zero, nI_clamp (show 256 * sl < 2 ^ 31 by omega), nI_clamp (show sl < 2 ^ 31 by omega)]
    refine ⟨⟨fun _ => ⟨v, v, v, v, v, v9, v9⟩, fun q => absurd (Int32.le_refl _) q⟩, fun k j => ?_⟩
    rw [if_pos (Int32.le_refl _), up2_ap]
    by_cases c : k = 115 ∧ j = sl
    · rw [if_pos c, if_pos c]
    · rw [if_neg c, if_neg c]
      have e := up5 M (256 * sl) (gV S p nd) k j
      refine e.trans ?_
      by_cases c2 : 116 ≤ k ∧ k ≤ 120 ∧ j = 256 * sl
      · have e0 : insF (ahd S) W 0 p (j - 256 * sl) = p := by rw [insF]; exact if_pos (by omega)
        rw [if_pos c2, if_pos (by omega), e0]
        exact hg k c2.1 c2.2.1
      · rw [if_neg c2, if_neg (by omega)]
  | succ i ih =>
    intro f M hf h26 h
    obtain ⟨f, rfl⟩ : ∃ g, f = g + 1 := ⟨f - 1, by omega⟩
    have v : vp_in (nI (256 * sl + (i + 1))) 2304 := (vp_nI (by omega)).mpr (by omega)
    have v' : vp_in (nI (256 * sl + i)) 2304 := (vp_nI (by omega)).mpr (by omega)
    have v9 : vp_in (nI sl) 9 := (vp_nI (by omega)).mpr (by omega)
    have h0 : ¬ nI (256 * sl + (i + 1)) ≤ nI (256 * sl) := nI_ge (by omega) (by omega)
    obtain ⟨hw, hi⟩ := h i (by omega)
    obtain ⟨a1, a2⟩ := isAhead_eq (o := 256 * sl + i) hp hw (by omega) hi
    rw [jX12_recordO_84, jX12_recordI_84, h256, nI_clamp (show 256 * sl + (i + 1) < 2 ^ 31 by omega), nI_clamp (show sl < 2 ^ 31 by omega), show nI (256 * sl + (i + 1)) - 1 = nI (256 * sl + i) from nI_pred _, show nI (256 * sl + (i + 1)) + (-1) = nI (256 * sl + i) from pk_m1 _, nI_clamp (show 256 * sl + i < 2 ^ 31 by omega)]
    by_cases ha : ahd S p (W i) = true
    · have hz : ¬ jX12_isAhead M (nI (lateN S p)) (nI p.length) (nI (rowN p 0)) (nI (256 * sl + i)) = 0 := fun q => a2.mp q ha
      have e := up5 M (256 * sl + (i + 1)) (fun k => M k (256 * sl + i))
      obtain ⟨i1, i2⟩ := ih f (up2 (up2 (up2 (up2 (up2 M 116 (256 * sl + (i + 1)) (M 116 (256 * sl + i))) 117 (256 * sl + (i + 1)) (M 117 (256 * sl + i))) 118 (256 * sl + (i + 1)) (M 118 (256 * sl + i))) 119 (256 * sl + (i + 1)) (M 119 (256 * sl + i))) 120 (256 * sl + (i + 1)) (M 120 (256 * sl + i))) (by omega) (by omega) (fun j hj => ⟨(h j (by omega)).1, fun k k1 k2 => by rw [e, if_neg (by omega)]; exact (h j (by omega)).2 k k1 k2⟩)
      refine ⟨⟨fun q => absurd q h0, fun _ => ⟨a1, fun q => absurd q hz, fun _ => ⟨v', v, v', v, v', v, v', v, v', v, i1⟩⟩⟩, fun k j => ?_⟩
      rw [if_neg h0, if_neg hz, i2, e, e, if_neg (show ¬ (116 ≤ 115 ∧ 115 ≤ 120 ∧ sl = 256 * sl + (i + 1)) by omega)]
      by_cases c : k = 115 ∧ j = sl
      · rw [if_pos c, if_pos c]
      · rw [if_neg c, if_neg c, insF, if_pos ha]
        by_cases c2 : 116 ≤ k ∧ k ≤ 120 ∧ 256 * sl ≤ j ∧ j ≤ 256 * sl + i
        · rw [if_pos c2, if_pos (by omega), if_neg (by omega)]
        · rw [if_neg c2]
          by_cases c3 : 116 ≤ k ∧ k ≤ 120 ∧ j = 256 * sl + (i + 1)
          · rw [if_pos c3, if_pos (by omega), if_pos (by omega)]
            exact hi k c3.1 c3.2.1
          · rw [if_neg c3, if_neg (by omega)]
    · have hz : jX12_isAhead M (nI (lateN S p)) (nI p.length) (nI (rowN p 0)) (nI (256 * sl + i)) = 0 := a2.mpr ha
      refine ⟨⟨fun q => absurd q h0, fun _ => ⟨a1, fun _ => ⟨v, v, v, v, v, v9, v9⟩, fun q => absurd hz q⟩⟩, fun k j => ?_⟩
      rw [if_neg h0, if_pos hz, up2_ap]
      by_cases c : k = 115 ∧ j = sl
      · rw [if_pos c, if_pos c]
      · rw [if_neg c, if_neg c]
        have e := up5 M (256 * sl + (i + 1)) (gV S p nd) k j
        refine e.trans ?_
        rw [insF, if_neg ha]
        by_cases c2 : 116 ≤ k ∧ k ≤ 120 ∧ j = 256 * sl + (i + 1)
        · rw [if_pos c2, if_pos (by omega), if_pos (by omega)]
          exact hg k c2.1 c2.2.1
        · rw [if_neg c2]
          by_cases c3 : 116 ≤ k ∧ k ≤ 120 ∧ 256 * sl ≤ j ∧ j ≤ 256 * sl + (i + 1)
          · rw [if_pos c3, if_neg (by omega)]
            have := (h (j - 256 * sl) (by omega)).2 k c3.1 c3.2.1
            rwa [show 256 * sl + (j - 256 * sl) = j by omega] at this
          · rw [if_neg c3]
end
