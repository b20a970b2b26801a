noncomputable section
/-- what record may write -/
def FrR (sl : Nat) (M M' : IM) : Prop := ∀ k j, ¬ (k = 115 ∧ j = sl) → ¬ (116 ≤ k ∧ k ≤ 120 ∧ 256 * sl ≤ j ∧ j < 256 * sl + 256) → M' k j = M k j
theorem record_pre {S : St} {sl many n : Nat} {nd : Int32} {M : IM} (hsl : sl < 9) (hN : mNet S M) (h9 : S.nl ≤ 9) (hm : M 115 sl = nI many) (hn6 : n ≤ 5) : ∀ (q : List Nat) (r t s i f : Nat), i + q.length = n → (∀ l ∈ q, l < S.nl) → (∀ j, j < q.length → M 123 (i + j) = nI (q.getD j 0)) →
    (jX12_recordO (nI sl) (nI n) nd f 1 (nI (rowN q r)) (nI (t + lateN S q)) (nI (s ||| setOf q)) (nI (256 * sl + many)) M → jX12_recordO (nI sl) (nI n) nd (f + (q.length + 1)) 0 (nI r) (nI t) (nI s) (nI i) M) ∧ jX12_recordI (nI sl) (nI n) nd (f + (q.length + 1)) 0 (nI r) (nI t) (nI s) (nI i) M = jX12_recordI (nI sl) (nI n) nd f 1 (nI (rowN q r)) (nI (t + lateN S q)) (nI (s ||| setOf q)) (nI (256 * sl + many)) M
  | [], r, t, s, i, f, hi, _, _ => by
    have hi : i = n := hi
    subst hi
    have v9 : vp_in (nI sl) 9 := (vp_nI (by omega)).mpr hsl
    show (_ → jX12_recordO _ _ _ (f + 1) 0 _ _ _ _ _) ∧ jX12_recordI _ _ _ (f + 1) 0 _ _ _ _ _ = _
    rw [jX12_recordO_12, jX12_recordI_12, if_pos (Int32.le_refl _), nI_clamp (show sl < 2 ^ 31 by omega), hm, li256, pk_mul, nI_add]
    refine ⟨fun h => ⟨fun _ => ⟨v9, ?_⟩, fun q => absurd (Int32.le_refl _) q⟩, ?_⟩
    · simpa [rowN, lateN, setOf] using h
    · simp [rowN, lateN, setOf]
  | l :: q, r, t, s, i, f, hi, hq, hv => by
    have hi : i + (q.length + 1) = n := hi
    have hl : l < S.nl := hq l List.mem_cons_self
    have h0 : M 123 i = nI l := hv 0 (Nat.succ_pos _)
    have hlt : M 84 l = nI (S.lt l) := (hN.2.2.2.1 l (by omega)).2.2.2.1
    have hle : ¬ nI n ≤ nI i := nI_ge (by omega) (by omega)
    have v6 : vp_in (nI i) 6 := (vp_nI (by omega)).mpr (by omega)
    have v9 : vp_in (nI l) 9 := (vp_nI (by omega)).mpr (by omega)
    show (_ → jX12_recordO _ _ _ (f + (q.length + 1) + 1) 0 _ _ _ _ _) ∧ jX12_recordI _ _ _ (f + (q.length + 1) + 1) 0 _ _ _ _ _ = _
    rw [jX12_recordO_12, jX12_recordI_12, if_neg hle, nI_clamp (show i < 2 ^ 31 by omega), h0, nI_clamp (show l < 2 ^ 31 by omega), hlt, one_nI (by omega), or_nI, nI_add, li10, pk_mul, nI_add, nI_1]
    obtain ⟨g1, g2⟩ := record_pre (S := S) (sl := sl) (many := many) (n := n) (nd := nd) (M := M) hsl hN h9 hm hn6 q (10 * r + l) (t + S.lt l) (s ||| 2 ^ l) (i + 1) f (by omega) (fun x hx => hq x (List.mem_cons_of_mem _ hx)) (fun j hj => by
      have := hv (j + 1) (Nat.succ_lt_succ hj)
      rw [show i + 1 + j = i + (j + 1) by omega, this, List.getD_cons_succ])
    have e1 : t + lateN S (l :: q) = t + S.lt l + lateN S q := (Nat.add_assoc _ _ _).symm
    have e2 : s ||| setOf (l :: q) = s ||| 2 ^ l ||| setOf q := (Nat.or_assoc _ _ _).symm
    rw [e1, e2]
    exact ⟨fun h => ⟨fun q => absurd q hle, fun _ => ⟨v6, v6, v9, v6, g1 h⟩⟩, g2⟩
theorem record_spec {S : St} (hS : S.netOk) {a sl : Nat} {p : List Nat} {A : Acc} {M : IM} (hsl : sl < 9) (hN : mNet S M) (hp : wOk S p) (hpl : ∀ l ∈ p, l < S.nl) (hA : ∀ j, j < A.2 → wOk S (A.1 j)) (h27 : A.2 < 27) (hW : WaysM S a sl A M) (hv : ∀ j, j < p.length → M 123 j = nI (p.getD j 0)) :
    jX12_recordK M (nI sl) (nI p.length) (nI (nodesOf S a p)) ∧ WaysM S a sl (insF (ahd S) A.1 A.2 p, A.2 + 1) (jX12_record M (nI sl) (nI p.length) (nI (nodesOf S a p))) ∧ FrR sl M (jX12_record M (nI sl) (nI p.length) (nI (nodesOf S a p))) := by
  have h5 := hp.1
  obtain ⟨h1, h2⟩ := hW
  obtain ⟨f, hf, hf2⟩ : ∃ f, FU = f + (p.length + 1) ∧ 1000 < f := ⟨FU - (p.length + 1), by rw [FU_eq]; omega, by rw [FU_eq]; omega⟩
  obtain ⟨g1, g2⟩ := record_pre (nd := nI (nodesOf S a p)) hsl hN hS.2.1 h1 h5 p 0 0 0 0 f (Nat.zero_add _) hpl (fun j hj => by rw [Nat.zero_add]; exact hv j hj)
  obtain ⟨r1, r2⟩ := record_loop (W := A.1) (nd := nI (nodesOf S a p)) hp hsl rfl A.2 f M (by omega) (by omega) (fun j hj => ⟨hA j hj, fun k k1 k2 => h2 j hj k k1 k2⟩)
  rw [Nat.zero_add, Nat.zero_or] at g1 g2
  unfold jX12_recordK jX12_record
  have z : ∀ x y, jX12_recordI (nI sl) (nI p.length) (nI (nodesOf S a p)) FU 0 0 0 0 0 M x y = jX12_recordI (nI sl) (nI p.length) (nI (nodesOf S a p)) f 1 (nI (rowN p 0)) (nI (lateN S p)) (nI (setOf p)) (nI (256 * sl + A.2)) M x y := by
    intro x y
    rw [hf]
    exact congrFun (congrFun g2 x) y
  refine ⟨by rw [hf]; exact g1 r1, ⟨?_, fun j hj k k1 k2 => ?_⟩, fun k j c1 c2 => ?_⟩
  · rw [z, r2, if_pos ⟨rfl, rfl⟩, h1, nI_1]
  · have hj : j < A.2 + 1 := hj
    rw [z, r2, if_neg (by omega), if_pos ⟨k1, k2, by omega, by omega⟩, show 256 * sl + j - 256 * sl = j by omega]
  · rw [z, r2, if_neg c1, if_neg (by omega)]
/-! one turn of gather -/
section G
variable {S : St} {M : IM} {sl a b d x seen l : Nat}
theorem g_pop (hS : S.netOk) (hN : mNet S M) (hd : d < 6) (hat : M 121 d = nI x) (hnx : M 122 d = nI S.nl) (n : Nat) (v : Int32) : (jX12_gatherO (nI sl) (nI a) (nI b) n (nI d + (-1)) (v &&& (((1 : Int32) <<< (nI x &&& 31)) ^^^ (-1))) M → jX12_gatherO (nI sl) (nI a) (nI b) (n + 1) (nI d) v M) ∧ jX12_gatherI (nI sl) (nI a) (nI b) (n + 1) (nI d) v M = jX12_gatherI (nI sl) (nI a) (nI b) n (nI d + (-1)) (v &&& (((1 : Int32) <<< (nI x &&& 31)) ^^^ (-1))) M := by
  have h0 : ¬ nI d < 0 := nI_pos (by omega)
  have v6 : vp_in (nI d) 6 := (vp_nI (by omega)).mpr hd
  rw [jX12_gatherO_29, jX12_gatherI_29, nI_clamp (show d < 2 ^ 31 by omega), hat, hnx, hN.2.1, if_neg h0, if_pos rfl]
  exact ⟨fun h => ⟨fun q => absurd q h0, fun _ => ⟨v6, fun q => absurd rfl q, fun _ => ⟨v6, h⟩⟩⟩, rfl⟩
theorem g_skip (hS : S.netOk) (hN : mNet S M) (hd : d < 6) (hx : x < 6) (hse : seen < 64) (hl : l < S.nl) (hat : M 121 d = nI x) (hnx : M 122 d = nI l) (ho : ∀ y, S.oth l x = some y → seen.testBit y = true) (n : Nat) : (jX12_gatherO (nI sl) (nI a) (nI b) n (nI d) (nI seen) (up2 M 122 d (nI (l + 1))) → jX12_gatherO (nI sl) (nI a) (nI b) (n + 1) (nI d) (nI seen) M) ∧ jX12_gatherI (nI sl) (nI a) (nI b) (n + 1) (nI d) (nI seen) M = jX12_gatherI (nI sl) (nI a) (nI b) n (nI d) (nI seen) (up2 M 122 d (nI (l + 1))) := by
  have h6 := hS.1
  have h9 := hS.2.1
  obtain ⟨n1, n2, -⟩ := hS.2.2.2.2 l hl
  have h0 : ¬ nI d < 0 := nI_pos (by omega)
  have v6 : vp_in (nI d) 6 := (vp_nI (by omega)).mpr hd
  have v9 : vp_in (nI l) 9 := (vp_nI (by omega)).mpr (by omega)
  have hne : ¬ nI l = nI S.nl := fun q => absurd ((nI_eq (by omega) (by omega)).mp q) (by omega)
  obtain ⟨e1, e2, -⟩ := hN.2.2.2.1 l (by omega)
  have p1 : ¬ nI (S.ea l) < 0 := nI_pos (by omega)
  have p2 : ¬ nI (S.eb l) < 0 := nI_pos (by omega)
  rw [jX12_gatherO_29, jX12_gatherI_29, nI_clamp (show d < 2 ^ 31 by omega), hat, hnx, hN.2.1, nI_clamp (show l < 2 ^ 31 by omega), e1, e2, if_neg h0, if_neg hne, nI_1]
  unfold St.oth at ho
  by_cases c1 : x = S.ea l
  · rw [if_pos c1] at ho
    have hb := ho _ rfl
    have hhs : hs (nI seen) (nI (S.eb l)) := (hs_nI (by omega) (by omega)).mpr hb
    rw [if_pos (congrArg nI c1.symm), if_neg p2, if_pos hhs]
    exact ⟨fun h => ⟨fun q => absurd q h0, fun _ => ⟨v6, fun _ => ⟨v6, v6, v9, v6, fun q => absurd (congrArg nI c1.symm) q, fun _ => ⟨v9, fun q => absurd q p2, fun _ => ⟨fun q => absurd hhs q, fun _ => h⟩⟩⟩, fun q => absurd q hne⟩⟩, rfl⟩
  · rw [if_neg c1] at ho
    have c1' : ¬ nI (S.ea l) = nI x := fun q => c1 ((nI_eq (by omega) (by omega)).mp q).symm
    rw [if_neg c1']
    by_cases c2 : x = S.eb l
    · rw [if_pos c2] at ho
      have hb := ho _ rfl
      have hhs : hs (nI seen) (nI (S.ea l)) := (hs_nI (by omega) (by omega)).mpr hb
      rw [if_pos (congrArg nI c2.symm), if_neg p1, if_pos hhs]
      exact ⟨fun h => ⟨fun q => absurd q h0, fun _ => ⟨v6, fun _ => ⟨v6, v6, v9, v6, fun _ => ⟨v9, v6, fun q => absurd (congrArg nI c2.symm) q, fun _ => ⟨v9, fun q => absurd q p1, fun _ => ⟨fun q => absurd hhs q, fun _ => h⟩⟩⟩, fun q => absurd q c1'⟩, fun q => absurd q hne⟩⟩, rfl⟩
    · have c2' : ¬ nI (S.eb l) = nI x := fun q => c2 ((nI_eq (by omega) (by omega)).mp q).symm
      rw [if_neg c2']
      exact ⟨fun h => ⟨fun q => absurd q h0, fun _ => ⟨v6, fun _ => ⟨v6, v6, v9, v6, fun _ => ⟨v9, v6, fun _ => h, fun q => absurd q c2'⟩, fun q => absurd q c1'⟩, fun q => absurd q hne⟩⟩, rfl⟩
theorem g_go {y : Nat} (hS : S.netOk) (hN : mNet S M) (hd : d < 6) (hx : x < 6) (hse : seen < 64) (hb : b < 6) (hl : l < S.nl) (hat : M 121 d = nI x) (hnx : M 122 d = nI l) (ho : S.oth l x = some y) (hy : seen.testBit y = false) (n : Nat) :
    (y = b → (jX12_recordK (up2 (up2 M 122 d (nI (l + 1))) 123 d (nI l)) (nI sl) (nI (d + 1)) (nI (seen ||| 2 ^ b)) → jX12_gatherO (nI sl) (nI a) (nI b) n (nI d) (nI seen) (jX12_record (up2 (up2 M 122 d (nI (l + 1))) 123 d (nI l)) (nI sl) (nI (d + 1)) (nI (seen ||| 2 ^ b))) → jX12_gatherO (nI sl) (nI a) (nI b) (n + 1) (nI d) (nI seen) M) ∧ jX12_gatherI (nI sl) (nI a) (nI b) (n + 1) (nI d) (nI seen) M = jX12_gatherI (nI sl) (nI a) (nI b) n (nI d) (nI seen) (jX12_record (up2 (up2 M 122 d (nI (l + 1))) 123 d (nI l)) (nI sl) (nI (d + 1)) (nI (seen ||| 2 ^ b)))) ∧
    (y ≠ b → d + 1 < 6 → (jX12_gatherO (nI sl) (nI a) (nI b) n (nI (d + 1)) (nI (seen ||| 2 ^ y)) (up2 (up2 (up2 (up2 M 122 d (nI (l + 1))) 123 d (nI l)) 121 (d + 1) (nI y)) 122 (d + 1) 0) → jX12_gatherO (nI sl) (nI a) (nI b) (n + 1) (nI d) (nI seen) M) ∧ jX12_gatherI (nI sl) (nI a) (nI b) (n + 1) (nI d) (nI seen) M = jX12_gatherI (nI sl) (nI a) (nI b) n (nI (d + 1)) (nI (seen ||| 2 ^ y)) (up2 (up2 (up2 (up2 M 122 d (nI (l + 1))) 123 d (nI l)) 121 (d + 1) (nI y)) 122 (d + 1) 0)) := by
  have h6 := hS.1
  have h9 := hS.2.1
  obtain ⟨n1, n2, -⟩ := hS.2.2.2.2 l hl
  have h0 : ¬ nI d < 0 := nI_pos (by omega)
  have v6 : vp_in (nI d) 6 := (vp_nI (by omega)).mpr hd
  have v9 : vp_in (nI l) 9 := (vp_nI (by omega)).mpr (by omega)
  have hne : ¬ nI l = nI S.nl := fun q => absurd ((nI_eq (by omega) (by omega)).mp q) (by omega)
  obtain ⟨e1, e2, -⟩ := hN.2.2.2.1 l (by omega)
  have p1 : ¬ nI (S.ea l) < 0 := nI_pos (by omega)
  have p2 : ¬ nI (S.eb l) < 0 := nI_pos (by omega)
  rw [jX12_gatherO_29, jX12_gatherI_29, nI_clamp (show d < 2 ^ 31 by omega), hat, hnx, hN.2.1, nI_clamp (show l < 2 ^ 31 by omega), e1, e2, if_neg h0, if_neg hne, nI_1, nI_1, nI_clamp (show d + 1 < 2 ^ 31 by omega), one_nI (show b < 32 by omega), or_nI]
  unfold St.oth at ho
  by_cases c1 : x = S.ea l
  · rw [if_pos c1] at ho
    cases ho
    have hhs : ¬ hs (nI seen) (nI (S.eb l)) := fun q => by rw [(hs_nI (by omega) (by omega)).mp q] at hy; cases hy
    rw [if_pos (congrArg nI c1.symm), if_neg p2, if_neg hhs, one_nI (show S.eb l < 32 by omega), or_nI]
    refine ⟨fun hyb => ?_, fun hyb hd1 => ?_⟩
    · have hyb' : nI (S.eb l) = nI b := congrArg nI hyb
      rw [if_pos hyb']
      exact ⟨fun k1 h => ⟨fun q => absurd q h0, fun _ => ⟨v6, fun _ => ⟨v6, v6, v9, v6, fun q => absurd (congrArg nI c1.symm) q, fun _ => ⟨v9, fun q => absurd q p2, fun _ => ⟨fun _ => ⟨v6, fun q => absurd hyb' q, fun _ => ⟨k1, h⟩⟩, fun q => absurd q hhs⟩⟩⟩, fun q => absurd q hne⟩⟩, rfl⟩
    · have hyb' : ¬ nI (S.eb l) = nI b := fun q => hyb ((nI_eq (by omega) (by omega)).mp q)
      have v61 : vp_in (nI (d + 1)) 6 := (vp_nI (by omega)).mpr hd1
      rw [if_neg hyb']
      exact ⟨fun h => ⟨fun q => absurd q h0, fun _ => ⟨v6, fun _ => ⟨v6, v6, v9, v6, fun q => absurd (congrArg nI c1.symm) q, fun _ => ⟨v9, fun q => absurd q p2, fun _ => ⟨fun _ => ⟨v6, fun _ => ⟨v61, v61, h⟩, fun q => absurd q hyb'⟩, fun q => absurd q hhs⟩⟩⟩, fun q => absurd q hne⟩⟩, rfl⟩
  · rw [if_neg c1] at ho
    have c1' : ¬ nI (S.ea l) = nI x := fun q => c1 ((nI_eq (by omega) (by omega)).mp q).symm
    rw [if_neg c1']
    by_cases c2 : x = S.eb l
    · rw [if_pos c2] at ho
      cases ho
      have hhs : ¬ hs (nI seen) (nI (S.ea l)) := fun q => by rw [(hs_nI (by omega) (by omega)).mp q] at hy; cases hy
      rw [if_pos (congrArg nI c2.symm), if_neg p1, if_neg hhs, one_nI (show S.ea l < 32 by omega), or_nI]
      refine ⟨fun hyb => ?_, fun hyb hd1 => ?_⟩
      · have hyb' : nI (S.ea l) = nI b := congrArg nI hyb
        rw [if_pos hyb']
        exact ⟨fun k1 h => ⟨fun q => absurd q h0, fun _ => ⟨v6, fun _ => ⟨v6, v6, v9, v6, fun _ => ⟨v9, v6, fun q => absurd (congrArg nI c2.symm) q, fun _ => ⟨v9, fun q => absurd q p1, fun _ => ⟨fun _ => ⟨v6, fun q => absurd hyb' q, fun _ => ⟨k1, h⟩⟩, fun q => absurd q hhs⟩⟩⟩, fun q => absurd q c1'⟩, fun q => absurd q hne⟩⟩, rfl⟩
      · have hyb' : ¬ nI (S.ea l) = nI b := fun q => hyb ((nI_eq (by omega) (by omega)).mp q)
        have v61 : vp_in (nI (d + 1)) 6 := (vp_nI (by omega)).mpr hd1
        rw [if_neg hyb']
        exact ⟨fun h => ⟨fun q => absurd q h0, fun _ => ⟨v6, fun _ => ⟨v6, v6, v9, v6, fun _ => ⟨v9, v6, fun q => absurd (congrArg nI c2.symm) q, fun _ => ⟨v9, fun q => absurd q p1, fun _ => ⟨fun _ => ⟨v6, fun _ => ⟨v61, v61, h⟩, fun q => absurd q hyb'⟩, fun q => absurd q hhs⟩⟩⟩, fun q => absurd q c1'⟩, fun q => absurd q hne⟩⟩, rfl⟩
    · rw [if_neg c2] at ho; cases ho
end G
/-- turns that gather may take for a NODE with k to go -/
def gc : Nat → Nat
  | 0 => 0
  | k + 1 => 9 * (1 + gc k) + 1
/-- what gather may write below depth d -/
def FrG (sl d : Nat) (M M' : IM) : Prop := ∀ k j, ¬ (k = 115 ∧ j = sl) → ¬ (116 ≤ k ∧ k ≤ 120 ∧ 256 * sl ≤ j ∧ j < 256 * sl + 256) → ¬ ((k = 121 ∨ k = 123) ∧ d ≤ j) → ¬ (k = 122 ∧ d ≤ j) → M' k j = M k j
theorem FrG.trans {sl d : Nat} {A B C : IM} (h : FrG sl d A B) (h2 : FrG sl d B C) : FrG sl d A C := fun k j a b c e => (h2 k j a b c e).trans (h k j a b c e)
theorem FrG.refl (sl d : Nat) (A : IM) : FrG sl d A A := fun _ _ _ _ _ _ => rfl
theorem mNet.frg {S : St} {M M' : IM} {sl d : Nat} (h : mNet S M) (f : FrG sl d M M') : mNet S M' := by
  obtain ⟨h1, h2, h3, h4, h5⟩ := h
  refine ⟨by rw [f _ _ (by omega) (by omega) (by omega) (by omega)]; exact h1, by rw [f _ _ (by omega) (by omega) (by omega) (by omega)]; exact h2, fun a ha => by rw [f _ _ (by omega) (by omega) (by omega) (by omega)]; exact h3 a ha, fun l hl => ?_, fun l hl => by rw [f _ _ (by omega) (by omega) (by omega) (by omega)]; exact h5 l hl⟩
  rw [f _ _ (by omega) (by omega) (by omega) (by omega), f _ _ (by omega) (by omega) (by omega) (by omega), f _ _ (by omega) (by omega) (by omega) (by omega), f _ _ (by omega) (by omega) (by omega) (by omega), f _ _ (by omega) (by omega) (by omega) (by omega)]
  exact h4 l hl
theorem lpA_mono {S : St} {x seen b k : Nat} {p : List Nat} {A : Acc} (l : Nat) : ∀ d, (lpA S x seen p (dfs S b k) A l).2 ≤ (lpA S x seen p (dfs S b k) A (l + d)).2
  | 0 => Nat.le_refl _
  | d + 1 => by
    refine Nat.le_trans (lpA_mono l d) ?_
    show _ ≤ (lpA S x seen p (dfs S b k) A ((l + d) + 1)).2
    rw [lpA]
    split
    · exact Nat.le_refl _
    · split
      · exact Nat.le_refl _
      · rw [dfs_cnt]; omega
theorem getD_app_lt {p : List Nat} {l j : Nat} (h : j < p.length) : (p ++ [l]).getD j 0 = p.getD j 0 := by
  simp [List.getD_eq_getElem?_getD, List.getElem?_append_left h]
theorem getD_app_eq {p : List Nat} {l : Nat} : (p ++ [l]).getD p.length 0 = l := by
  simp [List.getD_eq_getElem?_getD]
theorem gather_go {S : St} (hS : S.netOk) {a b sl : Nat} (ha : a < S.nn) (hb : b < S.nn) (hsl : sl < 9) : ∀ (k x seen : Nat) (p : List Nat), Pre S a b x seen p → x ≠ b → p.length + (k + 1) = 6 → ∀ (A : Acc) (m l : Nat) (M : IM), m + l = S.nl → mNet S M → M 121 p.length = nI x → M 122 p.length = nI l → (∀ j, j < p.length → M 123 j = nI (p.getD j 0)) → WaysM S a sl (lpA S x seen p (dfs S b k) A l) M → (∀ j, j < (lpA S x seen p (dfs S b k) A l).2 → wOk S ((lpA S x seen p (dfs S b k) A l).1 j)) → (lpA S x seen p (dfs S b k) A S.nl).2 ≤ 27 →
    ∃ (n : Nat) (M' : IM), n ≤ m * (1 + gc k) + 1 ∧ FrG sl p.length M M' ∧ M' 121 p.length = nI x ∧ WaysM S a sl (lpA S x seen p (dfs S b k) A S.nl) M' ∧ (∀ j, j < (lpA S x seen p (dfs S b k) A S.nl).2 → wOk S ((lpA S x seen p (dfs S b k) A S.nl).1 j)) ∧
      ∀ f, (jX12_gatherO (nI sl) (nI a) (nI b) f (nI p.length + (-1)) (nI seen &&& (((1 : Int32) <<< (nI x &&& 31)) ^^^ (-1))) M' → jX12_gatherO (nI sl) (nI a) (nI b) (n + f) (nI p.length) (nI seen) M) ∧ jX12_gatherI (nI sl) (nI a) (nI b) (n + f) (nI p.length) (nI seen) M = jX12_gatherI (nI sl) (nI a) (nI b) f (nI p.length + (-1)) (nI seen &&& (((1 : Int32) <<< (nI x &&& 31)) ^^^ (-1))) M' := by
  have h6 := hS.1
  have h9 := hS.2.1
  intro k
  induction k with
  | zero =>
    intro x seen p hP hxb hk A m
    obtain ⟨q1, q2, q3, q4⟩ := hP.pop hS ha
    have hstop : ∀ n, n ≤ S.nl → lpA S x seen p (dfs S b 0) A n = A := hP.stop hS ha (by omega) _ _
    induction m with
    | zero =>
      intro l M hm hN hat hnx hpa hW hA hc
      obtain rfl : l = S.nl := by omega
      refine ⟨1, M, by omega, FrG.refl _ _ _, hat, hW, hA, fun f => ?_⟩
      rw [Nat.add_comm 1 f]
      exact g_pop hS hN (by omega) hat hnx f _
    | succ m ih =>
      intro l M hm hN hat hnx hpa hW hA hc
      have hsk := g_skip (sl := sl) (a := a) (b := b) hS hN (d := p.length) (x := x) (seen := seen) (l := l) (by omega) (by omega) q3 (by omega) hat hnx (fun y hy => pop6_full (by omega) (by have := (oth_lt hS (by omega) hy).1; omega))
      have hF : FrG sl p.length M (up2 M 122 p.length (nI (l + 1))) := fun k j _ _ _ h => by rw [up2_ap, if_neg (by omega)]
      have hW' : WaysM S a sl (lpA S x seen p (dfs S b 0) A (l + 1)) (up2 M 122 p.length (nI (l + 1))) := by
        rw [hstop _ (by omega)]
        rw [hstop _ (by omega)] at hW
        exact ⟨by rw [up2_o _ _ _ _ (by omega)]; exact hW.1, fun j hj k k1 k2 => by rw [up2_o _ _ _ _ (by omega)]; exact hW.2 j hj k k1 k2⟩
      obtain ⟨n, M', n1, n2, n3, n4, n5, n6⟩ := ih (l + 1) (up2 M 122 p.length (nI (l + 1))) (by omega) (hN.frg hF) (by rw [up2_o _ _ _ _ (by omega)]; exact hat) (up2_at _ _ _ _) (fun j hj => by rw [up2_o _ _ _ _ (by omega)]; exact hpa j hj) hW' (by rw [hstop _ (by omega)]; rw [hstop _ (by omega)] at hA; exact hA) hc
      refine ⟨n + 1, M', ?_, hF.trans n2, n3, n4, n5, fun f => ?_⟩
      · rw [Nat.add_mul]; omega
      · rw [show n + 1 + f = (n + f) + 1 by omega]
        obtain ⟨s1, s2⟩ := hsk (n + f)
        obtain ⟨t1, t2⟩ := n6 f
        exact ⟨fun h => s1 (t1 h), s2.trans t2⟩
  | succ k ihk =>
    intro x seen p hP hxb hk A m
    obtain ⟨q1, q2, q3, q4⟩ := hP.pop hS ha
    induction m with
    | zero =>
      intro l M hm hN hat hnx hpa hW hA hc
      obtain rfl : l = S.nl := by omega
      refine ⟨1, M, by omega, FrG.refl _ _ _, hat, hW, hA, fun f => ?_⟩
      rw [Nat.add_comm 1 f]
      exact g_pop hS hN (by omega) hat hnx f _
    | succ m ih =>
      intro l M hm hN hat hnx hpa hW hA hc
      have hll : l < S.nl := by omega
      have hF1 : FrG sl p.length M (up2 M 122 p.length (nI (l + 1))) := fun k j _ _ _ h => by rw [up2_ap, if_neg (by omega)]
      have skip : lpA S x seen p (dfs S b (k + 1)) A (l + 1) = lpA S x seen p (dfs S b (k + 1)) A l → (∀ y, S.oth l x = some y → seen.testBit y = true) → ∃ (n : Nat) (M' : IM), n ≤ (m + 1) * (1 + gc (k + 1)) + 1 ∧ FrG sl p.length M M' ∧ M' 121 p.length = nI x ∧ WaysM S a sl (lpA S x seen p (dfs S b (k + 1)) A S.nl) M' ∧ (∀ j, j < (lpA S x seen p (dfs S b (k + 1)) A S.nl).2 → wOk S ((lpA S x seen p (dfs S b (k + 1)) A S.nl).1 j)) ∧
          ∀ f, (jX12_gatherO (nI sl) (nI a) (nI b) f (nI p.length + (-1)) (nI seen &&& (((1 : Int32) <<< (nI x &&& 31)) ^^^ (-1))) M' → jX12_gatherO (nI sl) (nI a) (nI b) (n + f) (nI p.length) (nI seen) M) ∧ jX12_gatherI (nI sl) (nI a) (nI b) (n + f) (nI p.length) (nI seen) M = jX12_gatherI (nI sl) (nI a) (nI b) f (nI p.length + (-1)) (nI seen &&& (((1 : Int32) <<< (nI x &&& 31)) ^^^ (-1))) M' := by
        intro hs1 hall
        have hsk := g_skip (sl := sl) (a := a) (b := b) hS hN (d := p.length) (x := x) (seen := seen) (l := l) (by omega) (by omega) q3 hll hat hnx hall
        have hW' : WaysM S a sl (lpA S x seen p (dfs S b (k + 1)) A (l + 1)) (up2 M 122 p.length (nI (l + 1))) := by
          rw [hs1]
          exact ⟨by rw [up2_o _ _ _ _ (by omega)]; exact hW.1, fun j hj k k1 k2 => by rw [up2_o _ _ _ _ (by omega)]; exact hW.2 j hj k k1 k2⟩
        obtain ⟨n, M', n1, n2, n3, n4, n5, n6⟩ := ih (l + 1) (up2 M 122 p.length (nI (l + 1))) (by omega) (hN.frg hF1) (by rw [up2_o _ _ _ _ (by omega)]; exact hat) (up2_at _ _ _ _) (fun j hj => by rw [up2_o _ _ _ _ (by omega)]; exact hpa j hj) hW' (by rw [hs1]; exact hA) hc
        refine ⟨n + 1, M', ?_, hF1.trans n2, n3, n4, n5, fun f => ?_⟩
        · rw [Nat.add_mul]; omega
        · rw [show n + 1 + f = (n + f) + 1 by omega]
          obtain ⟨s1, s2⟩ := hsk (n + f)
          obtain ⟨t1, t2⟩ := n6 f
          exact ⟨fun h => s1 (t1 h), s2.trans t2⟩
      cases e : S.oth l x with
      | none => exact skip (by rw [lpA, e]) (fun y hy => by rw [e] at hy; cases hy)
      | some y =>
        by_cases hsy : seen.testBit y = true
        · exact skip (by rw [lpA, e]; dsimp only; rw [if_pos hsy]) (fun y' hy => by rw [e] at hy; cases hy; exact hsy)
        · have hsy' := Bool.eq_false_iff.mpr hsy
          have hy := (oth_lt hS hll e).1
          have hP' := hP.snoc hxb hll e hsy'
          have hlen' : (p ++ [l]).length = p.length + 1 := by rw [List.length_append]; rfl
          have hs1 : lpA S x seen p (dfs S b (k + 1)) A (l + 1) = dfs S b (k + 1) y (seen ||| 2 ^ y) (p ++ [l]) (lpA S x seen p (dfs S b (k + 1)) A l) := by
            rw [lpA, e]; dsimp only; rw [if_neg hsy]
          have hcl : (lpA S x seen p (dfs S b (k + 1)) A (l + 1)).2 ≤ 27 := by
            have := lpA_mono (S := S) (x := x) (seen := seen) (b := b) (k := k + 1) (p := p) (A := A) (l + 1) (S.nl - (l + 1))
            rw [show l + 1 + (S.nl - (l + 1)) = S.nl by omega] at this
            omega
          obtain ⟨gr, gd⟩ := (fun n => g_go (sl := sl) (a := a) (b := b) hS hN (d := p.length) (by omega) (by omega) q3 (by omega) hll hat hnx e hsy' n : ∀ n, _ ∧ _) |> fun h => (⟨fun n => (h n).1, fun n => (h n).2⟩ : (∀ n, _) ∧ (∀ n, _))
          have hpa' : ∀ j, j < (p ++ [l]).length → up2 (up2 M 122 p.length (nI (l + 1))) 123 p.length (nI l) 123 j = nI ((p ++ [l]).getD j 0) := by
            intro j hj
            rw [up2_ap]
            by_cases c : j = p.length
            · rw [if_pos ⟨rfl, c⟩, c, getD_app_eq]
            · rw [if_neg (by omega), up2_o _ _ _ _ (by omega), getD_app_lt (by omega)]
              exact hpa j (by omega)
          have hF2 : FrG sl p.length M (up2 (up2 M 122 p.length (nI (l + 1))) 123 p.length (nI l)) := fun k j _ _ h1 h2 => by rw [up2_ap, if_neg (by omega), up2_ap, if_neg (by omega)]
          have hW2 : WaysM S a sl (lpA S x seen p (dfs S b (k + 1)) A l) (up2 (up2 M 122 p.length (nI (l + 1))) 123 p.length (nI l)) := ⟨by rw [up2_o _ _ _ _ (by omega), up2_o _ _ _ _ (by omega)]; exact hW.1, fun j hj k k1 k2 => by rw [up2_o _ _ _ _ (by omega), up2_o _ _ _ _ (by omega)]; exact hW.2 j hj k k1 k2⟩
          by_cases hyb : y = b
          · subst hyb
            have hd1 : dfs S y (k + 1) y (seen ||| 2 ^ y) (p ++ [l]) (lpA S x seen p (dfs S y (k + 1)) A l) = (insF (ahd S) (lpA S x seen p (dfs S y (k + 1)) A l).1 (lpA S x seen p (dfs S y (k + 1)) A l).2 (p ++ [l]), (lpA S x seen p (dfs S y (k + 1)) A l).2 + 1) := by
              rw [dfs, if_pos rfl]
            rw [hd1] at hs1
            have hwo := hP'.wOk hS ha
            obtain ⟨r1, r2, r3⟩ := record_spec hS hsl (hN.frg hF2) hwo (hP'.pop hS ha).2.2.2 hA (by rw [hs1] at hcl; dsimp only at hcl; omega) hW2 hpa'
            rw [hP'.seen, hlen'] at r1 r2 r3
            have hF3 : FrG sl p.length M (jX12_record (up2 (up2 M 122 p.length (nI (l + 1))) 123 p.length (nI l)) (nI sl) (nI (p.length + 1)) (nI (seen ||| 2 ^ y))) := fun k j c1 c2 c3 c4 => by rw [r3 k j c1 c2, hF2 k j c1 c2 c3 c4]
            obtain ⟨n, M', n1, n2, n3, n4, n5, n6⟩ := ih (l + 1) _ (by omega) (hN.frg hF3) (by rw [r3 _ _ (by omega) (by omega), up2_o _ _ _ _ (by omega), up2_o _ _ _ _ (by omega)]; exact hat) (by rw [r3 _ _ (by omega) (by omega), up2_o _ _ _ _ (by omega)]; exact up2_at _ _ _ _) (fun j hj => by rw [r3 _ _ (by omega) (by omega), up2_sj _ _ _ (by omega), up2_o _ _ _ _ (by omega)]; exact hpa j hj) (by rw [hs1]; exact r2) (by rw [hs1]; exact insF_all (Q := wOk S) hwo _ hA) hc
            refine ⟨n + 1, M', ?_, hF3.trans n2, n3, n4, n5, fun f => ?_⟩
            · rw [Nat.add_mul]; omega
            · rw [show n + 1 + f = (n + f) + 1 by omega]
              obtain ⟨s1, s2⟩ := gr (n + f) rfl
              obtain ⟨t1, t2⟩ := n6 f
              exact ⟨fun h => s1 r1 (t1 h), s2.trans t2⟩
          · have hlen5 := hP'.len hS ha
            have hd1 : dfs S b (k + 1) y (seen ||| 2 ^ y) (p ++ [l]) (lpA S x seen p (dfs S b (k + 1)) A l) = lpA S y (seen ||| 2 ^ y) (p ++ [l]) (dfs S b k) (lpA S x seen p (dfs S b (k + 1)) A l) S.nl := by
              rw [dfs, if_neg hyb]
            rw [hd1] at hs1
            have hM4 : ∀ k j, (up2 (up2 (up2 (up2 M 122 p.length (nI (l + 1))) 123 p.length (nI l)) 121 (p.length + 1) (nI y)) 122 (p.length + 1) 0) k j = if k = 122 ∧ j = p.length + 1 then 0 else if k = 121 ∧ j = p.length + 1 then nI y else up2 (up2 M 122 p.length (nI (l + 1))) 123 p.length (nI l) k j := fun k j => by rw [up2_ap, up2_ap]
            have hF4 : FrG sl p.length M (up2 (up2 (up2 (up2 M 122 p.length (nI (l + 1))) 123 p.length (nI l)) 121 (p.length + 1) (nI y)) 122 (p.length + 1) 0) := fun k j c1 c2 c3 c4 => by rw [hM4, if_neg (by omega), if_neg (by omega)]; exact hF2 k j c1 c2 c3 c4
            obtain ⟨n, M', n1, n2, n3, n4, n5, n6⟩ := ihk y (seen ||| 2 ^ y) (p ++ [l]) hP' hyb (by omega) (lpA S x seen p (dfs S b (k + 1)) A l) S.nl 0 _ (by omega) (hN.frg hF4) (by rw [hlen', hM4, if_neg (by omega), if_pos ⟨rfl, rfl⟩]) (by rw [hlen', hM4, if_pos ⟨rfl, rfl⟩]; rfl) (fun j hj => by rw [hM4, if_neg (by omega), if_neg (by omega)]; exact hpa' j hj) ⟨by rw [hM4, if_neg (by omega), if_neg (by omega)]; exact hW2.1, fun j hj k k1 k2 => by rw [hM4, if_neg (by omega), if_neg (by omega)]; exact hW2.2 j hj k k1 k2⟩ hA (by rw [← hs1]; exact hcl)
            rw [hlen'] at n2 n3 n6
            have hF5 : FrG sl p.length M M' := fun k j c1 c2 c3 c4 => (n2 k j c1 c2 (by omega) (by omega)).trans (hF4 k j c1 c2 c3 c4)
            have hclr : nI (seen ||| 2 ^ y) &&& (((1 : Int32) <<< (nI y &&& 31)) ^^^ (-1)) = nI seen := by
              obtain ⟨z, z1, z2, z3⟩ := clr_nI (n := seen ||| 2 ^ y) (k := y) (by omega) (by have := (hP'.pop hS ha).2.2.1; omega)
              rw [z2]
              congr 1
              apply set_eq
              intro j
              rw [z3, Nat.testBit_or, pow_bit]
              by_cases c : y = j
              · subst c; simp [hsy']
              · have c' : ¬ j = y := fun q => c q.symm
                simp [c, c']
            rw [hclr, pk_m1] at n6
            obtain ⟨n', M'', u1, u2, u3, u4, u5, u6⟩ := ih (l + 1) M' (by omega) (hN.frg hF5) (by rw [n2 _ _ (by omega) (by omega) (by omega) (by omega), hM4, if_neg (by omega), if_neg (by omega), up2_o _ _ _ _ (by omega), up2_o _ _ _ _ (by omega)]; exact hat) (by rw [n2 _ _ (by omega) (by omega) (by omega) (by omega), hM4, if_neg (by omega), if_neg (by omega), up2_o _ _ _ _ (by omega)]; exact up2_at _ _ _ _) (fun j hj => by rw [n2 _ _ (by omega) (by omega) (by omega) (by omega), hM4, if_neg (by omega), if_neg (by omega), up2_sj _ _ _ (by omega), up2_o _ _ _ _ (by omega)]; exact hpa j hj) (by rw [hs1]; exact n4) (by rw [hs1]; exact n5) hc
            refine ⟨n' + n + 1, M'', ?_, hF5.trans u2, u3, u4, u5, fun f => ?_⟩
            · have : n ≤ gc (k + 1) := by
                show n ≤ 9 * (1 + gc k) + 1
                refine Nat.le_trans n1 (Nat.add_le_add_right (Nat.mul_le_mul_right _ h9) 1)
              rw [Nat.add_mul]; omega
            · rw [show n' + n + 1 + f = (n + (n' + f)) + 1 by omega]
              obtain ⟨s1, s2⟩ := gd (n + (n' + f)) hyb (by omega)
              obtain ⟨t1, t2⟩ := n6 (n' + f)
              obtain ⟨w1, w2⟩ := u6 f
              exact ⟨fun h => s1 (t1 (w1 h)), s2.trans (t2.trans w2)⟩
/-- gather, whole -/
theorem gather_spec {S : St} (hS : S.netOk) {a b sl : Nat} (ha : a < S.nn) (hb : b < S.nn) (hab : a ≠ b) (hsl : sl < 9) {M : IM} (hN : mNet S M) : jX12_gatherK M (nI sl) (nI a) (nI b) ∧ WaysM S a sl (S.wayA a b) (jX12_gather M (nI sl) (nI a) (nI b)) ∧ FrG sl 0 M (jX12_gather M (nI sl) (nI a) (nI b)) := by
  have h6 := hS.1
  have h9 := hS.2.1
  have v9 : vp_in (nI sl) 9 := (vp_nI (by omega)).mpr hsl
  have v6 : vp_in 0 6 := (vp_nI (n := 0) (by omega)).mpr (by omega)
  have z0 : (0 : Int32).toNatClampNeg = 0 := by decide
  have hF : FrG sl 0 M (up2 (up2 (up2 M 115 sl 0) 121 0 (nI a)) 122 0 0) := fun k j c1 c2 c3 c4 => by rw [up2_ap, if_neg (by omega), up2_ap, if_neg (by omega), up2_ap, if_neg (by omega)]
  have hd : S.wayA a b = lpA S a (2 ^ a) [] (dfs S b 5) (fun _ => [], 0) S.nl := by
    unfold St.wayA
    rw [dfs, if_neg hab]
  obtain ⟨n, M', n1, n2, n3, n4, n5, n6⟩ := gather_go hS (sl := sl) ha hb hsl 5 a (2 ^ a) [] .nil hab rfl (fun _ => [], 0) S.nl 0 (up2 (up2 (up2 M 115 sl 0) 121 0 (nI a)) 122 0 0) (by omega) (hN.frg hF) (by show up2 _ _ _ _ 121 0 = _; simp (disch := omega) only [up2_o, up2_at]) (up2_at _ _ _ _) (fun j hj => absurd hj (Nat.not_lt_zero _)) ⟨by simp (disch := omega) only [up2_o, up2_at]; rfl, fun j hj => absurd hj (Nat.not_lt_zero _)⟩ (fun j hj => absurd hj (Nat.not_lt_zero _)) (by rw [← hd]; exact wayA_27 hS a b)
  have hn : n + 1 ≤ FU := by
    rw [FU_eq]
    have : S.nl * (1 + gc 5) ≤ 9 * (1 + gc 5) := Nat.mul_le_mul_right _ h9
    have e : 9 * (1 + gc 5) = 664299 := by decide
    omega
  obtain ⟨f, hf⟩ : ∃ f, FU = n + (f + 1) := ⟨FU - n - 1, by omega⟩
  obtain ⟨g1, g2⟩ := n6 (f + 1)
  have hneg : (nI ([] : List Nat).length + (-1) : Int32) < 0 := by decide
  rw [jX12_gatherO_29] at g1
  rw [jX12_gatherI_29, if_pos hneg] at g2
  unfold jX12_gatherK jX12_gather
  rw [z0, nI_clamp (show sl < 2 ^ 31 by omega), one_nI (show a < 32 by omega), hf, hd]
  have g2' : jX12_gatherI (nI sl) (nI a) (nI b) (n + (f + 1)) 0 (nI (2 ^ a)) (up2 (up2 (up2 M 115 sl 0) 121 0 (nI a)) 122 0 0) = M' := g2
  rw [g2']
  exact ⟨⟨v9, v6, v6, g1 ⟨fun _ => trivial, fun q => absurd hneg q⟩⟩, n4, hF.trans n2⟩
end
