noncomputable section
section TR
variable {T : Topo} {S : St} {C : IM} {s n : Nat} {P : Nat → Nat} {wh : Nat → Nat}
theorem meas_push {q q' l f : Nat} (h : 2 * (2000 - q) + l + 1 ≤ f + 1) (h1 : q < q') (h2 : q' ≤ 2000) : 2 * (2000 - q') + (l + 1) + 1 ≤ f := by omega
def reC (S : St) (C : IM) : List (Nat × List Nat) → Prop
  | [] => True
  | e :: st => (∃ k, C 65 st.length = nI k ∧ k < (S.ups e.1).length ∧ (S.ups e.1).drop (k + 1) = e.2) ∧ reC S C st
theorem reC.fr {C' : IM} : ∀ {st : List (Nat × List Nat)}, reC S C st → (∀ j, j < st.length → C' 65 j = C 65 j) → reC S C' st
  | [], _, _ => trivial
  | e :: st, ⟨⟨k, h1, h2⟩, h3⟩, f => ⟨⟨k, (f st.length (by simp)).trans h1, h2⟩, h3.fr fun j hj => f j (by simp; omega)⟩
def mlist (st : List (Nat × List Nat)) (s : Nat) (td : List Nat) : List Nat := (st.map Prod.fst).reverse ++ s :: td
theorem mlist_push (st : List (Nat × List Nat)) (s s' : Nat) (r td : List Nat) : mlist ((s, r) :: st) s' td = mlist st s (s' :: td) := by
  unfold mlist
  rw [List.map_cons, List.reverse_cons, List.append_assoc]; rfl
theorem mlist_pop (st : List (Nat × List Nat)) (s : Nat) (e : Nat × List Nat) (td : List Nat) : mlist (e :: st) s td = mlist st e.1 (s :: td) := by
  unfold mlist
  rw [List.map_cons, List.reverse_cons, List.append_assoc]; rfl
theorem mlist_len (st : List (Nat × List Nat)) (s : Nat) (td : List Nat) : (mlist st s td).length = st.length + 1 + td.length := by
  unfold mlist
  simp; omega
theorem mlist_at (st : List (Nat × List Nat)) (s : Nat) (td : List Nat) : (mlist st s td).getD st.length 0 = s := by
  unfold mlist
  rw [List.getD_eq_getElem?_getD, List.getElem?_append_right (by simp)]
  simp
theorem mlist_lo (st : List (Nat × List Nat)) (s : Nat) (td : List Nat) {i : Nat} (hi : i < st.length) : (mlist st s td).getD i 0 = (st.map Prod.fst).reverse.getD i 0 := by
  unfold mlist
  rw [List.getD_eq_getElem?_getD, List.getElem?_append_left (by simp; omega), ← List.getD_eq_getElem?_getD]
def ML (ml : List Nat) (C : IM) : Prop := C 56 10 = nI ml.length ∧ ml.length ≤ 8 ∧ ∀ i, i < ml.length → C 64 i = nI (ml.getD i 0)
def CI (T : Topo) (S : St) (n : Nat) (wh : Nat → Nat) (st : List (Nat × List Nat)) (s : Nat) (U td : List Nat) (P : Nat → Nat) (q : Nat) (C : IM) : Prop :=
  LX T S n wh C ∧ TB S P wh n C ∧ C 56 11 = nI q ∧ C 56 12 = 0 ∧ ML (mlist st s td) C ∧ (∃ k, C 65 st.length + 1 = nI k ∧ k ≤ (S.ups s).length ∧ (S.ups s).drop k = U) ∧ reC S C st ∧ (∀ j, st.length < j → j < (mlist st s td).length → C 65 j = -1) ∧ ∀ i, P i ≠ 0 → C 66 i = nI (P i)
theorem chr_nodup {set : Nat} : ∀ {b : Nat} {L : List (Nat × List Nat)}, chr set b L → (L.map Prod.fst).Nodup
  | b, [], _ => List.nodup_nil
  | b, e :: L, h => by
    rw [List.map_cons]
    refine List.nodup_cons.mpr ⟨fun q => ?_, chr_nodup h.2.2.2⟩
    obtain ⟨x, x1, x2⟩ := List.mem_map.mp q
    have := chr_lt h.2.2.2 x x1
    omega
/-- the end of it: all is taken back -/
theorem fin_C (hc : TC T S n wh) (set : Int32) {v3 : Int32} (hv : v3 = 0 ∨ v3 = 1) {sb b : Nat} {st : List (Nat × List Nat)} (hch : chr sb b st) (hl : st.length ≤ 8) (hX : LX T S n wh C) (hB : TB S P wh n C) (h64 : ∀ i, i < st.length → C 64 i = nI ((st.map Prod.fst).reverse.getD i 0)) (hb : b ≤ S.ns) (hP : ∀ i, P i ≠ 0 ↔ ∃ e, e ∈ st ∧ e.1 = i) (hu : ∀ i, P i ≠ 0 → P i ∈ S.ups i) (h66 : ∀ i, P i ≠ 0 → C 66 i = nI (P i)) :
    ∃ C' P', FrU C C' ∧ TB S P' wh n C' ∧ (∀ i, i < S.ns → P' i = 0) ∧ Ends (zF T set) (zO T set) (st.length + 1) (1, nI st.length, v3, 0, C) (v3, C') := by
  have key := undo_C hc set hv (lv := st.length) hl (st.map Prod.fst).reverse 0 P C (by simp) hX hB (fun i hi => by rw [Nat.zero_add]; exact h64 i (by simpa using hi)) (List.pairwise_reverse.mpr ((chr_nodup hch).imp fun h => h.symm)) (fun x hx => ?_) (fun i hi => ?_)
  · rw [li0]; simpa using key
  · obtain ⟨e, e1, e2⟩ := List.mem_map.mp (List.mem_reverse.mp hx)
    have p0 : P x ≠ 0 := (hP x).mpr ⟨e, e1, e2⟩
    have lt := chr_lt hch e e1
    exact ⟨by omega, p0, (List.mem_filter.mp (hu x p0)).1, h66 x p0⟩
  · obtain ⟨e, e1, e2⟩ := (hP i).mp hi
    exact List.mem_reverse.mpr (List.mem_map.mpr ⟨e, e1, e2⟩)
set_option maxHeartbeats 4000000 in
theorem laid_loop (hc : TC T S n wh) {set : Nat} (a1 : Int32) : ∀ (f : Nat) (st : List (Nat × List Nat)) (s : Nat) (U td : List Nat) (P : Nat → Nat) (q step : Nat) (C : IM), 2 * (2000 - q) + st.length + 1 ≤ f → step + f ≤ 9000 → SI S set st s U td P q → CI T S n wh st s U td P q C → ∀ X, srch S f st s U td P q = X →
    ∃ C' P', FrD C C' ∧ TB S P' wh n C' ∧ (∀ i, i < S.ns → P' i = 0) ∧ C' 56 11 = nI X.2.1 ∧ C' 56 12 = (if X.1 = 2 then 1 else 0) ∧ (X.1 = 1 → ∀ i, X.2.2 i ≠ 0 → C' 66 i = nI (X.2.2 i)) ∧ Ends (zF T a1) (zO T a1) (f + 12) (0, nI st.length, nI step, 0, C) ((if X.1 = 1 then 1 else 0), C')
  | 0, st, s, U, td, P, q, step, C, hf, _, _, _, _, _ => by omega
  | f + 1, st, s, U, td, P, q, step, C, hf, hst, h, hC, X, hX => by
    have h8 := hc.2.2.1.1
    have hN := hc.2.1
    have hsl := hc.2.2.1
    have h0 := h.zero
    have hns : s < S.ns := h.2.2.2.2.1
    have hlen := ups_len hN s
    obtain ⟨x1, x2, x3, x4, ⟨m1, m2, m3⟩, ⟨k, k1, k2, k3⟩, x7, x8, x9⟩ := hC
    obtain ⟨Y, hY⟩ : ∃ Y, scan (S.hold P s) U q = Y := ⟨_, rfl⟩
    obtain ⟨i1, i2, i3, i4, i5⟩ := scan_facts (S.hold P s) U q h.2.2.2.2.2.2.2.2.2.2
    obtain ⟨A, n1, n2, n3, n4, n5⟩ := next_C hc hns h0 h.2.1 (nI k) U k q C h.2.2.2.2.2.2.2.2.2.2 x1 x2.1 x3 k3 k2 Y hY
    have ml := mlist_len st s td
    have e64 : C 64 st.length = nI s := by rw [m3 _ (by omega), mlist_at]
    have v8 : vp_in (nI st.length) 8 := (vp_nI (by omega)).mpr (by omega)
    have vs : vp_in (nI s) 8 := (vp_nI (by omega)).mpr (by omega)
    have g0 : ¬ (10000 : Int32) ≤ nI step := by rw [li10000]; exact fun e => absurd ((nI_leI (by omega) (by omega)).mp e) (by omega)
    have g0' : ¬ (10000 : Int32) ≤ nI (step + 1) := by rw [li10000]; exact fun e => absurd ((nI_leI (by omega) (by omega)).mp e) (by omega)
    have g1 : ¬ nI st.length < 0 := nI_nn (by omega)
    have g2 : ¬ (mlist st s td).length ≤ st.length := by omega
    have ULen : U.length ≤ 4374 := by
      have : U.length ≤ (S.ups s).length := by rw [← k3, List.length_drop]; omega
      omega
    have xA := x1.frd hc.1 h8 n1.d
    have bA : TB S P wh n A := x2.fr fun k j q1 q2 => n1 k j (by omega)
    unfold srch at hX
    by_cases c : Y.1 = 1
    · obtain ⟨i, j1, j2, j3, j4⟩ := n4 c
      obtain ⟨r1, r2⟩ := j4.use (f := FU) (by rw [FU_eq]; omega)
      have NK : jX3_nextPlaceK T C (nI s) (nI k) := ⟨vs, r1⟩
      have NV : jX3_nextPlace T C (nI s) (nI k) = (nI i, A) := r2
      have gi : ¬ nI i < 0 := nI_nn (by omega)
      have a12 : A 56 12 = 0 := by rw [n3, if_neg (by omega)]; exact x4
      have a64 : A 64 st.length = nI s := by rw [n1 _ _ (by omega)]; exact e64
      have frB : FrD A (up2 A 65 st.length (nI i)) := fun k j q1 q2 q3 => by rw [up2_ap, if_neg (by omega)]
      have xB := xA.frd hc.1 h8 frB
      have bB : TB S P wh n (up2 A 65 st.length (nI i)) := bA.fr fun k j q1 q2 => by rw [up2_ap, if_neg (by omega)]
      obtain ⟨p1, p2, p3, p4⟩ := put_C hc xB bB hns h0 j1
      rw [j2] at p3 p4
      obtain ⟨D', hD⟩ : ∃ D', D' = jX3_putM T (up2 A 65 st.length (nI i)) (nI s) (nI i) := ⟨_, rfl⟩
      rw [← hD] at p2 p3 p4
      have frD : FrD C D' := fun k j q1 q2 q3 => by rw [p2 k j (by omega) (by omega), up2_ap, if_neg (by omega)]; exact n1.d k j q1 q2 q3
      have xD := x1.frd hc.1 h8 frD
      have d11 : D' 56 11 = nI Y.2.2.2 := by rw [p2 _ _ (by omega) (by omega), up2_ap, if_neg (by omega)]; exact n2
      have d12 : D' 56 12 = 0 := by rw [p2 _ _ (by omega) (by omega), up2_ap, if_neg (by omega)]; exact a12
      have d10 : D' 56 10 = nI (mlist st s td).length := by rw [p2 _ _ (by omega) (by omega), up2_ap, if_neg (by omega), n1 _ _ (by omega)]; exact m1
      have d64 : ∀ j, D' 64 j = C 64 j := fun j => by rw [p2 _ _ (by omega) (by omega), up2_ap, if_neg (by omega), n1 _ _ (by omega)]
      have d65 : ∀ j, j ≠ st.length → D' 65 j = C 65 j := fun j hj => by rw [p2 _ _ (by omega) (by omega), up2_ap, if_neg (by omega), n1 _ _ (by omega)]
      have d65' : D' 65 st.length = nI i := by rw [p2 _ _ (by omega) (by omega), up2_at]
      have d66 : ∀ j, put P s Y.2.1 j ≠ 0 → D' 66 j = nI (put P s Y.2.1 j) := fun j hj => by
        by_cases e : j = s
        · subst e; rw [put_at]; exact p3
        · rw [put_ne _ _ e] at hj ⊢
          rw [p2 _ _ (by omega) (by omega), up2_ap, if_neg (by omega), n1 _ _ (by omega)]; exact x9 j hj
      have go : Go (zF T a1) (zO T a1) 1 (0, nI st.length, nI step, 0, C) (0, nI (st.length + 1), nI (step + 1), 0, D') := Go.one fun m => by
        dsimp only [zF, zO]
        rw [jX3_laidO_9, jX3_laidI_9, m1, x4, nI_clamp (n := st.length) (by omega), e64, k1, NV]
        dsimp only
        rw [a64, ← hD, nI_1, nI_1]
        simp (disch := omega) only [nI_leI, eq_false g0, eq_false g1, eq_false g2, eq_true v8, eq_true NK, eq_false gi, eq_true p1, ↓reduceIte, not_true_eq_false, not_false_eq_true, true_imp_iff, false_imp_iff, implies_true, and_true, true_and, eq_self]
        first | exact id | exact ⟨id, rfl⟩
      have hq' : q < Y.2.2.2 := by rw [hY] at i4; exact (i4 c).2.1
      rw [hY] at i3
      cases td with
      | nil =>
        rw [hY, if_pos c] at hX
        dsimp only at hX
        obtain ⟨y1, y2, y3, y4, y5, y6, y7, y8⟩ := SI.nxt hN hsl h hY c
        have hch : chr set (s + 1) ((s, Y.2.2.1) :: st) := ⟨Nat.lt_succ_self s, h.2.2.2.2.2.1, fun k a b => by dsimp only at a; omega, h.2.2.1⟩
        simp at ml
        obtain ⟨C', P', f1, f2, f3, f4⟩ := fin_C (C := D') (P := put P s Y.2.1) hc a1 (v3 := 1) (.inr rfl) hch (by simp; omega) xD p4 (fun j hj => by
          rw [d64, m3 j (by simp at hj; omega), ← mlist_lo ((s, Y.2.2.1) :: st) 0 [] hj]
          unfold mlist
          rw [List.map_cons, List.reverse_cons]
          simp at hj
          rw [List.getD_eq_getElem?_getD, List.getD_eq_getElem?_getD]
          congr 2
          rw [List.getElem?_append_left (l₂ := [0]) (by simp; omega)]) (by omega) y6 y7 d66
        refine ⟨C', P', fun k j q1 q2 q3 => (f1 k j (by omega)).trans (frD k j q1 q2 q3), f2, f3, ?_, ?_, fun _ j hj => ?_, ?_⟩
        · rw [f1 _ _ (by omega), ← hX]; exact d11
        · rw [f1 _ _ (by omega), ← hX, if_neg (by decide : ¬ (1 : Nat) = 2)]; exact d12
        · rw [← hX] at hj ⊢
          rw [f1 _ _ (by omega)]; exact d66 j hj
        · rw [← hX, if_pos rfl]
          refine Ends.le (go.ends (Go.ends (B1 := 1) (Go.one (s' := (1, nI (st.length + 1), 1, 0, D')) fun m => ?_) f4)) (by simp; omega)
          dsimp only [zF, zO]
          have z1 : ¬ nI (st.length + 1) < 0 := nI_nn (by omega)
          have z2 : st.length + 1 ≤ st.length + 1 := Nat.le_refl _
          rw [ml] at d10
          rw [jX3_laidO_9, jX3_laidI_9, d10]
          simp (disch := omega) only [nI_leI, eq_false g0', eq_false z1, eq_true z2, ↓reduceIte, not_true_eq_false, not_false_eq_true, true_imp_iff, false_imp_iff, implies_true, and_true, true_and, eq_self]
          first | exact id | exact ⟨id, rfl⟩
      | cons s' td' =>
        rw [hY, if_pos c] at hX
        dsimp only at hX
        have h' := h.push hN hsl (by rw [hY]; exact c)
        rw [hY] at h'
        have g : CI T S n wh ((s, Y.2.2.1) :: st) s' (S.ups s') td' (put P s Y.2.1) Y.2.2.2 D' := by
          refine ⟨xD, p4, d11, d12, ?_, ⟨0, ?_, Nat.zero_le _, rfl⟩, ⟨⟨i, d65', j1, j3⟩, x7.fr fun j hj => d65 j (by omega)⟩, fun j q1 q2 => ?_, d66⟩
          · rw [mlist_push]
            exact ⟨d10, m2, fun j hj => by rw [d64]; exact m3 j hj⟩
          · simp only [List.length_cons]
            rw [d65 _ (by omega), x8 (st.length + 1) (by omega) (by simp at ml ⊢; omega)]; rfl
          · rw [mlist_push] at q2
            simp only [List.length_cons] at q1
            rw [d65 _ (by omega)]; exact x8 j (by omega) q2
        have hm : 2 * (2000 - Y.2.2.2) + ((s, Y.2.2.1) :: st).length + 1 ≤ f := by rw [List.length_cons]; exact meas_push hf hq' i3
        obtain ⟨C', P', f1, f2, f3, f4, f5, f6, f7⟩ := laid_loop hc (set := set) a1 f _ _ _ _ _ _ (step + 1) _ hm (by omega) h' g X hX
        exact ⟨C', P', frD.trans f1, f2, f3, f4, f5, f6, Ends.le (go.ends f7) (by omega)⟩
    · obtain ⟨r1, r2⟩ := (n5 c).use (f := FU) (by rw [FU_eq]; omega)
      have NK : jX3_nextPlaceK T C (nI s) (nI k) := ⟨vs, r1⟩
      have NV : jX3_nextPlace T C (nI s) (nI k) = (-1, A) := r2
      have gm : (-1 : Int32) < 0 := by decide
      rw [hY, if_neg c] at hX
      by_cases d : Y.1 = 2
      · rw [if_pos d] at hX
        have a12 : A 56 12 = 1 := by rw [n3, if_pos d]
        have z10 : ¬ (1 : Int32) = 0 := by decide
        have z2 : ¬ st.length = (mlist st s td).length := by omega
        obtain ⟨C', P', f1, f2, f3, f4⟩ := fin_C (C := A) (P := P) hc a1 (v3 := 0) (.inl rfl) h.2.2.1 (by omega) xA bA (fun j hj => by rw [n1 _ _ (by omega), m3 j (by omega), mlist_lo st s td hj]) (by omega) h.2.2.2.2.2.2.1 h.2.2.2.2.2.2.2.1 (fun j hj => by rw [n1 _ _ (by omega)]; exact x9 j hj)
        refine ⟨C', P', fun k j q1 q2 q3 => (f1 k j (by omega)).trans (n1.d k j q1 q2 q3), f2, f3, ?_, ?_, fun e => ?_, ?_⟩
        · rw [f1 _ _ (by omega), ← hX]; exact n2
        · rw [f1 _ _ (by omega), ← hX, if_pos rfl]; exact a12
        · rw [← hX] at e; exact absurd e (by decide : ¬ (2 : Nat) = 1)
        · rw [← hX, if_neg (by decide : ¬ (2 : Nat) = 1)]
          refine Ends.le (Go.ends (B1 := 1) (Go.one (s' := (0, nI st.length, nI (step + 1), 0, A)) fun m => ?_) (Go.ends (B1 := 1) (Go.one (s' := (1, nI st.length, 0, 0, A)) fun m => ?_) f4)) (by omega)
          · dsimp only [zF, zO]
            rw [jX3_laidO_9, jX3_laidI_9, m1, x4, nI_clamp (n := st.length) (by omega), e64, k1, NV]
            dsimp only
            rw [nI_1]
            simp (disch := omega) only [a12, nI_leI, eq_false g0, eq_false g1, eq_false g2, eq_true v8, eq_true NK, eq_true gm, eq_false z10, ↓reduceIte, not_true_eq_false, not_false_eq_true, true_imp_iff, false_imp_iff, implies_true, and_true, true_and, eq_self]
            first | exact id | exact ⟨id, rfl⟩
          · dsimp only [zF, zO]
            have a10 : A 56 10 = nI (mlist st s td).length := by rw [n1 _ _ (by omega)]; exact m1
            rw [jX3_laidO_9, jX3_laidI_9, a10, a12]
            simp (disch := omega) only [nI_leI, nI_eq, eq_false g0', eq_false g1, eq_false g2, eq_false z10, eq_false z2, ↓reduceIte, not_true_eq_false, not_false_eq_true, true_imp_iff, false_imp_iff, implies_true, and_true, true_and, eq_self]
            first | exact id | exact ⟨id, rfl⟩
      · have e0 : Y.1 = 0 := by rw [hY] at i1; omega
        rw [if_neg d] at hX
        have a12 : A 56 12 = 0 := by rw [n3, if_neg d]; exact x4
        have frB : FrD A (up2 A 65 st.length (-1)) := fun k j q1 q2 q3 => by rw [up2_ap, if_neg (by omega)]
        have xB := xA.frd hc.1 h8 frB
        have bB : TB S P wh n (up2 A 65 st.length (-1)) := bA.fr fun k j q1 q2 => by rw [up2_ap, if_neg (by omega)]
        cases st with
        | nil =>
          dsimp only at hX
          have B0 : jX3_takeBackM (up2 A 65 0 (-1)) (-1) = up2 A 65 0 (-1) := if_pos gm
          have BK : jX3_takeBackK (up2 A 65 0 (-1)) (-1) := ⟨fun _ => trivial, fun q => absurd gm q⟩
          refine ⟨up2 A 65 0 (-1), P, fun k j q1 q2 q3 => (frB k j q1 q2 q3).trans (n1.d k j q1 q2 q3), bB, fun i _ => ?_, ?_, ?_, fun e => ?_, ?_⟩
          · by_cases z : P i = 0
            · exact z
            · obtain ⟨e, e1, _⟩ := (h.2.2.2.2.2.2.1 i).mp z
              cases e1
          · rw [up2_ap, if_neg (by omega), ← hX]; exact n2
          · rw [up2_ap, if_neg (by omega), ← hX, if_neg (by decide : ¬ (0 : Nat) = 2)]; exact a12
          · rw [← hX] at e; exact absurd e (by decide : ¬ (0 : Nat) = 1)
          · rw [← hX, if_neg (by decide : ¬ (0 : Nat) = 1)]
            refine Ends.le (Go.ends (B1 := 1) (Go.one (s' := (0, -1, nI (step + 1), 0, up2 A 65 0 (-1))) fun m => ?_) (Go.ends (B1 := 1) (B2 := 1) (Go.one (s' := (1, -1, 0, 0, up2 A 65 0 (-1))) fun m => ?_) (Ends.one fun m => ?_))) (by omega)
            · dsimp only [zF, zO]
              rw [jX3_laidO_9, jX3_laidI_9, m1, x4, nI_clamp (n := ([] : List (Nat × List Nat)).length) (by simp), e64, k1, NV]
              dsimp only [List.length_nil]
              rw [nI_1, show nI 0 + (-1) = (-1 : Int32) from rfl, B0]
              simp only [List.length_nil] at g1 g2 v8
              simp (disch := omega) only [a12, nI_leI, eq_false g0, eq_false g1, eq_false g2, eq_true v8, eq_true NK, eq_true gm, eq_true BK, ↓reduceIte, not_true_eq_false, not_false_eq_true, true_imp_iff, false_imp_iff, implies_true, and_true, true_and, eq_self]
              first | exact id | exact ⟨id, rfl⟩
            · dsimp only [zF, zO]
              have a10 : up2 A 65 0 (-1) 56 10 = nI (mlist [] s td).length := by rw [up2_ap, if_neg (by omega), n1 _ _ (by omega)]; exact m1
              have ne : ¬ (-1 : Int32) = nI (mlist [] s td).length := fun e => nI_nn (n := (mlist [] s td).length) (by omega) (e ▸ gm)
              rw [jX3_laidO_9, jX3_laidI_9, a10]
              simp (disch := omega) only [nI_leI, eq_false g0', eq_true gm, eq_false ne, ↓reduceIte, not_true_eq_false, not_false_eq_true, true_imp_iff, false_imp_iff, implies_true, and_true, true_and, eq_self]
              first | exact id | exact ⟨id, rfl⟩
            · dsimp only [zF, zO]
              have z : (-1 : Int32) ≤ 0 := by decide
              rw [jX3_laidO_131, jX3_laidI_131]
              simp only [eq_true z, true_or, ↓reduceIte, not_true_eq_false, not_false_eq_true, true_imp_iff, false_imp_iff, implies_true, and_true, true_and, eq_self]
        | cons e st' =>
          dsimp only at hX
          obtain ⟨es, eU⟩ := e
          have h' := h.pop
          rw [hY] at h' i2 i3
          have lt : es < s := h.2.2.1.1
          have pe : P es ≠ 0 := (h.2.2.2.2.2.2.1 es).mpr ⟨_, .head _, rfl⟩
          have pm : P es ∈ S.plist es := (List.mem_filter.mp (h.2.2.2.2.2.2.2.1 es pe)).1
          simp only [List.length_cons] at e64 v8 g1 g2 k1 x8 ml hf frB xB bB
          obtain ⟨⟨ki, w1, w2, w3⟩, x7'⟩ := x7
          dsimp only at w2 w3
          have mlp := mlist_pop st' s (es, eU) td
          dsimp only at mlp
          have eS : up2 A 65 (st'.length + 1) (-1) 64 st'.length = nI es := by
            rw [up2_ap, if_neg (by omega), n1 _ _ (by omega), m3 _ (by omega), mlp, mlist_at]
          have eG : up2 A 65 (st'.length + 1) (-1) 66 es = nI (P es) := by
            rw [up2_ap, if_neg (by omega), n1 _ _ (by omega)]; exact x9 es pe
          obtain ⟨t1, t2, t3⟩ := back_C hc xB bB (show es < S.ns by omega) pe pm (show st'.length < 8 by omega) eS eG
          obtain ⟨D', hD⟩ : ∃ D', D' = jX3_takeBackM (up2 A 65 (st'.length + 1) (-1)) (nI st'.length) := ⟨_, rfl⟩
          rw [← hD] at t2 t3
          have frD : FrD C D' := fun k j q1 q2 q3 => by rw [t2 k j (by omega), up2_ap, if_neg (by omega)]; exact n1.d k j q1 q2 q3
          have d65 : ∀ j, j ≠ st'.length + 1 → D' 65 j = C 65 j := fun j hj => by rw [t2 _ _ (by omega), up2_ap, if_neg (by omega), n1 _ _ (by omega)]
          have g : CI T S n wh st' es eU (s :: td) (put P es 0) Y.2.2.2 D' := by
            refine ⟨x1.frd hc.1 h8 frD, t3, ?_, ?_, ?_, ⟨ki + 1, ?_, w2, w3⟩, x7'.fr fun j hj => d65 j (by omega), fun j q1 q2 => ?_, fun j hj => ?_⟩
            · rw [t2 _ _ (by omega), up2_ap, if_neg (by omega)]; exact n2
            · rw [t2 _ _ (by omega), up2_ap, if_neg (by omega)]; exact a12
            · rw [← mlp]
              refine ⟨?_, m2, fun j hj => ?_⟩
              · rw [t2 _ _ (by omega), up2_ap, if_neg (by omega), n1 _ _ (by omega)]; exact m1
              · rw [t2 _ _ (by omega), up2_ap, if_neg (by omega), n1 _ _ (by omega)]; exact m3 j hj
            · rw [d65 _ (by omega), w1, nI_1]
            · by_cases ej : j = st'.length + 1
              · rw [ej, t2 _ _ (by omega), up2_at]
              · rw [d65 _ ej]; rw [← mlp] at q2; exact x8 j (by omega) q2
            · by_cases ej : j = es
              · subst ej; rw [put_at] at hj; exact absurd rfl hj
              · rw [put_ne _ _ ej] at hj ⊢
                rw [t2 _ _ (by omega), up2_ap, if_neg (by omega), n1 _ _ (by omega)]; exact x9 j hj
          obtain ⟨C', P', f1, f2, f3, f4, f5, f6, f7⟩ := laid_loop hc (set := set) a1 f _ _ _ _ _ _ (step + 1) _ (by omega) (by omega) h' g X hX
          refine ⟨C', P', frD.trans f1, f2, f3, f4, f5, f6, Ends.le (Go.ends (B1 := 1) (Go.one fun m => ?_) f7) (by omega)⟩
          dsimp only [zF, zO]
          simp only [List.length_cons]
          rw [jX3_laidO_9, jX3_laidI_9, m1, x4, nI_clamp (n := st'.length + 1) (by omega), e64, k1, NV]
          dsimp only
          rw [nI_1 step, nI_m1, ← hD]
          simp (disch := omega) only [a12, nI_leI, eq_false g0, eq_false g1, eq_false g2, eq_true v8, eq_true NK, eq_true gm, eq_true t1, ↓reduceIte, not_true_eq_false, not_false_eq_true, true_imp_iff, false_imp_iff, implies_true, and_true, true_and, eq_self]
          first | exact id | exact ⟨id, rfl⟩
end TR
end
