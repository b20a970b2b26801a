noncomputable section
section GO
variable {σ β : Type} {F : Nat → σ → β} {O : Nat → σ → Prop}
theorem Go.loopE {B : Nat} {P : Nat → σ → Prop} : ∀ N, (∀ k, k < N → ∀ s, P k s → ∃ s', P (k + 1) s' ∧ Go F O B s s') → ∀ s, P 0 s → ∃ s', P N s' ∧ Go F O (N * B) s s'
  | 0, _, s, h => ⟨s, h, Go.refl.le (by omega)⟩
  | N + 1, h, s, h0 => by
    obtain ⟨s1, p1, g1⟩ := Go.loopE N (fun k hk => h k (by omega)) s h0
    obtain ⟨s2, p2, g2⟩ := h N (by omega) s1 p1
    exact ⟨s2, p2, by rw [Nat.add_mul, Nat.one_mul]; exact g1.trans g2⟩
end GO
theorem insF_sorted' {S : St} {f : Nat → List Nat} {w : List Nat} : ∀ n, (∀ i j, i ≤ j → j < n → lateN S (f i) ≤ lateN S (f j)) → ∀ i j, i ≤ j → j < n + 1 → lateN S (insF (ahd S) f n w i) ≤ lateN S (insF (ahd S) f n w j) :=
  insF_sorted (g := lateN S) (fun x y h => by unfold ahd at h; simp at h; omega) (fun x y h => by unfold ahd at h; simp at h; omega)
def srt (S : St) (A : Acc) : Prop := ∀ i j, i ≤ j → j < A.2 → lateN S (A.1 i) ≤ lateN S (A.1 j)
theorem dfs_sorted (S : St) (b : Nat) : ∀ (k x seen : Nat) (p : List Nat) (A : Acc), srt S A → srt S (dfs S b k x seen p A)
  | 0, _, _, _, _, h => h
  | k + 1, x, seen, p, A, h => by
    unfold dfs
    split
    · exact insF_sorted' _ h
    · have key : ∀ n, srt S (lpA S x seen p (dfs S b k) A n) := by
        intro n
        induction n with
        | zero => exact h
        | succ n ih =>
          unfold lpA
          split
          · exact ih
          · split
            · exact ih
            · exact dfs_sorted S b k _ _ _ _ ih
      exact key _
theorem way_sorted (S : St) (a b : Nat) : srt S (S.wayA a b) := dfs_sorted S b 6 a _ _ _ (fun i j _ h => absurd h (Nat.not_lt_zero _))
/-! PLACES of the class -/
def GatS (T : Topo) (i : Nat) (L : List Nat) (C : IM) : Prop := C (18 + 4 * i) 3 = nI L.length ∧ ∀ p, p < L.length → p < tL T (plA T i) → C (plA T i) p = nI (L.getD p 0)
def FrP (T : Topo) (i : Nat) (C C' : IM) : Prop := ∀ k j, ¬ (k = 18 + 4 * i ∧ j = 3) → k ≠ plA T i → C' k j = C k j
theorem FrP.refl {T : Topo} {i : Nat} {C : IM} : FrP T i C C := fun _ _ _ _ => rfl
theorem FrP.trans {T : Topo} {i : Nat} {A B C : IM} (h : FrP T i A B) (h2 : FrP T i B C) : FrP T i A C := fun k j a b => (h2 k j a b).trans (h k j a b)
theorem place_nI {w u k : Nat} (hw : w < 512) (hu : u < 512) (hk : k < 64) : jPlaceOn (nI w) (nI u) (nI k) = nI (placeN w u k) := by
  unfold jPlaceOn
  rw [show (9 : Int32) = nI 9 from rfl, show (18 : Int32) = nI 18 from rfl, shl_nI (by omega) (by omega), shl_nI (by omega) (by omega), or_nI, or_nI]
  congr 1
  have e1 : w ||| u * 2 ^ 9 = u * 2 ^ 9 + w := by
    rw [Nat.or_comm, Nat.mul_comm]
    exact (Nat.two_pow_add_eq_or_of_lt hw u).symm
  have e2 : (u * 2 ^ 9 + w) ||| k * 2 ^ 18 = k * 2 ^ 18 + (u * 2 ^ 9 + w) := by
    rw [Nat.or_comm, Nat.mul_comm k]
    exact (Nat.two_pow_add_eq_or_of_lt (by omega) k).symm
  rw [e1, e2]
  unfold placeN
  omega
theorem hostsL_one (w u h k : Nat) : hostsL w u h 0 (k + 1) = hostsL w u h 0 k ++ (if h.testBit k = true then [placeN w u k] else []) := by
  unfold hostsL
  rw [List.range'_concat, List.filter_append, List.map_append]
  congr 1
  by_cases c : h.testBit k = true
  · simp [c]
  · simp [c]
theorem hostsL_len (w u h : Nat) : ∀ m, (hostsL w u h 0 m).length ≤ m
  | 0 => by simp [hostsL]
  | m + 1 => by
    rw [hostsL_one, List.length_append]
    have := hostsL_len w u h m
    split <;> simp <;> omega
section GATH
variable {T : Topo} {S : St} {C : IM} {i : Nat}
theorem gatS_push {L : List Nat} {q : Nat} (hT : PlS T) (hi : i < 8) (hL : L.length < 2 ^ 30) (h : GatS T i L C) : ∃ C', GatS T i (L ++ [q]) C' ∧ FrP T i C C' ∧ (if nI (tL T (plA T i)) ≤ C (18 + 4 * i) 3 then C' = up2 C (18 + 4 * i) 3 (C (18 + 4 * i) 3 + 1) else vp_in (C (18 + 4 * i) 3) (tL T (plA T i)) ∧ C' = up2 (up2 C (plA T i) (C (18 + 4 * i) 3).toNatClampNeg (nI q)) (18 + 4 * i) 3 ((up2 C (plA T i) (C (18 + 4 * i) 3).toNatClampNeg (nI q)) (18 + 4 * i) 3 + 1)) := by
  obtain ⟨t1, -, -, -, -, t6, -⟩ := hT i hi
  obtain ⟨h1, h2⟩ := h
  have hne : 18 + 4 * i ≠ plA T i := by omega
  by_cases c : tL T (plA T i) ≤ L.length
  · refine ⟨up2 C (18 + 4 * i) 3 (C (18 + 4 * i) 3 + 1), ⟨?_, fun p hp hp2 => ?_⟩, fun k j q1 q2 => by rw [up2_ap, if_neg q1], ?_⟩
    · rw [up2_at, h1, nI_1, List.length_append]; rfl
    · rw [up2_o _ _ _ _ (by omega), h2 p (by omega) hp2, getD_app_lt (by omega)]
    · rw [if_pos (by rw [h1]; exact nI_le c (by omega))]
  · refine ⟨up2 (up2 C (plA T i) (C (18 + 4 * i) 3).toNatClampNeg (nI q)) (18 + 4 * i) 3 ((up2 C (plA T i) (C (18 + 4 * i) 3).toNatClampNeg (nI q)) (18 + 4 * i) 3 + 1), ⟨?_, fun p hp hp2 => ?_⟩, fun k j q1 q2 => by rw [up2_ap, if_neg q1, up2_ap, if_neg (fun e => q2 e.1)], ?_⟩
    · rw [up2_at, up2_o _ _ _ _ hne, h1, nI_1, List.length_append]; rfl
    · rw [up2_o _ _ _ _ (by omega), h1, nI_clamp (by omega)]
      rw [List.length_append] at hp
      by_cases e : p = L.length
      · subst e
        rw [up2_at, getD_app_eq]
      · have : p < L.length := by simp at hp; omega
        rw [up2_sj _ _ _ e, h2 p this hp2, getD_app_lt this]
    · rw [if_neg (by rw [h1]; exact nI_ge (by omega) (by omega))]
      exact ⟨by rw [h1]; exact (vp_nI (by omega)).mpr (by omega), rfl⟩
theorem gatherHosts_C (hT : PlS T) (hi : i < 8) (hN : S.netOk) (hC : cNet S C) {L : List Nat} {w u h : Nat} (hw : w < 512) (hu : u < 512) (hh : h < 64) (hL : L.length + 6 < 2 ^ 30) (g : GatS T i L C) :
    jX6_gatherHostsK T C i (nI w) (nI u) (nI h) ∧ GatS T i (L ++ hostsL w u h 0 S.nn) (jX6_gatherHosts T C i (nI w) (nI u) (nI h)) ∧ FrP T i C (jX6_gatherHosts T C i (nI w) (nI u) (nI h)) := by
  have h6 := hN.1
  obtain ⟨t1, -⟩ := hT i hi
  unfold jX6_gatherHostsK jX6_gatherHosts
  obtain ⟨⟨v, C'⟩, ⟨e, p1, p2⟩, go⟩ := Go.loopE (F := fun n (s : Int32 × IM) => jX6_gatherHostsI T i (nI w) (nI u) (nI h) n s.1 s.2) (O := fun n s => jX6_gatherHostsO T i (nI w) (nI u) (nI h) n s.1 s.2) (B := 1) (P := fun k s => s.1 = nI k ∧ GatS T i (L ++ hostsL w u h 0 k) s.2 ∧ FrP T i C s.2) S.nn
    (fun k hk s hs => by
      obtain ⟨v, I⟩ := s
      obtain ⟨e, p1, p2⟩ := hs
      dsimp only at e p1 p2
      subst e
      have c0 : ¬ S.nn ≤ k := by omega
      have n3 : I 1 3 = nI S.nn := by rw [p2 _ _ (by omega) (by omega)]; exact hC.1
      have hl := hostsL_len w u h k
      rw [hostsL_one]
      by_cases c : h.testBit k = true
      · obtain ⟨C', q1, q2, q3⟩ := gatS_push (q := placeN w u k) hT hi (by rw [List.length_append]; omega) p1
        rw [if_pos c, ← List.append_assoc]
        refine ⟨(nI (k + 1), C'), ⟨rfl, q1, p2.trans q2⟩, Go.one fun n => ?_⟩
        dsimp only
        rw [jX6_gatherHostsO_3, jX6_gatherHostsI_3, n3, nI_1, place_nI hw hu (by omega)]
        by_cases c2 : nI (tL T (plA T i)) ≤ I (18 + 4 * i) 3
        · rw [if_pos c2] at q3
          have c2' : Int32.ofNat (tL T (plA T i)) ≤ I (18 + 4 * i) 3 := c2
          rw [q3]
          simp (disch := omega) only [nI_leI, hs_nI, eq_false c0, eq_true c, eq_true c2', ↓reduceIte, not_true_eq_false, not_false_eq_true, true_imp_iff, false_imp_iff, implies_true, and_true, true_and, eq_self]
          first | exact id | exact ⟨id, rfl⟩
        · rw [if_neg c2] at q3
          have c2' : ¬ Int32.ofNat (tL T (plA T i)) ≤ I (18 + 4 * i) 3 := c2
          rw [q3.2]
          simp (disch := omega) only [nI_leI, hs_nI, eq_false c0, eq_true c, eq_false c2', eq_true q3.1, ↓reduceIte, not_true_eq_false, not_false_eq_true, true_imp_iff, false_imp_iff, implies_true, and_true, true_and, eq_self]
          first | exact id | exact ⟨id, rfl⟩
      · rw [if_neg c, List.append_nil]
        refine ⟨(nI (k + 1), I), ⟨rfl, p1, p2⟩, Go.one fun n => ?_⟩
        dsimp only
        rw [jX6_gatherHostsO_3, jX6_gatherHostsI_3, n3, nI_1]
        simp (disch := omega) only [nI_leI, hs_nI, eq_false c0, eq_false c, ↓reduceIte, not_true_eq_false, not_false_eq_true, true_imp_iff, false_imp_iff, implies_true, and_true, true_and, eq_self]
        first | exact id | exact ⟨id, rfl⟩)
    ((nI 0, C) : Int32 × IM) ⟨rfl, by simp only [hostsL, List.range'_zero, List.filter_nil, List.map_nil, List.append_nil]; exact g, FrP.refl⟩
  dsimp only at e p1 p2
  subst e
  have E := go.ends (Ends.one (b := C') fun n => by
    dsimp only
    have c0 : S.nn ≤ S.nn := Nat.le_refl _
    have n3 : C' 1 3 = nI S.nn := by rw [p2 _ _ (by omega) (by omega)]; exact hC.1
    rw [jX6_gatherHostsO_3, jX6_gatherHostsI_3, n3]
    simp (disch := omega) only [nI_leI, eq_true c0, ↓reduceIte, not_true_eq_false, not_false_eq_true, true_imp_iff, false_imp_iff, implies_true, and_true, true_and, eq_self])
  obtain ⟨r1, r2⟩ := E.use (f := FU) (by rw [FU_eq]; omega)
  have r2' : jX6_gatherHostsI T i (nI w) (nI u) (nI h) FU 0 C = C' := r2
  rw [r2']
  exact ⟨r1, p1, p2⟩
theorem cNet.frp (hT : PlS T) (hi : i < 8) (hC : cNet S C) {C' : IM} (f : FrP T i C C') : cNet S C' := by
  obtain ⟨t1, -⟩ := hT i hi
  exact hC.of fun k j q => f k j (by omega) (by omega)
theorem spL_one (s i m : Nat) : S.spL s i 0 (m + 1) = S.spL s i 0 m ++ (if S.latW s m ≤ S.bd s ∧ S.setW s i &&& S.setW s m = 0 then hostsL (S.setW s i) (S.setW s m) (S.nodW s i &&& S.nodW s m) 0 S.nn else []) := by
  unfold St.spL
  rw [List.range'_concat, List.flatMap_append]
  simp
theorem gaL_one (s m : Nat) : S.gaL s 0 (m + 1) = S.gaL s 0 m ++ (if S.latW s m ≤ S.bd s then (if S.kd s = 1 then S.spL s m 0 (S.wn s) else hostsL (S.setW s m) 0 (S.nodW s m) 0 S.nn) else []) := by
  unfold St.gaL
  rw [List.range'_concat, List.flatMap_append]
  simp
theorem spL_len (hN : S.netOk) (s i : Nat) : ∀ m, (S.spL s i 0 m).length ≤ 6 * m
  | 0 => by simp [St.spL]
  | m + 1 => by
    have := spL_len hN s i m
    have h6 := hN.1
    rw [spL_one, List.length_append]
    split
    · have := hostsL_len (S.setW s i) (S.setW s m) (S.nodW s i &&& S.nodW s m) S.nn
      omega
    · simp; omega
theorem gaL_len (hN : S.netOk) (s : Nat) : ∀ m, (S.gaL s 0 m).length ≤ 162 * m
  | 0 => by simp [St.gaL]
  | m + 1 => by
    have := gaL_len hN s m
    have h6 := hN.1
    have h27 : S.wn s ≤ 27 := wayA_27 hN _ _
    rw [gaL_one, List.length_append]
    split
    · split
      · have := spL_len hN s m (S.wn s)
        omega
      · have := hostsL_len (S.setW s m) 0 (S.nodW s m) S.nn
        omega
    · simp; omega
theorem plist_len (hN : S.netOk) (s : Nat) : (S.plist s).length ≤ 4374 := by
  have h27 : S.wn s ≤ 27 := wayA_27 hN _ _
  have := gaL_len hN s (S.wn s)
  unfold St.plist
  omega
/-- what the class knows of the WAYS of a SLICE -/
def WyC (S : St) (s : Nat) (C : IM) : Prop := cNet S C ∧ KeysC S (S.wayA (S.sa s) (S.sb s)) C ∧ C (17 + 4 * s) 4 = nI (S.bd s) ∧ C (17 + 4 * s) 0 = nI (S.kd s)
theorem WyC.frp (hT : PlS T) (hi : i < 8) {s : Nat} (hs : s < 8) (h : WyC S s C) {C' : IM} (f : FrP T i C C') : WyC S s C' := by
  obtain ⟨t1, -⟩ := hT i hi
  obtain ⟨h1, h2, h3, h4⟩ := h
  refine ⟨h1.frp hT hi f, ⟨by rw [f _ _ (by omega) (by omega)]; exact h2.1, fun j hj => by rw [f _ _ (by omega) (by omega)]; exact h2.2 j hj⟩, by rw [f _ _ (by omega) (by omega)]; exact h3, by rw [f _ _ (by omega) (by omega)]; exact h4⟩
theorem way_facts (hN : S.netOk) (hs : S.slOk) {s : Nat} (h : s < S.ns) {j : Nat} (hj : j < S.wn s) : S.path (S.sa s) (2 ^ S.sa s) (S.sb s) (S.wy s j) ∧ wOk S (S.wy s j) ∧ S.setW s j < 512 ∧ S.nodW s j < 64 ∧ S.endsOf (S.setW s j) S.nl = S.nodW s j ∧ S.latW s j ≤ 45 := by
  obtain ⟨-, k2, k3, k4, -⟩ := hs.2.1 s h
  obtain ⟨p1, p2⟩ := way_ok hN k2 k3 j hj
  have h9 := hN.2.1
  have h6 := hN.1
  refine ⟨p1, p2, ?_, ?_, ends_path p1 k4, ?_⟩
  · exact Nat.lt_of_lt_of_le (path_set _ _ _ p1) (show 2 ^ S.nl ≤ 2 ^ 9 from Nat.pow_le_pow_right (by decide) h9)
  · exact Nat.lt_of_lt_of_le (path_nodes hN _ _ _ k2 p1) (show 2 ^ S.nn ≤ 2 ^ 6 from Nat.pow_le_pow_right (by decide) h6)
  · have := late_le (S := S) (S.wy s j) p2.2
    have : (S.wy s j).length ≤ 5 := p2.1
    show lateN S (S.wy s j) ≤ 45
    omega
theorem spares_C (hT : PlS T) (hi : i < 8) (hN : S.netOk) (hsl : S.slOk) {s : Nat} (hs : s < S.ns) (hW : WyC S s C) {L : List Nat} {a : Nat} (ha : a < S.wn s) (hL : L.length + 162 < 2 ^ 30) (g : GatS T i L C) :
    jX6_gatherSparesK T C i s (nI (S.setW s a)) ∧ GatS T i (L ++ S.spL s a 0 (S.wn s)) (jX6_gatherSpares T C i s (nI (S.setW s a))) ∧ FrP T i C (jX6_gatherSpares T C i s (nI (S.setW s a))) := by
  have h8 := hsl.1
  have h27 : S.wn s ≤ 27 := wayA_27 hN _ _
  obtain ⟨-, -, a3, a4, a5, -⟩ := way_facts hN hsl hs ha
  have hbd := (hsl.2.1 s hs).2.2.2.2.2.2.2.1
  unfold jX6_gatherSparesK jX6_gatherSpares
  obtain ⟨⟨v, C'⟩, ⟨e, p1, p2⟩, go⟩ := Go.loopE (F := fun n (t : Int32 × IM) => jX6_gatherSparesI T i s (nI (S.setW s a)) n t.1 t.2) (O := fun n t => jX6_gatherSparesO T i s (nI (S.setW s a)) n t.1 t.2) (B := 1) (P := fun k t => t.1 = nI k ∧ GatS T i (L ++ S.spL s a 0 k) t.2 ∧ FrP T i C t.2) (S.wn s)
    (fun k hk t ht => by
      obtain ⟨v, I⟩ := t
      obtain ⟨e, p1, p2⟩ := ht
      dsimp only at e p1 p2
      subst e
      have hI := hW.frp hT hi (by omega) p2
      obtain ⟨w1, w2, w3, w4, w5, w6⟩ := way_facts hN hsl hs hk
      have c0 : ¬ S.wn s ≤ k := by omega
      have hl := spL_len hN s a k
      have kA : jKeyAtK (nI k) := (vp_nI (by omega)).mpr (by omega)
      have ky : jKeyAt I (nI k) = nI (keyN S (S.wy s k)) := by
        unfold jKeyAt
        rw [nI_clamp (by omega)]
        exact hI.2.1.2 k hk
      obtain ⟨l1, l2⟩ := linesIn_key w2 I
      have l2' : jLinesIn I (nI (keyN S (S.wy s k))) = nI (S.setW s k) := l2
      obtain ⟨n1, n2⟩ := nodesOn_C hN hI.1 (s := S.setW s a) a3
      obtain ⟨n3, n4⟩ := nodesOn_C hN hI.1 (s := S.setW s k) w3
      rw [a5] at n2
      rw [w5] at n4
      have lk : jLateOf (nI (keyN S (S.wy s k))) = nI (S.latW s k) := late_key w2
      have z : (nI (S.setW s a) &&& nI (S.setW s k) = 0) = (S.setW s a &&& S.setW s k = 0) := propext (and0 (by omega))
      have kk : I 4 4 = nI (S.wn s) := hI.2.1.1
      rw [spL_one]
      by_cases c1 : S.latW s k ≤ S.bd s
      · have c1' : ¬ S.bd s < S.latW s k := by omega
        by_cases c2 : S.setW s a &&& S.setW s k = 0
        · obtain ⟨h1, h2, h3⟩ := gatherHosts_C hT hi hN hI.1 (L := L ++ S.spL s a 0 k) (w := S.setW s a) (u := S.setW s k) (h := S.nodW s a &&& S.nodW s k) a3 w3 (Nat.lt_of_le_of_lt Nat.and_le_left a4) (by rw [List.length_append]; omega) p1
          rw [if_pos ⟨c1, c2⟩, ← List.append_assoc]
          refine ⟨(nI (k + 1), _), ⟨rfl, h2, p2.trans h3⟩, Go.one fun n => ?_⟩
          dsimp only
          rw [jX6_gatherSparesO_3, jX6_gatherSparesI_3, kk, ky, lk, hI.2.2.1, l2', n2, n4, and_nI (S.nodW s a), nI_1]
          simp (disch := omega) only [nI_leI, nI_ltI, eq_false c0, eq_false c1', z, eq_true c2, eq_true kA, eq_true l1, eq_true n1, eq_true n3, eq_true h1, ↓reduceIte, not_true_eq_false, not_false_eq_true, true_imp_iff, false_imp_iff, implies_true, and_true, true_and, eq_self]
          first | exact id | exact ⟨id, rfl⟩
        · rw [if_neg (fun q => c2 q.2), List.append_nil]
          refine ⟨(nI (k + 1), I), ⟨rfl, p1, p2⟩, Go.one fun n => ?_⟩
          dsimp only
          rw [jX6_gatherSparesO_3, jX6_gatherSparesI_3, kk, ky, lk, hI.2.2.1, l2', nI_1]
          simp (disch := omega) only [nI_leI, nI_ltI, eq_false c0, eq_false c1', z, eq_false c2, eq_true kA, eq_true l1, ↓reduceIte, not_true_eq_false, not_false_eq_true, true_imp_iff, false_imp_iff, implies_true, and_true, true_and, eq_self]
          first | exact id | exact ⟨id, rfl⟩
      · have c1' : S.bd s < S.latW s k := by omega
        rw [if_neg (fun q => c1 q.1), List.append_nil]
        refine ⟨(nI (k + 1), I), ⟨rfl, p1, p2⟩, Go.one fun n => ?_⟩
        dsimp only
        rw [jX6_gatherSparesO_3, jX6_gatherSparesI_3, kk, ky, lk, hI.2.2.1, nI_1]
        simp (disch := omega) only [nI_leI, nI_ltI, eq_false c0, eq_true c1', eq_true kA, eq_true l1, ↓reduceIte, not_true_eq_false, not_false_eq_true, true_imp_iff, false_imp_iff, implies_true, and_true, true_and, eq_self]
        first | exact id | exact ⟨id, rfl⟩)
    ((nI 0, C) : Int32 × IM) ⟨rfl, by simp only [St.spL, List.range'_zero, List.flatMap_nil, List.append_nil]; exact g, FrP.refl⟩
  dsimp only at e p1 p2
  subst e
  have E := go.ends (Ends.one (b := C') fun n => by
    dsimp only
    have c0 : S.wn s ≤ S.wn s := Nat.le_refl _
    have kk : C' 4 4 = nI (S.wn s) := (hW.frp hT hi (by omega) p2).2.1.1
    rw [jX6_gatherSparesO_3, jX6_gatherSparesI_3, kk]
    simp (disch := omega) only [nI_leI, eq_true c0, ↓reduceIte, not_true_eq_false, not_false_eq_true, true_imp_iff, false_imp_iff, implies_true, and_true, true_and, eq_self])
  obtain ⟨r1, r2⟩ := E.use (f := FU) (by rw [FU_eq]; omega)
  have r2' : jX6_gatherSparesI T i s (nI (S.setW s a)) FU 0 C = C' := r2
  rw [r2']
  exact ⟨r1, p1, p2⟩
end GATH
end
