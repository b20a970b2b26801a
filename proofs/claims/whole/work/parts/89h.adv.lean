noncomputable section
section LISTS
variable {S : St} {s : Nat}
/-- what is left from a WAY on, and of a WAY from a SPARE on -/
def St.G (S : St) (s w : Nat) : List Nat := S.gaL s w (S.wn s - w)
def St.Sp (S : St) (s w u : Nat) : List Nat := S.spL s w u (S.wn s - u)
def St.blk (S : St) (s w : Nat) : List Nat := if S.kd s = 1 then S.Sp s w 0 else hostsL (S.setW s w) 0 (S.nodW s w) 0 S.nn
def St.rst (S : St) (s w u x : Nat) : List Nat := if w < S.wn s ∧ S.latW s w ≤ S.bd s then (if S.kd s = 1 then (if u < S.wn s ∧ S.latW s u ≤ S.bd s then (if S.setW s w &&& S.setW s u = 0 then hostsL (S.setW s w) (S.setW s u) (S.nodW s w &&& S.nodW s u) x (6 - x) else []) ++ S.Sp s w (u + 1) else []) else hostsL (S.setW s w) 0 (S.nodW s w) x (6 - x)) ++ S.G s (w + 1) else []
theorem late_mono {i j : Nat} (h : i ≤ j) (hj : j < S.wn s) : S.latW s i ≤ S.latW s j := way_sorted S (S.sa s) (S.sb s) i j h hj
theorem G_step {w : Nat} (hw : w < S.wn s) (h : S.latW s w ≤ S.bd s) : S.G s w = S.blk s w ++ S.G s (w + 1) := by
  unfold St.G St.gaL
  obtain ⟨n, hn⟩ : ∃ n, S.wn s - w = n + 1 := ⟨S.wn s - w - 1, by omega⟩
  rw [hn, List.range'_succ, List.flatMap_cons, if_pos h, show S.wn s - (w + 1) = n by omega]
  rfl
theorem G_stop {w : Nat} (h : S.wn s ≤ w ∨ S.bd s < S.latW s w) : S.G s w = [] := by
  unfold St.G St.gaL
  rw [List.flatMap_eq_nil_iff]
  intro x hx
  have hx := List.mem_range'_1.mp hx
  rcases h with h | h
  · omega
  · have := late_mono (S := S) (s := s) (i := w) (j := x) hx.1 (by omega)
    rw [if_neg (by omega)]
theorem Sp_step {w u : Nat} (hu : u < S.wn s) (h : S.latW s u ≤ S.bd s) : S.Sp s w u = (if S.setW s w &&& S.setW s u = 0 then hostsL (S.setW s w) (S.setW s u) (S.nodW s w &&& S.nodW s u) 0 S.nn else []) ++ S.Sp s w (u + 1) := by
  unfold St.Sp St.spL
  obtain ⟨n, hn⟩ : ∃ n, S.wn s - u = n + 1 := ⟨S.wn s - u - 1, by omega⟩
  rw [hn, List.range'_succ, List.flatMap_cons, show S.wn s - (u + 1) = n by omega]
  congr 1
  by_cases c : S.setW s w &&& S.setW s u = 0
  · rw [if_pos ⟨h, c⟩, if_pos c]
  · rw [if_neg (fun q => c q.2), if_neg c]
theorem Sp_stop {w u : Nat} (h : S.wn s ≤ u ∨ S.bd s < S.latW s u) : S.Sp s w u = [] := by
  unfold St.Sp St.spL
  rw [List.flatMap_eq_nil_iff]
  intro x hx
  have hx := List.mem_range'_1.mp hx
  rcases h with h | h
  · omega
  · have := late_mono (S := S) (s := s) (i := u) (j := x) hx.1 (by omega)
    rw [if_neg (by omega)]
theorem hosts6 (hN : S.netOk) (hsl : S.slOk) (hss : s < S.ns) {w : Nat} (hw : w < S.wn s) (a u h : Nat) (hh : h &&& S.nodW s w = h) : hostsL a u h 0 6 = hostsL a u h 0 S.nn := by
  have h6 := hN.1
  obtain ⟨-, k2, k3, k4, -⟩ := hsl.2.1 s hss
  obtain ⟨p1, -⟩ := way_ok hN k2 k3 w hw
  have hb : h < 2 ^ S.nn := by
    rw [← hh]
    exact Nat.lt_of_le_of_lt Nat.and_le_right (path_nodes hN _ _ _ k2 p1)
  obtain ⟨d, hd⟩ : ∃ d, 6 = S.nn + d := ⟨6 - S.nn, by omega⟩
  rw [hd, hostsL_more hb]
theorem rst_u (hN : S.netOk) (hsl : S.slOk) (hss : s < S.ns) {w u : Nat} (hw : w < S.wn s) (h : S.latW s w ≤ S.bd s) (hk : S.kd s = 1) : S.rst s w u 0 = S.Sp s w u ++ S.G s (w + 1) := by
  unfold St.rst
  rw [if_pos ⟨hw, h⟩, if_pos hk]
  congr 1
  by_cases c : u < S.wn s ∧ S.latW s u ≤ S.bd s
  · rw [if_pos c, Sp_step c.1 c.2]
    congr 1
    by_cases d : S.setW s w &&& S.setW s u = 0
    · rw [if_pos d, if_pos d, Nat.sub_zero, hosts6 hN hsl hss hw _ _ _ (by rw [Nat.and_comm (S.nodW s w), Nat.and_assoc, Nat.and_self])]
    · rw [if_neg d, if_neg d]
  · rw [if_neg c, Sp_stop]
    by_cases e : S.wn s ≤ u
    · exact .inl e
    · exact .inr (by omega)
theorem rst_0 (hN : S.netOk) (hsl : S.slOk) (hss : s < S.ns) (w : Nat) : S.rst s w 0 0 = S.G s w := by
  by_cases c : w < S.wn s ∧ S.latW s w ≤ S.bd s
  · rw [G_step c.1 c.2]
    unfold St.blk
    by_cases hk : S.kd s = 1
    · rw [rst_u hN hsl hss c.1 c.2 hk, if_pos hk]
    · unfold St.rst
      rw [if_pos c, if_neg hk, if_neg hk, Nat.sub_zero, hosts6 hN hsl hss c.1 _ _ _ (by rw [Nat.and_self])]
  · have : S.rst s w 0 0 = [] := if_neg c
    rw [this, G_stop]
    by_cases e : S.wn s ≤ w
    · exact .inl e
    · exact .inr (by omega)
theorem plist_G : S.plist s = S.G s 0 := rfl
theorem hostsL_step (a u h x : Nat) (hx : x < 6) : hostsL a u h x (6 - x) = (if h.testBit x = true then [placeN a u x] else []) ++ hostsL a u h (x + 1) (6 - (x + 1)) := by
  unfold hostsL
  obtain ⟨n, hn⟩ : ∃ n, 6 - x = n + 1 := ⟨6 - x - 1, by omega⟩
  rw [hn, List.range'_succ, show 6 - (x + 1) = n by omega, List.filter_cons]
  by_cases c : h.testBit x = true
  · simp [c]
  · simp [c]
theorem hostsL_none (a u h x : Nat) (hx : 6 ≤ x) : hostsL a u h x (6 - x) = [] := by
  rw [show 6 - x = 0 by omega]; rfl
end LISTS
/-! the reference goes through the PLACES -/
section ADV
variable {S : St} {s : Nat}
/-- what it knows of a SLICE -/
def AdM (S : St) (s : Nat) (M : IM) : Prop := WaysM S (S.sa s) s (S.wayA (S.sa s) (S.sb s)) M ∧ M 90 s = nI (S.kd s) ∧ M 94 s = nI (S.bd s)
def FrA (s : Nat) (M M' : IM) : Prop := ∀ k j, ¬ (124 ≤ k ∧ k ≤ 127 ∧ j = s) → M' k j = M k j
theorem FrA.refl {M : IM} : FrA s M M := fun _ _ _ => rfl
theorem FrA.trans {A B C : IM} (h : FrA s A B) (h2 : FrA s B C) : FrA s A C := fun k j q => (h2 k j q).trans (h k j q)
theorem AdM.fra {M M' : IM} (h : AdM S s M) (f : FrA s M M') : AdM S s M' := by
  obtain ⟨⟨h1, h2⟩, h3, h4⟩ := h
  exact ⟨⟨by rw [f _ _ (by omega)]; exact h1, fun j hj k q1 q2 => by rw [f _ _ (by omega)]; exact h2 j hj k q1 q2⟩, by rw [f _ _ (by omega)]; exact h3, by rw [f _ _ (by omega)]; exact h4⟩
/-- the PLACE at a cursor, and that it is one -/
def St.at' (S : St) (s w u x : Nat) : Nat := placeN (S.setW s w) (if S.kd s = 1 then S.setW s u else 0) x
def CurOk (S : St) (s w u x : Nat) : Prop := w < S.wn s ∧ x < 6 ∧ (S.nodW s w).testBit x = true ∧ (S.kd s = 1 → u < S.wn s ∧ S.setW s w &&& S.setW s u = 0) ∧ u ≤ S.wn s
def Out (S : St) (s k B : Nat) (L : List Nat) (M : IM) (F : Nat → Nat × Int32 × Int32 × Int32 × IM → Int32 × IM) (O : Nat → Nat × Int32 × Int32 × Int32 × IM → Prop) (st : Nat × Int32 × Int32 × Int32 × IM) : Prop :=
  (L = [] → ∃ M', Ends F O B st (0, M') ∧ FrA s M M') ∧
  (∀ p r, L = p :: r → ∃ M' w u x, Ends F O B st (1, M') ∧ FrA s M M' ∧ M' 124 s = nI w ∧ M' 125 s = nI u ∧ M' 126 s = nI x ∧ M' 127 s = nI k ∧ p = S.at' s w u x ∧ CurOk S s w u x ∧ S.rst s w u (x + 1) = r)
theorem Out.go {k B B' : Nat} {L : List Nat} {M M1 : IM} {F : Nat → Nat × Int32 × Int32 × Int32 × IM → Int32 × IM} {O : Nat → Nat × Int32 × Int32 × Int32 × IM → Prop} {st st' : Nat × Int32 × Int32 × Int32 × IM} (g : Go F O B st st') (f : FrA s M M1) (h : Out S s k B' L M1 F O st') : Out S s k (B + B') L M F O st := by
  refine ⟨fun e => ?_, fun p r e => ?_⟩
  · obtain ⟨M', h1, h2⟩ := h.1 e
    exact ⟨M', g.ends h1, f.trans h2⟩
  · obtain ⟨M', w, u, x, h1, h2, h3⟩ := h.2 p r e
    exact ⟨M', w, u, x, g.ends h1, f.trans h2, h3⟩
theorem Out.le {k B B' : Nat} {L : List Nat} {M : IM} {F : Nat → Nat × Int32 × Int32 × Int32 × IM → Int32 × IM} {O : Nat → Nat × Int32 × Int32 × Int32 × IM → Prop} {st : Nat × Int32 × Int32 × Int32 × IM} (h : Out S s k B L M F O st) (hB : B ≤ B') : Out S s k B' L M F O st := by
  refine ⟨fun e => ?_, fun p r e => ?_⟩
  · obtain ⟨M', h1, h2⟩ := h.1 e
    exact ⟨M', h1.le hB, h2⟩
  · obtain ⟨M', w, u, x, h1, h2⟩ := h.2 p r e
    exact ⟨M', w, u, x, h1.le hB, h2⟩
abbrev aF (s : Nat) : Nat → Nat × Int32 × Int32 × Int32 × IM → Int32 × IM := fun n t => jX12_advanceI (nI s) n t.1 t.2.1 t.2.2.1 t.2.2.2.1 t.2.2.2.2
abbrev aO (s : Nat) : Nat → Nat × Int32 × Int32 × Int32 × IM → Prop := fun n t => jX12_advanceO (nI s) n t.1 t.2.1 t.2.2.1 t.2.2.2.1 t.2.2.2.2
def mu (w u x : Nat) : Nat := ((28 - w) * 28 + (28 - u)) * 9 + (6 - x)
theorem adv_core (hN : S.netOk) (hsl : S.slOk) (hss : s < S.ns) (k : Nat) : ∀ m,
    (∀ (w u x : Nat) (M : IM), mu w u x ≤ m → AdM S s M → M 124 s = nI w → M 125 s = nI u → M 126 s = nI x → M 127 s + 1 = nI k → w < S.wn s → S.latW s w ≤ S.bd s → u ≤ S.wn s → x ≤ 6 →
      (S.kd s = 1 → ¬ (u < S.wn s ∧ S.latW s u ≤ S.bd s) → ∀ v6, Out S s k (2 * m + 1) (S.rst s w u x) M (aF s) (aO s) (1, 1, 0, v6, M)) ∧
      (∀ v2 v6 : Nat, v2 = (if S.kd s = 1 then 1 else 0) → (S.kd s = 1 → u < S.wn s ∧ S.latW s u ≤ S.bd s) → v6 = (if S.kd s = 1 then (if S.setW s w &&& S.setW s u = 0 then S.nodW s w &&& S.nodW s u else 0) else S.nodW s w) → Out S s k (2 * m + 1) (S.rst s w u x) M (aF s) (aO s) (1, nI v2, 1, nI v6, M))) ∧
    (∀ (w u x : Nat) (M : IM) (v5 v6 : Int32) (v2 : Nat), mu w u x ≤ m → AdM S s M → M 124 s = nI w → M 125 s = nI u → M 126 s = nI x → M 127 s + 1 = nI k → w ≤ S.wn s → u ≤ S.wn s → x ≤ 6 → v2 = (if S.kd s = 1 then 1 else 0) → Out S s k (2 * m + 2) (S.rst s w u x) M (aF s) (aO s) (0, nI v2, v5, v6, M)) := by
  have h8 := hsl.1
  have h27 : S.wn s ≤ 27 := wayA_27 hN _ _
  have hkd := (hsl.2.1 s hss).1
  have hbd := (hsl.2.1 s hss).2.2.2.2.2.2.2.1
  have v8 : vp_in (nI s) 8 := (vp_nI (by omega)).mpr (by omega)
  have v9 : vp_in (nI s) 9 := (vp_nI (by omega)).mpr (by omega)
  have z10 : ¬ (1 : Int32) = 0 := by decide
  have ix : ∀ j, (256 : Int32) * nI s + nI j = nI (256 * s + j) := fun j => by rw [li256, nI_mul, nI_add]
  intro m
  induction m with
  | zero =>
    refine ⟨fun w u x M hm _ _ _ _ _ hw _ hu _ => ?_, fun w u x M v5 v6 v2 hm _ _ _ _ _ hw hu _ _ => ?_⟩
    · exact absurd hm (by unfold mu; omega)
    · exact absurd hm (by unfold mu; omega)
  | succ m ih =>
    obtain ⟨ih1, ih0⟩ := ih
    have P1 : ∀ (w u x : Nat) (M : IM), mu w u x ≤ m + 1 → AdM S s M → M 124 s = nI w → M 125 s = nI u → M 126 s = nI x → M 127 s + 1 = nI k → w < S.wn s → S.latW s w ≤ S.bd s → u ≤ S.wn s → x ≤ 6 →
      (S.kd s = 1 → ¬ (u < S.wn s ∧ S.latW s u ≤ S.bd s) → ∀ v6, Out S s k (2 * (m + 1) + 1) (S.rst s w u x) M (aF s) (aO s) (1, 1, 0, v6, M)) ∧
      (∀ v2 v6 : Nat, v2 = (if S.kd s = 1 then 1 else 0) → (S.kd s = 1 → u < S.wn s ∧ S.latW s u ≤ S.bd s) → v6 = (if S.kd s = 1 then (if S.setW s w &&& S.setW s u = 0 then S.nodW s w &&& S.nodW s u else 0) else S.nodW s w) → Out S s k (2 * (m + 1) + 1) (S.rst s w u x) M (aF s) (aO s) (1, nI v2, 1, nI v6, M)) := by
      intro w u x M hm hA e4 e5 e6 e7 hw hl hu hx
      obtain ⟨-, -, w3, w4, -, -⟩ := way_facts hN hsl hss hw
      -- on to the next WAY
      have nextW : FrA s M (up2 (up2 (up2 M 126 s 0) 124 s (nI (w + 1))) 125 s 0) := fun a b q => by
        rw [up2_ap, if_neg (by omega), up2_ap, if_neg (by omega), up2_ap, if_neg (by omega)]
      have cW : ∀ v2, v2 = (if S.kd s = 1 then 1 else 0) → Out S s k (2 * m + 2) (S.G s (w + 1)) (up2 (up2 (up2 M 126 s 0) 124 s (nI (w + 1))) 125 s 0) (aF s) (aO s) (0, nI v2, 0, 0, up2 (up2 (up2 M 126 s 0) 124 s (nI (w + 1))) 125 s 0) := fun v2 hv => by
        rw [← rst_0 hN hsl hss]
        refine ih0 (w + 1) 0 0 _ 0 0 v2 (by unfold mu at hm ⊢; omega) (hA.fra nextW) ?_ ?_ ?_ ?_ (by omega) (by omega) (by omega) hv
        · rw [up2_ap, if_neg (by omega), up2_at]
        · rw [up2_at]; rfl
        · rw [up2_ap, if_neg (by omega), up2_ap, if_neg (by omega), up2_at]; rfl
        · rw [up2_ap, if_neg (by omega), up2_ap, if_neg (by omega), up2_ap, if_neg (by omega)]; exact e7
      refine ⟨fun hk hn v6 => ?_, fun v2 v6 hv2 hu2 hv6 => ?_⟩
      · have hr : S.rst s w u x = S.G s (w + 1) := by
          unfold St.rst
          rw [if_pos ⟨hw, hl⟩, if_pos hk, if_neg hn, List.nil_append]
        rw [hr]
        have := cW 1 (by rw [if_pos hk])
        refine (Out.go (Go.one fun n => ?_) nextW this).le (by omega)
        dsimp only [aF, aO]
        rw [jX12_advanceO_191, jX12_advanceI_191, nI_clamp (by omega), e4, nI_1]
        have z : ¬ (1 : Int32) = 0 := by decide
        simp only [eq_true v8, eq_false z, ↓reduceIte, not_true_eq_false, not_false_eq_true, true_imp_iff, false_imp_iff, implies_true, and_true, true_and, eq_self]
        first | exact id | exact ⟨id, rfl⟩
      · have hv6' : v6 < 64 := by
          rw [hv6]
          by_cases hk : S.kd s = 1
          · rw [if_pos hk]
            split
            · exact Nat.lt_of_le_of_lt Nat.and_le_left w4
            · omega
          · rw [if_neg hk]; exact w4
        -- the HOSTS here, and what is behind them
        have hr : ∀ y, S.rst s w u y = hostsL (S.setW s w) (if S.kd s = 1 then S.setW s u else 0) v6 y (6 - y) ++ (if S.kd s = 1 then S.Sp s w (u + 1) ++ S.G s (w + 1) else S.G s (w + 1)) := fun y => by
          unfold St.rst
          rw [if_pos ⟨hw, hl⟩, hv6]
          by_cases hk : S.kd s = 1
          · rw [if_pos hk, if_pos hk, if_pos hk, if_pos hk, if_pos (hu2 hk), ← List.append_assoc]
            congr 2
            by_cases d : S.setW s w &&& S.setW s u = 0
            · rw [if_pos d, if_pos d]
            · rw [if_neg d, if_neg d]
              unfold hostsL
              simp
          · rw [if_neg hk, if_neg hk, if_neg hk, if_neg hk]
        by_cases c6 : 6 ≤ x
        · have c6' : (6 : Int32) ≤ M 126 s := by rw [e6, li6]; exact nI_le c6 (by omega)
          rw [hr, hostsL_none _ _ _ _ c6, List.nil_append]
          by_cases hk : S.kd s = 1
          · rw [if_pos hk]
            rw [if_pos hk] at hv2
            subst hv2
            have fr : FrA s M (up2 (up2 M 126 s 0) 125 s (nI (u + 1))) := fun a b q => by
              rw [up2_ap, if_neg (by omega), up2_ap, if_neg (by omega)]
            have hu3 := hu2 hk
            have := ih0 (w) (u + 1) 0 (up2 (up2 M 126 s 0) 125 s (nI (u + 1))) 0 0 1 (by unfold mu at hm ⊢; omega) (hA.fra fr) (by rw [up2_ap, if_neg (by omega), up2_ap, if_neg (by omega)]; exact e4) (by rw [up2_at]) (by rw [up2_ap, if_neg (by omega), up2_at]; rfl) (by rw [up2_ap, if_neg (by omega), up2_ap, if_neg (by omega)]; exact e7) (by omega) (by omega) (by omega) (by rw [if_pos hk])
            rw [rst_u hN hsl hss hw hl hk] at this
            refine (Out.go (Go.one fun n => ?_) fr this).le (by omega)
            dsimp only [aF, aO]
            rw [jX12_advanceO_191, jX12_advanceI_191, nI_clamp (by omega), e5, nI_1]
            have z : ¬ nI 1 = 0 := by decide
            simp only [eq_true v8, eq_false z10, eq_false z, eq_true c6', ↓reduceIte, not_true_eq_false, not_false_eq_true, true_imp_iff, false_imp_iff, implies_true, and_true, true_and, eq_self]
            first | exact id | exact ⟨id, rfl⟩
          · rw [if_neg hk]
            rw [if_neg hk] at hv2
            subst hv2
            have := cW 0 (by rw [if_neg hk])
            refine (Out.go (Go.one fun n => ?_) nextW this).le (by omega)
            dsimp only [aF, aO]
            rw [jX12_advanceO_191, jX12_advanceI_191, nI_clamp (by omega), e4, nI_1]
            have z : nI 0 = 0 := rfl
            simp only [eq_true v8, eq_false z10, eq_true z, eq_true c6', ↓reduceIte, not_true_eq_false, not_false_eq_true, true_imp_iff, false_imp_iff, implies_true, and_true, true_and, eq_self]
            first | exact id | exact ⟨id, rfl⟩
        · have c6' : ¬ (6 : Int32) ≤ M 126 s := by rw [e6, li6]; exact nI_ge (by omega) (by omega)
          have hb := hs_nI (n := v6) (k := x) (by omega) (by omega)
          by_cases c7 : v6.testBit x = true
          · have c7' : hs (nI v6) (M 126 s) := by rw [e6]; exact hb.mpr c7
            refine ⟨fun e => ?_, fun p r e => ?_⟩
            · rw [hr, hostsL_step _ _ _ _ (by omega), if_pos c7] at e
              cases e
            · have hrx := hr x
              rw [hostsL_step _ _ _ _ (by omega), if_pos c7] at hrx
              rw [hrx] at e
              have e1 : p = placeN (S.setW s w) (if S.kd s = 1 then S.setW s u else 0) x := by
                have := List.cons.inj e
                exact this.1.symm
              have e2 : S.rst s w u (x + 1) = r := by
                rw [hr (x + 1)]
                exact (List.cons.inj e).2
              refine ⟨up2 M 127 s (M 127 s + 1), w, u, x, (Ends.one fun n => ?_).le (by omega), fun a b q => by rw [up2_ap, if_neg (by omega)], by rw [up2_ap, if_neg (by omega)]; exact e4, by rw [up2_ap, if_neg (by omega)]; exact e5, by rw [up2_ap, if_neg (by omega)]; exact e6, by rw [up2_at]; exact e7, e1, ⟨hw, by omega, ?_, fun hk => ⟨(hu2 hk).1, ?_⟩, hu⟩, e2⟩
              · dsimp only [aF, aO]
                rw [jX12_advanceO_191, jX12_advanceI_191, nI_clamp (by omega)]
                simp only [eq_true v8, eq_false z10, eq_false c6', eq_true c7', ↓reduceIte, not_true_eq_false, not_false_eq_true, true_imp_iff, false_imp_iff, implies_true, and_true, true_and, eq_self]
              · rw [hv6] at c7
                by_cases hk : S.kd s = 1
                · rw [if_pos hk] at c7
                  split at c7
                  · rw [Nat.testBit_and, Bool.and_eq_true] at c7; exact c7.1
                  · simp at c7
                · rw [if_neg hk] at c7; exact c7
              · rw [hv6, if_pos hk] at c7
                by_cases d : S.setW s w &&& S.setW s u = 0
                · exact d
                · rw [if_neg d] at c7; simp at c7
          · have c7' : ¬ hs (nI v6) (M 126 s) := by rw [e6]; exact mt hb.mp c7
            have fr : FrA s M (up2 M 126 s (nI (x + 1))) := fun a b q => by rw [up2_ap, if_neg (by omega)]
            have hrr : S.rst s w u x = S.rst s w u (x + 1) := by
              rw [hr x, hr (x + 1), hostsL_step _ _ _ _ (by omega), if_neg c7, List.nil_append]
            rw [hrr]
            have := (ih1 w u (x + 1) (up2 M 126 s (nI (x + 1))) (by unfold mu at hm ⊢; omega) (hA.fra fr) (by rw [up2_ap, if_neg (by omega)]; exact e4) (by rw [up2_ap, if_neg (by omega)]; exact e5) (by rw [up2_at]) (by rw [up2_ap, if_neg (by omega)]; exact e7) hw hl hu (by omega)).2 v2 v6 hv2 hu2 hv6
            refine (Out.go (Go.one fun n => ?_) fr this).le (by omega)
            dsimp only [aF, aO]
            rw [jX12_advanceO_191, jX12_advanceI_191, nI_clamp (by omega)]
            simp only [eq_true v8, eq_false z10, eq_false c6', eq_false c7', ↓reduceIte, not_true_eq_false, not_false_eq_true, true_imp_iff, false_imp_iff, implies_true, and_true, true_and, eq_self]
            rw [e6, nI_1]
            first | exact id | exact ⟨id, rfl⟩
    refine ⟨P1, fun w u x M v5 v6 v2 hm hA e4 e5 e6 e7 hw hu hx hv2 => ?_⟩
    have h115 : M 115 s = nI (S.wn s) := hA.1.1
    by_cases cw : S.wn s ≤ w
    · have hr : S.rst s w u x = [] := if_neg (fun q => by omega)
      rw [hr]
      refine ⟨fun _ => ⟨M, (Ends.one fun n => ?_).le (by omega), FrA.refl⟩, fun p r e => by cases e⟩
      dsimp only [aF, aO]
      rw [jX12_advanceO_26, jX12_advanceI_26, nI_clamp (by omega), h115, e4]
      simp (disch := omega) only [nI_leI, eq_true cw, eq_true v8, eq_true v9, ↓reduceIte, not_true_eq_false, not_false_eq_true, true_imp_iff, false_imp_iff, implies_true, and_true, true_and, eq_self]
    · have hw' : w < S.wn s := by omega
      obtain ⟨-, -, w3, w4, -, w6⟩ := way_facts hN hsl hss hw'
      have r8 : M 118 (256 * s + w) = nI (S.latW s w) := hA.1.2 w hw' 118 (by omega) (by omega)
      have r9 : M 119 (256 * s + w) = nI (S.setW s w) := hA.1.2 w hw' 119 (by omega) (by omega)
      have r0 : M 120 (256 * s + w) = nI (S.nodW s w) := hA.1.2 w hw' 120 (by omega) (by omega)
      have vw : vp_in (nI (256 * s + w)) 2304 := (vp_nI (by omega)).mpr (by omega)
      by_cases cl : S.bd s < S.latW s w
      · have hr : S.rst s w u x = [] := if_neg (fun q => by omega)
        rw [hr]
        refine ⟨fun _ => ⟨M, (Ends.one fun n => ?_).le (by omega), FrA.refl⟩, fun p r e => by cases e⟩
        dsimp only [aF, aO]
        rw [jX12_advanceO_26, jX12_advanceI_26, nI_clamp (n := s) (by omega), h115, e4, ix, nI_clamp (by omega), r8, hA.2.2]
        simp (disch := omega) only [nI_leI, nI_ltI, eq_false cw, eq_true cl, eq_true v8, eq_true v9, eq_true vw, ↓reduceIte, not_true_eq_false, not_false_eq_true, true_imp_iff, false_imp_iff, implies_true, and_true, true_and, eq_self]
      · have hl : S.latW s w ≤ S.bd s := by omega
        obtain ⟨Q1, Q2⟩ := P1 w u x M hm hA e4 e5 e6 e7 hw' hl hu hx
        by_cases hk : S.kd s = 1
        · rw [if_pos hk] at hv2
          subst hv2
          have z : ¬ nI 1 = 0 := by decide
          by_cases cu : S.wn s ≤ u
          · have := Q1 hk (fun q => by omega) (nI (S.nodW s w))
            refine (Out.go (Go.one fun n => ?_) FrA.refl this).le (by omega)
            dsimp only [aF, aO]
            rw [jX12_advanceO_26, jX12_advanceI_26, nI_clamp (n := s) (by omega), h115, e4, e5, ix, ix, nI_clamp (n := 256 * s + w) (by omega), r8, hA.2.2, r0]
            simp (disch := omega) only [nI_leI, nI_ltI, eq_false cw, eq_false cl, eq_false z, eq_true cu, eq_true v8, eq_true v9, eq_true vw, ↓reduceIte, not_true_eq_false, not_false_eq_true, true_imp_iff, false_imp_iff, implies_true, and_true, true_and, eq_self]
            first | exact id | exact ⟨id, rfl⟩
          · have hu' : u < S.wn s := by omega
            obtain ⟨-, -, u3, u4, -, u6⟩ := way_facts hN hsl hss hu'
            have s8 : M 118 (256 * s + u) = nI (S.latW s u) := hA.1.2 u hu' 118 (by omega) (by omega)
            have s9 : M 119 (256 * s + u) = nI (S.setW s u) := hA.1.2 u hu' 119 (by omega) (by omega)
            have s0 : M 120 (256 * s + u) = nI (S.nodW s u) := hA.1.2 u hu' 120 (by omega) (by omega)
            have vu : vp_in (nI (256 * s + u)) 2304 := (vp_nI (by omega)).mpr (by omega)
            by_cases cv : S.bd s < S.latW s u
            · have := Q1 hk (fun q => by omega) (nI (S.nodW s w))
              refine (Out.go (Go.one fun n => ?_) FrA.refl this).le (by omega)
              dsimp only [aF, aO]
              rw [jX12_advanceO_26, jX12_advanceI_26, nI_clamp (n := s) (by omega), h115, e4, e5, ix, ix, nI_clamp (n := 256 * s + w) (by omega), nI_clamp (n := 256 * s + u) (by omega), r8, s8, hA.2.2, r0]
              simp (disch := omega) only [nI_leI, nI_ltI, eq_false cw, eq_false cl, eq_false z, eq_false cu, eq_true cv, eq_true v8, eq_true v9, eq_true vw, eq_true vu, ↓reduceIte, not_true_eq_false, not_false_eq_true, true_imp_iff, false_imp_iff, implies_true, and_true, true_and, eq_self]
              first | exact id | exact ⟨id, rfl⟩
            · have zz : (nI (S.setW s w) &&& nI (S.setW s u) = 0) = (S.setW s w &&& S.setW s u = 0) := propext (and0 (by omega))
              by_cases cd : S.setW s w &&& S.setW s u = 0
              · have := Q2 1 (S.nodW s w &&& S.nodW s u) (by rw [if_pos hk]) (fun _ => ⟨hu', by omega⟩) (by rw [if_pos hk, if_pos cd])
                refine (Out.go (Go.one fun n => ?_) FrA.refl this).le (by omega)
                dsimp only [aF, aO]
                rw [jX12_advanceO_26, jX12_advanceI_26, nI_clamp (n := s) (by omega), h115, e4, e5, ix, ix, nI_clamp (n := 256 * s + w) (by omega), nI_clamp (n := 256 * s + u) (by omega), r8, s8, hA.2.2, r0, s0, r9, s9, and_nI (S.nodW s w)]
                simp (disch := omega) only [nI_leI, nI_ltI, eq_false cw, eq_false cl, eq_false z, eq_false cu, eq_false cv, zz, eq_true cd, eq_true v8, eq_true v9, eq_true vw, eq_true vu, ↓reduceIte, not_true_eq_false, not_false_eq_true, true_imp_iff, false_imp_iff, implies_true, and_true, true_and, eq_self]
                first | exact id | exact ⟨id, rfl⟩
              · have := Q2 1 0 (by rw [if_pos hk]) (fun _ => ⟨hu', by omega⟩) (by rw [if_pos hk, if_neg cd])
                refine (Out.go (Go.one fun n => ?_) FrA.refl this).le (by omega)
                dsimp only [aF, aO]
                rw [jX12_advanceO_26, jX12_advanceI_26, nI_clamp (n := s) (by omega), h115, e4, e5, ix, ix, nI_clamp (n := 256 * s + w) (by omega), nI_clamp (n := 256 * s + u) (by omega), r8, s8, hA.2.2, r9, s9]
                simp (disch := omega) only [nI_leI, nI_ltI, eq_false cw, eq_false cl, eq_false z, eq_false cu, eq_false cv, zz, eq_false cd, eq_true v8, eq_true v9, eq_true vw, eq_true vu, ↓reduceIte, not_true_eq_false, not_false_eq_true, true_imp_iff, false_imp_iff, implies_true, and_true, true_and, eq_self]
                first | exact id | exact ⟨id, rfl⟩
        · rw [if_neg hk] at hv2
          subst hv2
          have z : nI 0 = 0 := rfl
          have := Q2 0 (S.nodW s w) (by rw [if_neg hk]) (fun q => absurd q hk) (by rw [if_neg hk])
          refine (Out.go (Go.one fun n => ?_) FrA.refl this).le (by omega)
          dsimp only [aF, aO]
          rw [jX12_advanceO_26, jX12_advanceI_26, nI_clamp (n := s) (by omega), h115, e4, ix, nI_clamp (n := 256 * s + w) (by omega), r8, hA.2.2, r0]
          simp (disch := omega) only [nI_leI, nI_ltI, eq_false cw, eq_false cl, eq_true z, eq_true v8, eq_true v9, eq_true vw, ↓reduceIte, not_true_eq_false, not_false_eq_true, true_imp_iff, false_imp_iff, implies_true, and_true, true_and, eq_self]
          first | exact id | exact ⟨id, rfl⟩
end ADV
end
