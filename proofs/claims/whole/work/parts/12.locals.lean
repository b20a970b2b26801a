/-! locals -/
def plv (ad : Nat → Nat) (ls : List (Option Value)) : List (Nat × Value) := (List.range ls.length).filterMap (fun j => (ls[j]?.join).map (fun v => (j, trv ad v)))
theorem plv_mem {ad : Nat → Nat} {ls : List (Option Value)} {q : Nat × Value} : q ∈ plv ad ls ↔ ∃ v, ls[q.1]? = some (some v) ∧ q.2 = trv ad v := by
  unfold plv
  rw [List.mem_filterMap]
  constructor
  · rintro ⟨j, hj, h⟩
    cases hx : ls[j]? with
    | none => rw [hx] at h; simp at h
    | some o =>
      cases o with
      | none => rw [hx] at h; simp at h
      | some v =>
        rw [hx] at h
        simp at h
        subst h
        exact ⟨v, hx, rfl⟩
  · rintro ⟨v, h1, h2⟩
    refine ⟨q.1, List.mem_range.mpr (List.getElem?_eq_some_iff.mp h1).1, ?_⟩
    rw [h1]
    simp [← h2]
theorem lvO.toHas {LS : Array Slot} {nL n : Nat} {ls : List (Option Value)} {ad : Nat → Nat} (h : lvO LS nL ls ad n) : lv_has LS nL (plv ad ls) := by
  refine ⟨h.1, h.2.1, fun q hq => ?_⟩
  obtain ⟨v, h1, h2⟩ := plv_mem.mp hq
  rw [h2]
  exact (h.2.2.2 _ _ h1).1
theorem lvO.ofHas {LS LS' : Array Slot} {nL n i : Nat} {ls : List (Option Value)} {ad : Nat → Nat} {v : Value} (h : lvO LS nL ls ad n) (hi : i < ls.length) (hc : v.category = 1) (hv : vOK n v) (h' : lv_has LS' nL ((i, trv ad v) :: (plv ad ls).filter (fun q => !(q.1 == i) && !(q.1 + 1 == i && q.2.category == 2)))) : lvO LS' nL (ls.set i (some v)) ad n := by
  refine ⟨h'.1, h'.2.1, by rw [List.length_set]; exact h.2.2.1, fun j w hj => ?_⟩
  rw [List.getElem?_set] at hj
  by_cases e : i = j
  · rw [if_pos e, if_pos (by omega)] at hj
    have : w = v := (Option.some.inj (Option.some.inj hj)).symm
    subst this
    subst e
    exact ⟨h'.2.2 _ List.mem_cons_self, hc, hv⟩
  · rw [if_neg e] at hj
    have h1 := h.2.2.2 j w hj
    refine ⟨h'.2.2 (j, trv ad w) (List.mem_cons_of_mem _ (List.mem_filter.mpr ⟨plv_mem.mpr ⟨w, hj, rfl⟩, ?_⟩)), h1.2⟩
    have e2 : (j == i) = false := by simp; omega
    have e3 : (trv ad w).category = 1 := (trv_cat ad w).trans h1.2.1
    simp [e2, e3]
theorem lvO.ad {LS : Array Slot} {nL n n' : Nat} {ls : List (Option Value)} {ad ad' : Nat → Nat} (h : lvO LS nL ls ad n) (hn : n ≤ n') (ha : ∀ k, k < n → ad' k = ad k) : lvO LS nL ls ad' n' := by
  refine ⟨h.1, h.2.1, h.2.2.1, fun i v hi => ?_⟩
  obtain ⟨h1, h2, h3⟩ := h.2.2.2 i v hi
  exact ⟨by rw [trv_eq ha h3]; exact h1, h2, h3.mono hn⟩
section JL
variable {d : Nat} {M : Mth} {Post : Pst} {C S pc c sl : Nat} {ls ls' : List (Option Value)} {st : List Value} {T : Topo} {I : IM}
theorem J.istore_n {n : Fin 4} {i : Nat} {x : Int32} (hd : decode M.2.1 pc = .ok (.istore_n n, 1)) (hi : (n : Nat) = i) (hn : Nat.ble (i + 1) ls.length = true) (hs : ls.set i (some (.int x)) = ls')
    (k : J d M Post C S (pc + 1) ls' st T I c sl) : J d M Post C S pc ls (.int x :: st) T I c sl := by
  subst hs
  intro p l e s m args below meth cd G ab T0 ad0 ad ca H locs LS F D hl hv
  have hn' : i < ls.length := Nat.le_of_ble_eq_true hn
  exact lv_istore_n F.1 F.2.1 hd hi hl.toHas (by rw [← hl.2.2.1]; exact hn') rfl (fun LS' h' => k p l e s m args below meth cd G ab T0 ad0 ad ca H locs LS' F D (hl.ofHas (v := .int x) hn' rfl trivial h') (vs_t hv))
theorem J.istore {i : Nat} {x : Int32} (hd : decode M.2.1 pc = .ok (.istore i, 2)) (hn : Nat.ble (i + 1) ls.length = true) (hs : ls.set i (some (.int x)) = ls')
    (k : J d M Post C S (pc + 2) ls' st T I c sl) : J d M Post C S pc ls (.int x :: st) T I c sl := by
  subst hs
  intro p l e s m args below meth cd G ab T0 ad0 ad ca H locs LS F D hl hv
  have hn' : i < ls.length := Nat.le_of_ble_eq_true hn
  exact lv_istore F.1 F.2.1 hd hl.toHas (by rw [← hl.2.2.1]; exact hn') rfl (fun LS' h' => k p l e s m args below meth cd G ab T0 ad0 ad ca H locs LS' F D (hl.ofHas (v := .int x) hn' rfl trivial h') (vs_t hv))
theorem J.astore_n {n : Fin 4} {i : Nat} {x : Nat} (hd : decode M.2.1 pc = .ok (.astore_n n, 1)) (hi : (n : Nat) = i) (hn : Nat.ble (i + 1) ls.length = true) (hs : ls.set i (some (.ref x)) = ls')
    (k : J d M Post C S (pc + 1) ls' st T I c sl) : J d M Post C S pc ls (.ref x :: st) T I c sl := by
  subst hs
  intro p l e s m args below meth cd G ab T0 ad0 ad ca H locs LS F D hl hv
  have hn' : i < ls.length := Nat.le_of_ble_eq_true hn
  exact lv_astore_n F.1 F.2.1 hd hi hl.toHas (by rw [← hl.2.2.1]; exact hn') rfl (fun LS' h' => k p l e s m args below meth cd G ab T0 ad0 ad ca H locs LS' F D (hl.ofHas (v := .ref x) hn' rfl (vs_h hv) h') (vs_t hv))
theorem J.astore {i : Nat} {x : Nat} (hd : decode M.2.1 pc = .ok (.astore i, 2)) (hn : Nat.ble (i + 1) ls.length = true) (hs : ls.set i (some (.ref x)) = ls')
    (k : J d M Post C S (pc + 2) ls' st T I c sl) : J d M Post C S pc ls (.ref x :: st) T I c sl := by
  subst hs
  intro p l e s m args below meth cd G ab T0 ad0 ad ca H locs LS F D hl hv
  have hn' : i < ls.length := Nat.le_of_ble_eq_true hn
  exact lv_astore F.1 F.2.1 hd hl.toHas (by rw [← hl.2.2.1]; exact hn') rfl (fun LS' h' => k p l e s m args below meth cd G ab T0 ad0 ad ca H locs LS' F D (hl.ofHas (v := .ref x) hn' rfl (vs_h hv) h') (vs_t hv))
theorem J.iinc {i : Nat} {n : Int} {x v : Int32} (hd : decode M.2.1 pc = .ok (.iinc i n, 3)) (hx : ls[i]? = some (some (.int x))) (hv : x + Int32.ofInt n = v) (hs : ls.set i (some (.int v)) = ls')
    (k : J d M Post C S (pc + 3) ls' st T I c sl) : J d M Post C S pc ls st T I c sl := by
  subst hs
  intro p l e s m args below meth cd G ab T0 ad0 ad ca H locs LS F D hl hst
  have hn' : i < ls.length := (List.getElem?_eq_some_iff.mp hx).1
  obtain ⟨q, hq⟩ := List.getElem?_of_mem (plv_mem (ad := ad) (ls := ls) (q := (i, .int x)) |>.mpr ⟨.int x, hx, rfl⟩)
  exact lv_iinc F.1 F.2.1 hd hl.toHas hq hv (by rw [← hl.2.2.1]; exact hn') rfl (fun LS' h' => k p l e s m args below meth cd G ab T0 ad0 ad ca H locs LS' F D (hl.ofHas (v := .int v) hn' rfl trivial h') hst)
end JL
