section JJ
variable {d : Nat} {M : Mth} {Post : Pst} {C S pc c sl : Nat} {ls : List (Option Value)} {st : List Value} {T : Topo} {I : IM}
theorem Ct.ofJF {vs : List Value} {mc ms : Nat} (hy : plainFor M.1 = true) (hlen : Nat.ble vs.length M.2.2.1 = true) (hcat : ∀ v ∈ vs, v.category = 1) (hls : ls = vs.map some ++ List.replicate (M.2.2.1 - vs.length) none) (h : J d M Post mc ms 0 ls [] T I 0 0) : Ct d M vs T I mc ms Post := by
  subst hls
  intro l G ab ad ca sz
  refine va_MetF (cc := M.2.1) (maxL := M.2.2.1) (ret := M.2.2.2) hy rfl ?_
  intro p e s m args below meth cd s₁ B hml hv
  obtain ⟨rfl, hsz, hP, hD, hK, hA, hR, hAb, hN, hvs⟩ := hv
  subst hsz
  have hlen' : vs.length ≤ M.2.2.1 := Nat.le_of_ble_eq_true hlen
  have hcat' : ∀ v ∈ vs.map (trv ad), v.category = 1 := by
    intro v hm
    obtain ⟨w, hw, rfl⟩ := List.mem_map.mp hm
    exact (trv_cat ad w).trans (hcat w hw)
  have e1 : lg_sl (vs.map (trv ad)) = (vs.map (trv ad)).map Slot.val := lg_sl_1 _ hcat'
  have hle := lv_entry (vs.map (trv ad)) (n := M.2.2.1) (by rw [e1]; simpa using hlen')
  rw [lg_entry_eq]
  have hfin := h p l e s m (vs.map (trv ad)).toArray below meth cd G ab T ad ad ca s.heap [] ((lg_sl (vs.map (trv ad)) ++ List.replicate (M.2.2.1 - (lg_sl (vs.map (trv ad))).length) Slot.unset).toArray)
    ⟨B.exec, B.bytes, hml, findClass_of_methodNamed B.named, atoms_spec (ws := wd M) B.pre, B.returns, B.notSynchronized, (name_of_methodNamed B.named B.method).1, hN, hAb, fun q h => Or.inr h⟩
    ⟨hP, hD.weaken (fun k q hq _ => Or.inl ⟨k, (cW_of hq).1, by rw [(cW_of hq).2]⟩), hK, hA, hR, va_S.rf, Nat.le_refl _, fun _ _ => rfl⟩
    ⟨hle.1, hle.2.1, by simp; omega, fun i v hi => ?_⟩ (fun v hv => by cases hv)
  · exact hfin
  · have hi' : i < vs.length := by
      rcases Nat.lt_or_ge i vs.length with q | q
      · exact q
      · rw [List.getElem?_append_right (by simpa using q)] at hi
        have := List.mem_of_getElem? hi
        rw [List.mem_replicate] at this
        cases this.2
    rw [List.getElem?_append_left (by simpa using hi'), List.getElem?_map] at hi
    cases hx : vs[i]? with
    | none => rw [hx] at hi; cases hi
    | some w =>
      rw [hx] at hi
      cases hi
      refine ⟨?_, hcat v (List.mem_of_getElem? hx), hvs v (List.mem_of_getElem? hx)⟩
      rw [e1]
      rw [← Array.getElem?_toList]
      simp only [List.toList_toArray]
      rw [List.getElem?_append_left (by simpa using hi')]
      simp [hx]
theorem J.callVD {M' : Mth} {n idx d' : Nat} {k : Nat} {as rest : List Value} {κ : Nat} {q : vw_C} {mem : IM} (hd : decode M.2.1 pc = .ok (.invokevirtual idx, 3)) (hy : yOK M' n) (hvm : vMeth M') (hlk : mLk M.1.cls idx M'.1) (hκ : tK T k = κ) (hq : vwCl[κ]? = some q) (hqC : q.1 = M'.1.cls) (hst : st = as.reverse ++ .ref k :: rest) (hn : as.length = n) (hrest : Nat.ble ((rest.map fun v => v.category).sum) 8 = true) (hdep : d' + 1 ≤ d) (hc : c ≤ C) (hs : sl ≤ S) (hM : CtV d' M' (.ref k :: as) T I (fun J_ => J_ = mem)) (kk : J d M Post C S (pc + 3) ls rest T mem c sl) : J d M Post C S pc ls st T I c sl :=
  J.callVV hd hy hvm hlk hκ hq hqC hst hn hrest hdep hc hs hM (fun I' h => by subst h; exact kk)
theorem J.callSD {M' : Mth} {n idx d' : Nat} {as rest : List Value} {mem : IM} (hd : decode M.2.1 pc = .ok (.invokestatic idx, 3)) (hy : yOK M' n) (hvm : sMeth M') (hlk : mLk M.1.cls idx M'.1) (hst : st = as.reverse ++ rest) (hn : as.length = n) (hrest : Nat.ble ((rest.map fun v => v.category).sum) 8 = true) (hdep : d' + 1 ≤ d) (hc : c ≤ C) (hs : sl ≤ S) (hM : CtV d' M' as T I (fun J_ => J_ = mem)) (kk : J d M Post C S (pc + 3) ls rest T mem c sl) : J d M Post C S pc ls st T I c sl :=
  J.callS hd hy hvm hlk hst hn hrest hdep hc hs hM (fun r T' I' h => by obtain ⟨rfl, rfl, h⟩ := h; subst h; exact kk)
theorem J.callVE {M' : Mth} {n idx d' : Nat} {k : Nat} {as rest : List Value} {κ : Nat} {q : vw_C} {v : Int32} {mem : IM} (hd : decode M.2.1 pc = .ok (.invokevirtual idx, 3)) (hy : yOK M' n) (hvm : vMeth M') (hlk : mLk M.1.cls idx M'.1) (hκ : tK T k = κ) (hq : vwCl[κ]? = some q) (hqC : q.1 = M'.1.cls) (hst : st = as.reverse ++ .ref k :: rest) (hn : as.length = n) (hrest : Nat.ble ((rest.map fun v => v.category).sum) 8 = true) (hdep : d' + 1 ≤ d) (hc : c ≤ C) (hs : sl ≤ S) (hM : CtI d' M' (.ref k :: as) T I (fun x_ J_ => x_ = v ∧ J_ = mem)) (kk : J d M Post C S (pc + 3) ls (.int v :: rest) T mem c sl) : J d M Post C S pc ls st T I c sl :=
  J.callVI hd hy hvm hlk hκ hq hqC hst hn hrest hdep hc hs hM (fun x I' h => by obtain ⟨h1, h2⟩ := h; subst h1; subst h2; exact kk)
theorem J.callVG {M' : Mth} {n idx d' : Nat} {k : Nat} {as rest : List Value} {κ : Nat} {q : vw_C} {r : Nat} {mem : IM} (hd : decode M.2.1 pc = .ok (.invokevirtual idx, 3)) (hy : yOK M' n) (hvm : vMeth M') (hlk : mLk M.1.cls idx M'.1) (hκ : tK T k = κ) (hq : vwCl[κ]? = some q) (hqC : q.1 = M'.1.cls) (hst : st = as.reverse ++ .ref k :: rest) (hn : as.length = n) (hrest : Nat.ble ((rest.map fun v => v.category).sum) 8 = true) (hdep : d' + 1 ≤ d) (hc : c ≤ C) (hs : sl ≤ S) (hM : Ct d' M' (.ref k :: as) T I 0 0 (PR fun x_ T_ J_ => x_ = r ∧ T_ = T ∧ J_ = mem)) (kk : J d M Post C S (pc + 3) ls (.ref r :: rest) T mem c sl) : J d M Post C S pc ls st T I c sl :=
  J.callVgR hd hy hvm hlk hκ hq hqC hst hn hrest hdep hc hs hM (fun x T' I' h => by obtain ⟨h1, h2, h3⟩ := h; subst h1; subst h2; subst h3; exact kk)
theorem J.topEq {x y : Int32} (h : x = y) (k : J d M Post C S pc ls (.int y :: st) T I c sl) : J d M Post C S pc ls (.int x :: st) T I c sl := h ▸ k
end JJ
theorem up2_at (I : IM) (k j : Nat) (v : Int32) : up2 I k j v k j = v := by simp [up2, upd]
theorem up2_sj (I : IM) (k : Nat) {j j' : Nat} (v : Int32) (h : j' ≠ j) : up2 I k j v k j' = I k j' := by simp [up2, upd, h]
theorem up2_o (I : IM) {k k' : Nat} (j j' : Nat) (v : Int32) (h : k' ≠ k) : up2 I k j v k' j' = I k' j' := by simp [up2, h]
