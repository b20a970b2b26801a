/-! cells that are made; ends; starts -/
theorem vu_eq {α : Type} (f : Nat → α) (k : Nat) (v : α) : va_up f k v k = v := by simp [va_up]
theorem newT_N (T : Topo) (κ N : Nat) : tN (newT T κ N) = tN T + 1 := rfl
theorem newT_K (T : Topo) (κ N a : Nat) : tK (newT T κ N) a = if a = tN T then κ else tK T a := rfl
theorem newT_L (T : Topo) (κ N a : Nat) : tL (newT T κ N) a = if a = tN T then N else tL T a := rfl
theorem newT_R (T : Topo) (κ N a b : Nat) : tR (newT T κ N) a b = if a = tN T then none else tR T a b := by
  show (if a = tN T then (fun _ => none) else T.2.2.2 a) b = _
  split <;> rfl
theorem newI_at (I : IM) (n a b : Nat) : newI I n a b = if a = n then 0 else I a b := by
  show (if a = n then (fun _ => 0) else I a) b = _
  split <;> rfl
theorem cE_new {ad : Nat → Nat} {ca : Nat → ClassId} {T : Topo} {I : IM} {κ N q j : Nat} {cA : ClassId} (hr : rOK T) (hj : j < tN T) : cE (va_up ad (tN T) q) (va_up ca (tN T) cA) (newT T κ N) (newI I (tN T)) j = cE ad ca T I j := by
  have hne : ¬ j = tN T := by omega
  have eR : ∀ i, (tR (newT T κ N) j i).map (va_up ad (tN T) q) = (tR T j i).map ad := by
    intro i
    rw [newT_R, if_neg hne]
    cases h : tR T j i with
    | none => rfl
    | some r =>
      have := hr j i r hj h
      simp only [Option.map_some]
      rw [va_up_ne _ _ (by omega)]
  have eK : tK (newT T κ N) j = tK T j := by rw [newT_K, if_neg hne]
  have eL : tL (newT T κ N) j = tL T j := by rw [newT_L, if_neg hne]
  have eI : newI I (tN T) j = I j := by funext b; rw [newI_at, if_neg hne]
  have ef : fv (va_up ad (tN T) q) (newT T κ N) (newI I (tN T)) j = fv ad T I j := by
    funext i
    simp only [fv, eK, eR, eI]
  simp only [cE, ef, eK, eL, eI, eR, va_up_ne _ _ hne]
theorem rOK.newT {T : Topo} {κ N : Nat} (h : rOK T) : rOK (newT T κ N) := by
  intro a b q ha hq
  rw [newT_R] at hq
  rw [newT_N] at ha ⊢
  split at hq
  · cases hq
  · have := h a b q (by omega) hq
    omega
theorem aOK.newO {ca : Nat → ClassId} {T : Topo} {s : State} {κ N : Nat} {cA : ClassId} (h : aOK ca T s) (hκ : κ < 13) : aOK (va_up ca (tN T) cA) (newT T κ N) s := by
  intro k hk h13
  rw [newT_N] at hk
  rw [newT_K] at h13 ⊢
  by_cases e : k = tN T
  · rw [if_pos e] at h13; omega
  · rw [if_neg e] at h13 ⊢
    rw [va_up_ne _ _ e]
    exact h k (by omega) h13
theorem aOK.newA {ca : Nat → ClassId} {T : Topo} {s : State} {κ N : Nat} {cA : ClassId} (h : aOK ca T s) (hA : ArrOfT s cA (aTy κ) ∧ va_RA s cA (aTy κ)) : aOK (va_up ca (tN T) cA) (newT T κ N) s := by
  intro k hk h13
  rw [newT_N] at hk
  rw [newT_K] at h13 ⊢
  by_cases e : k = tN T
  · rw [if_pos e]; subst e; rw [vu_eq]; exact hA
  · rw [if_neg e] at h13 ⊢
    rw [va_up_ne _ _ e]
    exact h k (by omega) h13
/-- what follows a new cell -/
theorem Dy.new {G : va_G} {s : State} {A : Nat → Prop} {T0 T : Topo} {ad0 ad : Nat → Nat} {I : IM} {ca : Nat → ClassId} {H H1 : Heap} {locs : List Loc} {κ N q : Nat} {cA : ClassId} {e : va_E} (D : Dy G s A T0 ad0 T I ad ca H locs) (he : e = cE (va_up ad (tN T) q) (va_up ca (tN T) cA) (newT T κ N) (newI I (tN T)) (tN T)) (hA : aOK (va_up ca (tN T) cA) (newT T κ N) s)
    (hP : va_P G vwCl (cW ad ca T I ++ [(q, e)]) H1) (hD : va_D A (cW ad ca T I ++ [(q, e)])) (hS : va_S A s.heap H1 locs) : Dy G s A T0 ad0 (newT T κ N) (newI I (tN T)) (va_up ad (tN T) q) (va_up ca (tN T) cA) H1 locs := by
  have eW := cW_push (ad := ad) (ca := ca) (T := T) (T' := newT T κ N) (I := I) (I' := newI I (tN T)) (q := q) (cA := cA) rfl he (fun j hj => cE_new D.2.2.2.2.1 hj)
  rw [eW] at hP hD
  have hn := D.2.2.2.2.2.2.1
  exact ⟨hP, hD, D.2.2.1, hA, D.2.2.2.2.1.newT, hS, by rw [newT_N]; omega, fun k hk => by rw [va_up_ne _ _ (by omega)]; exact D.2.2.2.2.2.2.2 k hk⟩
/-- number idx of class own's pool is the class of kind κ -/
def cLk (own : String) (idx κ : Nat) : Prop := ∃ q : vw_C, vwCl[κ]? = some q ∧ Cond.classLink own idx q.1 ∈ TBg ∧ Cond.instantiable q.1 q.2.2 ∈ TBg ∧ Cond.initialized q.1 ∈ TBg
section JN
variable {d : Nat} {M : Mth} {Post : Pst} {C S pc c sl : Nat} {ls : List (Option Value)} {st : List Value} {T : Topo} {I : IM}
theorem J.newarr {n : Int32} {N κ : Nat} {aty : ArrayType} (hd : decode M.2.1 pc = .ok (.newarray aty, 2)) (hw : Cond.arrayClass (newarray.typeOf aty) ∈ TBg) (hty : newarray.typeOf aty = aTy κ) (hκ : κ = 13 ∨ κ = 14) (hn : ¬ n < 0) (hN : n.toNatClampNeg = N) (hb : N * componentBytes (aTy κ) ≤ 536870912) (hc : c + 1 ≤ C) (hs : sl + N ≤ S)
    (kk : J d M Post C S (pc + 2) ls (.ref (tN T) :: st) (newT T κ N) (newI I (tN T)) (c + 1) (sl + N)) : J d M Post C S pc ls (.int n :: st) T I c sl := by
  intro p l e s m args below meth cd G ab T0 ad0 ad ca H locs LS F D hl hv
  refine va_newa (a0 := (N, .inl (fun _ => 0))) F.1 F.2.1 (hasCode F hw) hty D.2.2.1 D.1 D.2.1 D.2.2.2.2.2.1 F.2.2.2.2.2.2.2.2.2.2 ?_ hn hN hb hc hs hd (fun q cA H1 hK1 hP1 hD1 hS1 => ?_)
  · intro cA
    rcases hκ with rfl | rfl <;> rfl
  · have hA := hK1.2 0 (cA, aTy κ) rfl
    have D1 : Dy G s (Fr T0 ad0 s.heap.size) T0 ad0 (newT T κ N) (newI I (tN T)) (va_up ad (tN T) q) (va_up ca (tN T) cA) H1 locs := by
      refine D.new (q := q) (cA := cA) ?_ (D.2.2.2.1.newA hA) hP1 hD1 hS1
      have hk : tK (newT T κ N) (tN T) = κ := by rw [newT_K, if_pos rfl]
      have hL : tL (newT T κ N) (tN T) = N := by rw [newT_L, if_pos rfl]
      have hI : newI I (tN T) (tN T) = fun _ => 0 := by funext b; rw [newI_at, if_pos rfl]
      rw [cE_int (by rw [hk]; exact hκ), hL, hI, vu_eq]
    have K1 := kk p l e s m args below meth cd G ab T0 ad0 _ _ H1 locs LS F D1 (hl.ad (by rw [newT_N]; omega) (fun k hk => va_up_ne _ _ (by omega))) (vs_c (by show tN T < tN T + 1; omega) (fun v hm => (vs_t hv v hm).mono (by rw [newT_N]; omega)))
    rw [List.map_cons, trv_map (ad := ad) (fun k hk => va_up_ne _ _ (by omega)) (vs_t hv)] at K1
    simp only [trv, vu_eq] at K1
    exact K1
theorem J.anew {n : Int32} {N κ idx : Nat} {CC : String} (hd : decode M.2.1 pc = .ok (.anewarray idx, 3)) (hlk : Cond.classLink M.1.cls idx CC ∈ TBg) (hov : Cond.arrayOver (.object CC) ∈ lw_tbl) (hty : aTy κ = .object CC) (hκ : 15 ≤ κ) (hn : ¬ n < 0) (hN : n.toNatClampNeg = N) (hb : N * 4 ≤ 536870912) (hc : c + 1 ≤ C) (hs : sl + N ≤ S)
    (kk : J d M Post C S (pc + 3) ls (.ref (tN T) :: st) (newT T κ N) (newI I (tN T)) (c + 1) (sl + N)) : J d M Post C S pc ls (.int n :: st) T I c sl := by
  intro p l e s m args below meth cd G ab T0 ad0 ad ca H locs LS F D hl hv
  refine va_newq F.1 F.2.1 F.2.2.2.1 (hasCode F hlk) (F.2.2.2.2.2.2.2.2.1 _ hov rfl) D.2.2.1 D.1 D.2.1 D.2.2.2.2.2.1 F.2.2.2.2.2.2.2.2.2.2 hn hN hb hc hs hd (fun q cA H1 hK1 hP1 hD1 hS1 => ?_)
  have hA := hK1.2 0 (cA, .object CC) rfl
  have D1 : Dy G s (Fr T0 ad0 s.heap.size) T0 ad0 (newT T κ N) (newI I (tN T)) (va_up ad (tN T) q) (va_up ca (tN T) cA) H1 locs := by
    refine D.new (q := q) (cA := cA) ?_ (D.2.2.2.1.newA (by rw [hty]; exact hA)) hP1 hD1 hS1
    have hk : tK (newT T κ N) (tN T) = κ := by rw [newT_K, if_pos rfl]
    have hL : tL (newT T κ N) (tN T) = N := by rw [newT_L, if_pos rfl]
    have hR : (fun j => (tR (newT T κ N) (tN T) j).map (va_up ad (tN T) q)) = fun _ => none := by funext b; rw [newT_R, if_pos rfl]; rfl
    rw [cE_ref (by rw [hk]; exact hκ), hL, hR, vu_eq]
  have K1 := kk p l e s m args below meth cd G ab T0 ad0 _ _ H1 locs LS F D1 (hl.ad (by rw [newT_N]; omega) (fun k hk => va_up_ne _ _ (by omega))) (vs_c (by show tN T < tN T + 1; omega) (fun v hm => (vs_t hv v hm).mono (by rw [newT_N]; omega)))
  rw [List.map_cons, trv_map (ad := ad) (fun k hk => va_up_ne _ _ (by omega)) (vs_t hv)] at K1
  simp only [trv, vu_eq] at K1
  exact K1
theorem J.new {κ idx : Nat} (hd : decode M.2.1 pc = .ok (.new idx, 3)) (hlk : cLk M.1.cls idx κ) (hc : c + 1 ≤ C) (hs : sl + nF κ ≤ S)
    (kk : J d M Post C S (pc + 3) ls (.ref (tN T) :: st) (newT T κ 0) (newI I (tN T)) (c + 1) (sl + nF κ)) : J d M Post C S pc ls st T I c sl := by
  intro p l e s m args below meth cd G ab T0 ad0 ad ca H locs LS F D hl hv
  obtain ⟨q0, hq, hl1, hl2, hl3⟩ := hlk
  have hκ := vwCl_lt hq
  obtain ⟨CC, FF, NN, ty0, h1, h2, h3, h4, h5, h6⟩ := kOK_all κ hκ
  obtain rfl : q0 = (CC, FF, NN) := Option.some.inj (hq.symm.trans h1)
  rw [h5] at hs kk
  refine va_new (ci := κ) (fs := (List.range NN).map (fun j => if rF κ j = true then Value.null else .int 0)) F.1 F.2.1 F.2.2.2.2.1 (fun w hw => List.mem_cons_of_mem _ (h4 w hw)) ty0 h2 F.2.2.2.1 (hasCode F hl1) (hasCode F hl2) (hasCode F hl3) D.2.2.1 D.1 D.2.1 D.2.2.2.2.2.1 F.2.2.2.2.2.2.2.2.2.2 hq (fun j hj => ?_) hc hs hd (fun q H1 hP1 hD1 hS1 => ?_)
  · rw [h6 j hj]
    simp [vp_V, hj]
  · have D1 : Dy G s (Fr T0 ad0 s.heap.size) T0 ad0 (newT T κ 0) (newI I (tN T)) (va_up ad (tN T) q) (va_up ca (tN T) 0) H1 locs := by
      refine D.new (q := q) (cA := 0) ?_ (D.2.2.2.1.newO hκ) hP1 hD1 hS1
      have hk : tK (newT T κ 0) (tN T) = κ := by rw [newT_K, if_pos rfl]
      rw [cE_obj hk hκ, h5]
      have : (fun j => if rF κ j = true then Value.null else Value.int 0) = fv (va_up ad (tN T) q) (newT T κ 0) (newI I (tN T)) (tN T) := by
        funext j
        simp only [fv, hk, newT_R, newI_at, if_true, Option.map_none, va_rf]
      rw [this]
    have K1 := kk p l e s m args below meth cd G ab T0 ad0 _ _ H1 locs LS F D1 (hl.ad (by rw [newT_N]; omega) (fun k hk => va_up_ne _ _ (by omega))) (vs_c (by show tN T < tN T + 1; omega) (fun v hm => (hv v hm).mono (by rw [newT_N]; omega)))
    rw [List.map_cons, trv_map (ad := ad) (fun k hk => va_up_ne _ _ (by omega)) hv] at K1
    simp only [trv, vu_eq] at K1
    exact K1
theorem J.iret {v : Int32} (hd : decode M.2.1 pc = .ok (.ireturn, 1)) (hr : M.2.2.2 = some .int) (hc : c ≤ C) (hs : sl ≤ S) (hp : Post (some (.int v)) T I) : J d M Post C S pc ls [.int v] T I c sl := by
  intro p l e s m args below meth cd G ab T0 ad0 ad ca H locs LS F D hl hv
  exact W.widen hc hs (W.iret F.1 F.2.1 (F.2.2.2.2.2.1.trans hr) (fun t ht hW => ⟨⟨some (.int v), T, I, ad, ca, rfl, hp, D.2.2.2.2.2.2.1, D.2.2.2.2.2.2.2, fun w hw => by cases hw; trivial, by rw [ht]; exact D.1, D.2.1, D.2.2.2.1.moved hW.alike, D.2.2.2.2.1⟩, D.2.2.2.2.2.1.F ht⟩) (fun q hq => D.2.2.2.2.2.1.2.2 q hq) hd F.2.2.2.2.2.2.1)
theorem J.zret {v : Int32} (hd : decode M.2.1 pc = .ok (.ireturn, 1)) (hr : M.2.2.2 = some .boolean) (hz : v = 0 ∨ v = 1) (hc : c ≤ C) (hs : sl ≤ S) (hp : Post (some (.int v)) T I) : J d M Post C S pc ls [.int v] T I c sl := by
  intro p l e s m args below meth cd G ab T0 ad0 ad ca H locs LS F D hl hv
  exact W.widen hc hs (W.zret F.1 F.2.1 (F.2.2.2.2.2.1.trans hr) (by rcases hz with rfl | rfl <;> rfl) (fun t ht hW => ⟨⟨some (.int v), T, I, ad, ca, rfl, hp, D.2.2.2.2.2.2.1, D.2.2.2.2.2.2.2, fun w hw => by cases hw; trivial, by rw [ht]; exact D.1, D.2.1, D.2.2.2.1.moved hW.alike, D.2.2.2.2.1⟩, D.2.2.2.2.2.1.F ht⟩) (fun q hq => D.2.2.2.2.2.1.2.2 q hq) hd F.2.2.2.2.2.2.1)
theorem J.vret (hd : decode M.2.1 pc = .ok (.return_, 1)) (hr : M.2.2.2 = none) (hc : c ≤ C) (hs : sl ≤ S) (hp : Post none T I) : J d M Post C S pc ls [] T I c sl := by
  intro p l e s m args below meth cd G ab T0 ad0 ad ca H locs LS F D hl hv
  exact W.widen hc hs (W.vret F.1 F.2.1 (F.2.2.2.2.2.1.trans hr) (fun t ht hW => ⟨⟨none, T, I, ad, ca, rfl, hp, D.2.2.2.2.2.2.1, D.2.2.2.2.2.2.2, (fun w hw => by cases hw), by rw [ht]; exact D.1, D.2.1, D.2.2.2.1.moved hW.alike, D.2.2.2.2.1⟩, D.2.2.2.2.2.1.F ht⟩) (fun q hq => D.2.2.2.2.2.1.2.2 q hq) hd F.2.2.2.2.2.2.1)
theorem J.aret {k : Nat} {ty : FieldType} (hd : decode M.2.1 pc = .ok (.areturn, 1)) (hr : M.2.2.2 = some ty) (hty : (∃ n, ty = .object n) ∨ ∃ t, ty = .array t) (hc : c ≤ C) (hs : sl ≤ S) (hp : Post (some (.ref k)) T I) : J d M Post C S pc ls [.ref k] T I c sl := by
  intro p l e s m args below meth cd G ab T0 ad0 ad ca H locs LS F D hl hv
  exact W.widen hc hs (W.aret F.1 F.2.1 (F.2.2.2.2.2.1.trans hr) hty (Or.inr ⟨_, rfl⟩) (fun t ht hW => ⟨⟨some (.ref k), T, I, ad, ca, rfl, hp, D.2.2.2.2.2.2.1, D.2.2.2.2.2.2.2, fun w hw => by cases hw; exact vs_h hv, by rw [ht]; exact D.1, D.2.1, D.2.2.2.1.moved hW.alike, D.2.2.2.2.1⟩, D.2.2.2.2.2.1.F ht⟩) (fun q hq => D.2.2.2.2.2.1.2.2 q hq) hd F.2.2.2.2.2.2.1)
/-- the parent of a kind, as the class reads it: getstatic, iload_2, iaload -/
theorem J.above {idx : Nat} {x : Int32} {host : String} (hd : decode M.2.1 pc = .ok (.getstatic idx, 3)) (hd2 : decode M.2.1 (pc + 3) = .ok (.iload_n 2, 1)) (hd3 : decode M.2.1 (pc + 3 + 1) = .ok (.iaload, 1)) (hlk : Cond.fieldLinkNest M.1.cls idx "SliceSeller" "ABOVE" "[I" host ∈ lw_tbl) (hx : ls[2]? = some (some (.int x))) (hin : vp_in x 5)
    (kk : J d M Post C S (pc + 3 + 1 + 1) ls (.int (abv x.toNatClampNeg) :: st) T I c sl) : J d M Post C S pc ls st T I c sl := by
  intro p l e s m args below meth cd G ab T0 ad0 ad ca H locs LS F D hl hv
  obtain ⟨hZ, hX, hlt, hA⟩ := F.2.2.2.2.2.2.2.2.2.1
  refine va_getsN F.1 F.2.1 hZ D.2.2.2.2.2.1 F.2.2.2.1 (va_Nw.use rfl (F.2.2.2.2.2.2.2.2.1 _ hlk rfl)) (fun _ h => h) hd ?_
  refine lv_iload_n F.1 F.2.1 hd2 rfl (hl.2.2.2 2 _ hx).1 ?_
  exact va_sld F.1 F.2.1 hX hlt hA D.2.2.2.2.2.1 hin hd3 (kk p l e s m args below meth cd G ab T0 ad0 ad ca H locs LS F D hl (vs_c trivial hv))
theorem lg_sl_1 : ∀ (vs : List Value), (∀ v ∈ vs, v.category = 1) → lg_sl vs = vs.map Slot.val
  | [], _ => rfl
  | v :: vs, h => by
    have h1 := h v List.mem_cons_self
    have ih := lg_sl_1 vs (fun w hw => h w (List.mem_cons_of_mem _ hw))
    unfold lg_sl at ih ⊢
    rw [List.flatMap_cons, ih, if_neg (by omega)]
    rfl
theorem Ct.ofJ {vs : List Value} {mc ms : Nat} (hy : plainName M.1.cls = true) (hlen : Nat.ble vs.length M.2.2.1 = true) (hcat : ∀ v ∈ vs, v.category = 1) (hls : ls = vs.map some ++ List.replicate (M.2.2.1 - vs.length) none) (h : J d M Post mc ms 0 ls [] T I 0 0) : Ct d M vs T I mc ms Post := by
  subst hls
  intro l G ab ad ca sz
  refine Met.ofW (cc := M.2.1) (maxL := M.2.2.1) (ret := M.2.2.2) hy rfl ?_
  intro p e s m args below meth cd s₁ B hml hv
  obtain ⟨rfl, hsz, hP, hD, hK, hA, hR, hAb, hN, hvs⟩ := hv
  subst hsz
  have hlen' : vs.length ≤ M.2.2.1 := Nat.le_of_ble_eq_true hlen
  have hcat' : ∀ v ∈ vs.map (trv ad), v.category = 1 := by
    intro v hm
    obtain ⟨w, hw, rfl⟩ := List.mem_map.mp hm
    exact (trv_cat ad w).trans (hcat w hw)
  have e1 : lg_sl (vs.map (trv ad)) = (vs.map (trv ad)).map Slot.val := lg_sl_1 _ hcat'
  have hle := lv_entry (vs.map (trv ad)) (n := M.2.2.1) (by rw [e1]; simpa using hlen')
  rw [lg_entry_eq]
  have hfin := h p l e s m (vs.map (trv ad)).toArray below meth cd G ab T ad ad ca s.heap [] ((lg_sl (vs.map (trv ad)) ++ List.replicate (M.2.2.1 - (lg_sl (vs.map (trv ad))).length) Slot.unset).toArray)
    ⟨B.exec, B.bytes, hml, findClass_of_methodNamed B.named, atoms_spec (ws := wd M) B.pre, B.returns, B.notSynchronized, (name_of_methodNamed B.named B.method).1, hN, hAb, fun q h => Or.inr h⟩
    ⟨hP, hD.weaken (fun k q hq _ => Or.inl ⟨k, (cW_of hq).1, by rw [(cW_of hq).2]⟩), hK, hA, hR, va_S.rf, Nat.le_refl _, fun _ _ => rfl⟩
    ⟨hle.1, hle.2.1, by simp; omega, fun i v hi => ?_⟩ (fun v hv => by cases hv)
  · exact hfin
  · have hi' : i < vs.length := by
      rcases Nat.lt_or_ge i vs.length with q | q
      · exact q
      · rw [List.getElem?_append_right (by simpa using q)] at hi
        have := List.mem_of_getElem? hi
        rw [List.mem_replicate] at this
        cases this.2
    rw [List.getElem?_append_left (by simpa using hi'), List.getElem?_map] at hi
    cases hx : vs[i]? with
    | none => rw [hx] at hi; cases hi
    | some w =>
      rw [hx] at hi
      cases hi
      refine ⟨?_, hcat v (List.mem_of_getElem? hx), hvs v (List.mem_of_getElem? hx)⟩
      rw [e1]
      rw [← Array.getElem?_toList]
      simp only [List.toList_toArray]
      rw [List.getElem?_append_left (by simpa using hi')]
      simp [hx]
end JN
