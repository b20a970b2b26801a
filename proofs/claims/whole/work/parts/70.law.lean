/-! the law's own judgement -/
def R_law : String := "SliceSellerLaw"
def lw_P (b : Addr) (xs : List Int32) (args : Array Value) (s : State) : Prop := args = #[.ref b] ∧ s.IntsAt b xs ∧ xs.length ≤ 3072 ∧ (Jvm.Cond.and given_1 narrow_1).before args s = true
def lw_Q (_ : Array Value) (s : State) (o : Outcome) (t : State) : Prop := o = .returned (some (.int 1)) ∧ Framed s o t [] 600000 7302250
def lw_Z (below : List Frame) (a : Array Value) (s : State) : State → Prop := fun t => ∃ o, t.status = .running ∧ Ended t below o ∧ lw_Q a s o t
/-- the law's own end, with 1 on the stack, nothing written that was there before, its room as the claim has it -/
theorem lw_ret {p : Program} {l : Launch} {e : Env} {s : State} {m : MethodId} {below : List Frame} {meth : Method} {c : Code} {b : Nat} (hx : p.tables.exec = Jvm.exec) (hb : c.code = code) (hr : meth.sig.returnType = ret) (hlocks : meth.locks = false) {pc : Nat} {H : Heap} {ls : Array Slot} (hdg : decode code pc = .ok (.ireturn, 1)) : W p l e room_1 s m #[Value.ref b] below meth c H [] 600000 7302250 (lw_Z below #[Value.ref b] s) (F0 m pc ls [.int 1]) := by
  intro T hT X
  obtain ⟨fs, hret, hrun, hended, hW, hframe⟩ := X.leave (v := some (.int 1)) (hlocks := hlocks) (fun h => by rw [hr] at h; cases h)
  have hmeth' : T.vm.method? m = some meth := X.method'
  refine ⟨T.setFrames fs, ?_, .returned (some (.int 1)), hrun, hended, rfl, ⟨_, rfl⟩, hW, hframe⟩
  jvm_step X.here [X.here.top, hx, hb, hdg, hmeth', hr, ret, narrow_b1]
  (try refine ⟨rfl, ?_⟩); (try refine ⟨rfl, ?_⟩)
  first | (intro acts; rw [hret _ acts rfl rfl rfl]) | rw [hret _ _ rfl rfl rfl]
  exact Steps.refl _
def lw_At (p : Program) (s : State) (m : MethodId) (meth : Method) (c : Code) (b L : Nat) (xs : Nat → Int32) : Prop :=
  p.tables.exec = Jvm.exec ∧ c.code = code ∧ meth.sig.returnType = ret ∧ c.maxLocals = 4 ∧ s.vm.findClass R_law = some m.cls ∧ (∀ w ∈ lw_tbl, w.before #[Value.ref b] s = true) ∧ va_X b L xs s s.heap ∧ b < s.heap.size ∧ meth.locks = false ∧ (Jvm.Cond.and given_1 narrow_1).before #[Value.ref b] s = true
def LA (s : State) : Nat → Prop := fun q => s.heap.size ≤ q
theorem TBg_tbl {w : Cond} (h : w ∈ TBg) : w ∈ lw_tbl := (List.mem_filter.mp h).1
theorem tbl_good {M' : Mth} (h : mIn M') : GoodIn lw_tbl (wd M') := by
  intro w hw
  have hw' : w ∈ TBg := by
    rcases List.mem_cons.mp hw with e | e
    · rw [e]; exact h
    · exact e
  exact ⟨TBg_tbl hw', good_of_word (TBg_good hw')⟩
theorem nest_at {args : Array Value} {s : State} (hts : ∀ w ∈ lw_tbl, w.before args s = true) : NestOK s := by
  intro w hw hn
  have h1 := hts w hw
  unfold isNest at hn
  split at hn
  · exact va_Nw.of rfl h1
  · exact va_Nw.of rfl h1
  · exact va_AO.of h1
  · cases hn
theorem len_small {args : Array Value} {s : State} {tm : Term} {t : Addr} {cell : Cell} {v : Value} (ht : tm.eval args s none [] s = some (.ref t)) (hat : s.arrayAt? t = some cell) (hv : (Term.length tm).eval args s none [] s = some v) : cell.slots.size < 2 ^ 31 := by
  simp only [Term.eval, ht, hat, Option.bind_eq_bind, Option.bind_some] at hv
  by_cases hlt : cell.slots.size < 2147483648
  · exact hlt
  · simp [hlt] at hv
theorem above_at {args : Array Value} {s : State} (hts : ∀ w ∈ lw_tbl, w.before args s = true) (hgv : (Jvm.Cond.and given_1 narrow_1).before args s = true) : ∃ ab, Abv ab (LA s) s s.heap := by
  have hs := flat_of_before _ hgv
  have harr : (Cond.arrayOf (.static "SliceSeller" "ABOVE" "[I") .int).before args s = true := hs _ (by decide +kernel)
  have hlen := va_eqt (hs (Cond.eq (.length (.static "SliceSeller" "ABOVE" "[I")) (.int 5)) (by decide +kernel))
  have e0 := va_eqt (hs (Cond.eq (.elem (.static "SliceSeller" "ABOVE" "[I") (.int 0)) (.int (-1))) (by decide +kernel))
  have e1 := va_eqt (hs (Cond.eq (.elem (.static "SliceSeller" "ABOVE" "[I") (.int 1)) (.int 0)) (by decide +kernel))
  have e2 := va_eqt (hs (Cond.eq (.elem (.static "SliceSeller" "ABOVE" "[I") (.int 2)) (.int 0)) (by decide +kernel))
  have e3 := va_eqt (hs (Cond.eq (.elem (.static "SliceSeller" "ABOVE" "[I") (.int 3)) (.int 2)) (by decide +kernel))
  have e4 := va_eqt (hs (Cond.eq (.elem (.static "SliceSeller" "ABOVE" "[I") (.int 4)) (.int 0)) (by decide +kernel))
  have hA : ∀ a : Nat, a < s.heap.size → ¬ LA s a := fun a h => Nat.not_le.mpr h
  obtain ⟨t, ht, cell, h1, h2, h3, h4, h5, h6, h7⟩ := va_Tof (N := 5) (f := fun j => .int (abv j)) (A := LA s) (by decide) harr hlen (fun j hj => by
    match j, hj with
    | 0, _ => exact e0
    | 1, _ => exact e1
    | 2, _ => exact e2
    | 3, _ => exact e3
    | 4, _ => exact e4
    | j + 5, hj => omega) hA
  have hsz : cell.slots.size = 5 := by
    obtain ⟨t', cell', ht', hat, -⟩ := Term.length_spec hlen
    cases ht.symm.trans ht'
    obtain ⟨hcell, -, -, -⟩ := State.arrayAt?_spec hat
    cases h1.symm.trans hcell
    have hlt : cell.slots.size < 2 ^ 31 := len_small ht hat hlen
    have h5' : nI cell.slots.size = nI 5 := h5
    exact (nI_eq hlt (by decide)).mp h5'
  refine ⟨t, va_Zof (hts _ (by decide +kernel : Cond.laysStatic "SliceSeller" "ABOVE" "[I" ∈ lw_tbl)) (hts _ (by decide +kernel : Cond.initialized "SliceSeller" ∈ lw_tbl)) ht hA, ⟨cell, h1, h2, h3, hsz, h6⟩, (Array.getElem?_eq_some_iff.mp h1).1, h7⟩
def LC (p : Program) (s : State) (m : MethodId) (meth : Method) (cd : Code) (b L : Nat) (xs : Nat → Int32) (G : va_G) (ab : Nat) : Prop := lw_At p s m meth cd b L xs ∧ NestOK s ∧ Abv ab (LA s) s s.heap ∧ va_K G vwCl [] s
/-- the law stands at pc, its counter is i -/
def LJ (p : Program) (l : Launch) (e : Env) (s : State) (m : MethodId) (below : List Frame) (meth : Method) (cd : Code) (b : Nat) (G : va_G) (i : Int32) (pc : Nat) (st : List Value) (T : Topo) (I : IM) (c sl : Nat) : Prop :=
  ∀ (ad : Nat → Nat) (ca : Nat → ClassId) (H : Heap) (locs : List Loc) (LS : Array Slot), Dy G s (LA s) cT0 (fun _ => 0) T I ad ca H locs → lv_has LS 4 [(0, .ref b), (1, .ref (ad 0)), (2, .ref (ad 79)), (3, .int i)] → (∀ v ∈ st, vOK (tN T) v) →
    W p l e room_1 s m #[Value.ref b] below meth cd H locs c sl (lw_Z below #[Value.ref b] s) (F0 m pc LS (st.map (trv ad)))
theorem L_pw {s U : State} {G : va_G} {ab : Nat} {A : Nat → Prop} {T0 T : Topo} {ad0 ad : Nat → Nat} {I : IM} {ca : Nat → ClassId} {H : Heap} {locs : List Loc} {vs : List Value} (hN : NestOK s) (hAb : Abv ab A s s.heap) (hA : ∀ q, s.heap.size ≤ q → A q) (D : Dy G s A T0 ad0 T I ad ca H locs) (hvs : ∀ v ∈ vs, vOK (tN T) v) (hU : U.heap = H) (hW : s.WarmedH U.vm) : Pw G ab vs T I ad ca H.size (vs.map (trv ad)).toArray U :=
  ⟨rfl, by rw [hU], by rw [hU]; exact D.1, D.2.1.weaken (fun _ _ _ _ => trivial), va_K.moved hW.alike D.2.2.1, D.2.2.2.1.moved hW.alike, D.2.2.2.2.1, hAb.call D.2.2.2.2.2.1 (Fr_sub D hA) hW.alike hU, hN.warm hW, hvs⟩
section LAW
variable {p : Program} {l : Launch} {e : Env} {s : State} {m : MethodId} {below : List Frame} {meth : Method} {cd : Code} {b L : Nat} {xs : Nat → Int32} {G : va_G} {ab : Nat} {i : Int32} {pc c sl : Nat} {st : List Value} {T : Topo} {I : IM}
theorem L_after {R : Room} {args : Array Value} {A : Nat → Prop} {T0 : Topo} {ad0 ad : Nat → Nat} {ca : Nat → ClassId} {H : Heap} {locs : List Loc} {LS : Array Slot} {g : List Value} {rest : List Value} {a : Array Value} {mc ms : Nat} {P' : Pst} {Q : State → Prop}
    (hr : va_Run p l e R s m args below meth cd H locs c sl mc ms (F0 m pc LS g) (rest.map (trv ad)) (Qw G T ad H.size P' a) (Fr T ad H.size))
    (hA : ∀ q, s.heap.size ≤ q → A q) (D : Dy G s A T0 ad0 T I ad ca H locs) (hv : ∀ v ∈ rest, vOK (tN T) v)
    (kk : ∀ (r : Option Value) (T2 : Topo) (I2 : IM) (ad2 : Nat → Nat) (ca2 : Nat → ClassId) (H2 : Heap) (locs2 : List Loc), P' r T2 I2 → tN T ≤ tN T2 → (∀ k, k < tN T → ad2 k = ad k) → Dy G s A T0 ad0 T2 I2 ad2 ca2 H2 locs2 → (∀ w ∈ r.toList ++ rest, vOK (tN T2) w) → W p l e R s m args below meth cd H2 locs2 (c + mc) (sl + ms) Q (F0 m (pc + 3) LS ((r.toList ++ rest).map (trv ad2)))) :
    W p l e R s m args below meth cd H locs c sl Q (F0 m pc LS g) := by
  intro Tm hT X
  obtain ⟨v, st₀, t, T', L', h0, X', hL, e1, e2, ⟨⟨r, T2, I2, ad2, ca2, hv2, hp, hn2, had, hrv, hP, hD, hA2, hR⟩, hz, hk⟩, stp⟩ := hr Tm hT X
  rw [h0] at hz hk
  cases hv2
  have hsub := Fr_sub D hA
  have hal : t.vm.Alike s.vm := by rw [← e2]; exact X'.warmed.alike.symm
  have hS := D.2.2.2.2.2.1
  have D2 : Dy G s A T0 ad0 T2 I2 ad2 ca2 T'.heap (locs ++ L') := by
    refine ⟨by rw [e1]; exact hP, hD.weaken (fun k q _ h => hsub _ h), D.2.2.1, hA2.moved hal, hR, ⟨Nat.le_trans hS.1 (by rw [e1]; exact hz), fun q h1 h2 => ?_, fun q hq => ?_⟩, Nat.le_trans D.2.2.2.2.2.2.1 hn2, fun k hk0 => by rw [had k (Nat.lt_of_lt_of_le hk0 D.2.2.2.2.2.2.1)]; exact D.2.2.2.2.2.2.2 k hk0⟩
    · rw [e1, hk q (Nat.lt_of_lt_of_le h1 hS.1) (fun z => h2 (hsub q z))]
      exact hS.2.1 q h1 h2
    · rcases List.mem_append.mp hq with h | h
      · exact hS.2.2 q h
      · exact hsub _ (hL q h)
  have hst : ∀ w ∈ r.toList ++ rest, vOK (tN T2) w := by
    intro w hw
    rcases List.mem_append.mp hw with h | h
    · exact hrv w (by simpa using h)
    · exact (hv w h).mono hn2
  obtain ⟨t2, a1, b1⟩ := kk r T2 I2 ad2 ca2 T'.heap (locs ++ L') hp hn2 had D2 hst T' rfl X'
  refine ⟨t2, stp t2 ?_, b1⟩
  have ef : (r.toList ++ rest).map (trv ad2) = (r.map (trv ad2)).toList ++ rest.map (trv ad) := by
    rw [List.map_append, trv_map had hv]
    cases r <;> rfl
  rw [ef] at a1
  exact a1
theorem Lw_ald1 (C0 : LC p s m meth cd b L xs G ab) (hT : Lay T) (hd : decode code pc = .ok (.aload_n 1, 1)) (k : LJ p l e s m below meth cd b G i (pc + 1) (.ref 0 :: st) T I c sl) : LJ p l e s m below meth cd b G i pc st T I c sl :=
  fun ad ca H locs LS D hl hv => lv_aload_n C0.1.1 C0.1.2.1 hd rfl (lv_at hl 1 rfl) (k ad ca H locs LS D hl (vs_c (by have := hT.1; show 0 < tN T; omega) hv))
theorem Lw_ald2 (C0 : LC p s m meth cd b L xs G ab) (hT : Lay T) (hd : decode code pc = .ok (.aload_n 2, 1)) (k : LJ p l e s m below meth cd b G i (pc + 1) (.ref 79 :: st) T I c sl) : LJ p l e s m below meth cd b G i pc st T I c sl :=
  fun ad ca H locs LS D hl hv => lv_aload_n C0.1.1 C0.1.2.1 hd rfl (lv_at hl 2 rfl) (k ad ca H locs LS D hl (vs_c (by have := hT.1; show 79 < tN T; omega) hv))
theorem Lw_iconst {n : Int} {v : Int32} (C0 : LC p s m meth cd b L xs G ab) (hd : decode code pc = .ok (.iconst n, 1)) (hn : Int32.ofInt n = v) (k : LJ p l e s m below meth cd b G i (pc + 1) (.int v :: st) T I c sl) : LJ p l e s m below meth cd b G i pc st T I c sl :=
  fun ad ca H locs LS D hl hv => lv_iconst C0.1.1 C0.1.2.1 hd hn (k ad ca H locs LS D hl (vs_c trivial hv))
theorem Lw_goto {off : Int} {tgt : Nat} (C0 : LC p s m meth cd b L xs G ab) (hd : decode code pc = .ok (.goto off, 3)) (ht : (pc : Int) + off = (tgt : Int)) (k : LJ p l e s m below meth cd b G i tgt st T I c sl) : LJ p l e s m below meth cd b G i pc st T I c sl :=
  fun ad ca H locs LS D hl hv => lv_goto C0.1.1 C0.1.2.1 hd ht (k ad ca H locs LS D hl hv)
theorem Lw_if_eq {x : Int32} {off : Int} {tgt : Nat} (C0 : LC p s m meth cd b L xs G ab) (hd : decode code pc = .ok (.ifCond .eq off, 3)) (ht : (pc : Int) + off = (tgt : Int)) (kt : x = 0 → LJ p l e s m below meth cd b G i tgt st T I c sl) (kf : ¬ x = 0 → LJ p l e s m below meth cd b G i (pc + 3) st T I c sl) : LJ p l e s m below meth cd b G i pc (.int x :: st) T I c sl :=
  fun ad ca H locs LS D hl hv => lv_if_eq C0.1.1 C0.1.2.1 hd ht (fun h => kt h ad ca H locs LS D hl (vs_t hv)) (fun h => kf h ad ca H locs LS D hl (vs_t hv))
theorem Lw_cmp {x y : Int32} {off : Int} {tgt : Nat} (C0 : LC p s m meth cd b L xs G ab) (hd : decode code pc = .ok (.if_icmp .eq off, 3)) (ht : (pc : Int) + off = (tgt : Int)) (he : x = y) (kt : LJ p l e s m below meth cd b G i tgt st T I c sl) : LJ p l e s m below meth cd b G i pc (.int y :: .int x :: st) T I c sl :=
  fun ad ca H locs LS D hl hv => lv_icmp_eq C0.1.1 C0.1.2.1 hd ht (fun _ => kt ad ca H locs LS D hl (vs_t (vs_t hv))) (fun h => absurd he h)
/-- number k behind the counter: aload_0, iload_3, iconst k, iadd, iaload -/
theorem Lw_sld {n : Int} {v : Int32} (C0 : LC p s m meth cd b L xs G ab) (h0 : decode code pc = .ok (.aload_n 0, 1)) (h1 : decode code (pc + 1) = .ok (.iload_n 3, 1)) (h2 : decode code (pc + 1 + 1) = .ok (.iconst n, 1)) (h3 : decode code (pc + 1 + 1 + 1) = .ok (.iadd, 1)) (h4 : decode code (pc + 1 + 1 + 1 + 1) = .ok (.iaload, 1)) (hn : Int32.ofInt n = v) (hin : vp_in (i + v) L)
    (k : LJ p l e s m below meth cd b G i (pc + 1 + 1 + 1 + 1 + 1) (.int (xs (i + v).toNatClampNeg) :: st) T I c sl) : LJ p l e s m below meth cd b G i pc st T I c sl := by
  intro ad ca H locs LS D hl hv
  obtain ⟨hx, hb, -, -, -, -, hX, hbl, -⟩ := C0.1
  refine lv_aload_n hx hb h0 rfl (lv_at hl 0 rfl) ?_
  refine lv_iload_n hx hb h1 rfl (lv_at hl 3 rfl) ?_
  refine lv_iconst hx hb h2 hn ?_
  refine lv_iadd hx hb h3 ?_
  exact va_sld hx hb hX hbl (Nat.not_le.mpr hbl) D.2.2.2.2.2.1 hin h4 (k ad ca H locs LS D hl (vs_c trivial hv))
theorem Lw_call {M' : Mth} {n idx d' mc ms k : Nat} {as rest : List Value} {Q' : Int32 → Topo → IM → Prop} {κ : Nat} {q : vw_C} (C0 : LC p s m meth cd b L xs G ab) (hd : decode code pc = .ok (.invokevirtual idx, 3)) (hy : yOK M' n) (hvm : vMeth M') (hlk : mLk R_law idx M'.1) (hκ : tK T k = κ) (hq : vwCl[κ]? = some q) (hqC : q.1 = M'.1.cls) (hst : st = as.reverse ++ .ref k :: rest) (hn : as.length = n) (hrest : Nat.ble ((rest.map fun v => v.category).sum) 8 = true) (hdep : d' ≤ 1000) (hT : Lay T) (hc : c + mc ≤ 600000) (hs : sl + ms ≤ 7302250)
    (hM : Ct d' M' (.ref k :: as) T I mc ms (PI Q')) (kk : ∀ x T' I', Q' x T' I' → LJ p l e s m below meth cd b G i (pc + 3) (.int x :: rest) T' I' (c + mc) (sl + ms)) : LJ p l e s m below meth cd b G i pc st T I c sl := by
  intro ad ca H locs LS D hl hv
  obtain ⟨⟨hx, hb, hr, hml, hown, hts, hX, hbl, hlocks, hgv⟩, hN, hAb, hK⟩ := C0
  obtain ⟨hmi, hini, hnm, hL⟩ := hy
  have hvr : ∀ v ∈ rest, vOK (tN T) v := fun v hm => hv v (by rw [hst]; simp [hm])
  have hrest' : ((rest.map (trv ad)).map fun v => v.category).sum ≤ 8 := by rw [cat_map]; exact Nat.le_of_ble_eq_true hrest
  have hsk : st.map (trv ad) = (as.map (trv ad)).reverse ++ .ref (ad k) :: rest.map (trv ad) := by rw [hst, List.map_append, List.map_reverse, List.map_cons]; rfl
  have hvk : ∀ v ∈ (.ref k :: as : List Value), vOK (tN T) v := fun v hm => hv v (by rw [hst]; rcases List.mem_cons.mp hm with h | h <;> simp [h])
  have hG := tbl_good hmi
  have hFx : CallFix p m cd code 4 s #[Value.ref b] lw_tbl R_law := ⟨hx, hb, hml, hown, hts⟩
  have ht : ∀ {w : Cond}, w ∈ TBg → w.before #[Value.ref b] s = true := fun h => hts _ (TBg_tbl h)
  have hR : (Rm d' mc ms).frames + 1 ≤ room_1.frames ∧ 8 + (M'.2.2.1 + 11) + (Rm d' mc ms).locals ≤ room_1.locals := by
    refine ⟨?_, ?_⟩
    · show d' + 1 ≤ 2048; omega
    · show 8 + (M'.2.2.1 + 11) + 60 * d' ≤ 84000; omega
  have h0 : 0 < tN T := by have := hT.1; omega
  have h79 : 79 < tN T := by have := hT.1; omega
  refine L_after (mc := mc) (ms := ms) (A := LA s) (T0 := cT0) (ad0 := fun _ => 0) (I := I) (g := st.map (trv ad)) (rest := rest) (a := ((.ref k :: as : List Value).map (trv ad)).toArray) (P' := PI Q') ?_ (fun q h => h) D hvr ?_
  · have hrv : ∃ cellB : Cell, H[ad k]? = some cellB ∧ cellB.vm.isStatics = false ∧ s.vm.findClass M'.1.cls = some cellB.cls := by
      have h1 := va_recv D.2.2.1 D.1 hq ((cW_at (vs_h hvk)).trans (by rw [cE_obj hκ (vwCl_lt hq)]))
      rwa [hqC] at h1
    rcases hlk with hlk | ⟨host, hlk⟩
    · exact va_runV hFx (hM l G ab ad ca H.size) ⟨callB_of n hts hG rfl rfl rfl (ht hini) (ht hlk) hnm hR, ht hvm.1, ht hvm.2⟩ ⟨Pw_blind, hrv, fun U hU hW => L_pw hN hAb (fun q h => h) D hvk hU hW⟩ rfl ((List.length_map _).trans hn) hl.1 hsk (lv_room hrest') hd ⟨hc, hs⟩
    · exact va_runVN hFx (hM l G ab ad ca H.size) ⟨va_cnB n hts hG rfl rfl rfl (hN _ hlk rfl) (ht hini) hnm hR, ht hvm.1, ht hvm.2⟩ ⟨Pw_blind, hrv, fun U hU hW => L_pw hN hAb (fun q h => h) D hvk hU hW⟩ rfl ((List.length_map _).trans hn) hl.1 hsk (lv_room hrest') hd ⟨hc, hs⟩
  · intro r T2 I2 ad2 ca2 H2 locs2 hp hn2 had D2 hst2
    obtain ⟨x, rfl, hq2⟩ := hp
    refine kk x T2 I2 hq2 ad2 ca2 H2 locs2 LS D2 ?_ hst2
    rw [had 0 h0, had 79 h79]
    exact hl
end LAW
