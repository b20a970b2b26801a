/-! calls -/
def mLk (own : String) (idx : Nat) (y : MethodName) : Prop := Cond.methodLink own idx y ∈ TBg ∨ ∃ host, Cond.methodLinkNest own idx y host ∈ lw_tbl
def yOK (M : Mth) (n : Nat) : Prop := mIn M ∧ Cond.initialized M.1.cls ∈ TBg ∧ (M.1.cls ≠ "java/lang/invoke/MethodHandle" ∧ M.1.cls ≠ "java/lang/invoke/VarHandle" ∧ (parseMethodDescriptor M.1.desc).map (fun d => d.parameters.length) = some n) ∧ M.2.2.1 ≤ 41
def vMeth (M : Mth) : Prop := Cond.instanceMethod M.1 ∈ TBg ∧ Cond.selects M.1.cls M.1 M.1 ∈ TBg
def sMeth (M : Mth) : Prop := Cond.static M.1 ∈ TBg
def iMeth (M : Mth) : Prop := M.1.name = "<init>" ∧ Cond.instanceMethod M.1 ∈ TBg
theorem Abv.call {ab : Nat} {A B : Nat → Prop} {s U : State} {H : Heap} {locs : List Loc} (h : Abv ab A s s.heap) (hS : va_S A s.heap H locs) (hB : ∀ q, B q → A q) (hal : s.vm.Alike U.vm) (hU : U.heap = H) : Abv ab B U U.heap := by
  subst hU
  obtain ⟨hZ, hX, hlt, hA⟩ := h
  exact ⟨((hZ.kept hS.2.1).narrow hB).moved hal, (hX.kept (hS.2.1 ab hlt hA)).moved hal, Nat.lt_of_lt_of_le hlt hS.1, fun q => hA (hB _ q)⟩
theorem Abv.moved {ab : Nat} {A : Nat → Prop} {s U : State} {H : Heap} (h : Abv ab A s H) (hal : s.vm.Alike U.vm) : Abv ab A U H := ⟨h.1.moved hal, h.2.1.moved hal, h.2.2⟩
theorem Pw_blind {G : va_G} {ab : Nat} {vs : List Value} {T : Topo} {I : IM} {ad : Nat → Nat} {ca : Nat → ClassId} {sz : Nat} : FrameBlind (Pw G ab vs T I ad ca sz) := by
  intro a U g mk h
  obtain ⟨h1, h2, h3, h4, h5, h6, h7, h8, h9, h10⟩ := h
  exact ⟨h1, h2, h3, h4, va_K.moved (u := U) (U := U.calling g mk a) (Vm.Alike.refl U.vm) h5, aOK.moved (u := U) (U := U.calling g mk a) (Vm.Alike.refl U.vm) h6, h7, Abv.moved (s := U) (U := U.calling g mk a) h8 (Vm.Alike.refl U.vm), NestOK.same (u := U) (U := U.calling g mk a) rfl h9, h10⟩
theorem Fr_sub {G : va_G} {s : State} {A : Nat → Prop} {T0 T : Topo} {ad0 ad : Nat → Nat} {I : IM} {ca : Nat → ClassId} {H : Heap} {locs : List Loc} (D : Dy G s A T0 ad0 T I ad ca H locs) (hA : ∀ q, s.heap.size ≤ q → A q) : ∀ q, Fr T ad H.size q → A q := by
  rintro q (⟨k, hk, rfl⟩ | h)
  · exact D.2.1.2 k _ (cW_at hk)
  · exact hA q (Nat.le_trans D.2.2.2.2.2.1.1 h)
theorem Pw_at {M : Mth} {p : Program} {s U : State} {m : MethodId} {args : Array Value} {meth : Method} {cd : Code} {G : va_G} {ab : Nat} {A : Nat → Prop} {T0 T : Topo} {ad0 ad : Nat → Nat} {I : IM} {ca : Nat → ClassId} {H : Heap} {locs : List Loc} {vs : List Value} (F : Fx M p s m args meth cd ab A) (D : Dy G s A T0 ad0 T I ad ca H locs) (hvs : ∀ v ∈ vs, vOK (tN T) v) (hU : U.heap = H) (hW : s.WarmedH U.vm) : Pw G ab vs T I ad ca H.size (vs.map (trv ad)).toArray U := by
  refine ⟨rfl, by rw [hU], by rw [hU]; exact D.1, D.2.1.weaken (fun _ _ _ _ => trivial), va_K.moved hW.alike D.2.2.1, D.2.2.2.1.moved hW.alike, D.2.2.2.2.1, F.2.2.2.2.2.2.2.2.2.1.call D.2.2.2.2.2.1 (Fr_sub D F.2.2.2.2.2.2.2.2.2.2) hW.alike hU, F.2.2.2.2.2.2.2.2.1.warm hW, hvs⟩
section JC
variable {d : Nat} {M : Mth} {Post : Pst} {C S pc c sl : Nat} {ls : List (Option Value)} {st : List Value} {T : Topo} {I : IM}
theorem J_after {p : Program} {l : Launch} {e : Env} {s : State} {m : MethodId} {args : Array Value} {below : List Frame} {meth : Method} {cd : Code} {G : va_G} {ab : Nat} {T0 : Topo} {ad0 ad : Nat → Nat} {ca : Nat → ClassId} {H : Heap} {locs : List Loc} {LS : Array Slot} {g : List Value} {rest : List Value} {a : Array Value} {mc ms : Nat} {P' : Pst}
    (hr : va_Run p l e (Rm d C S) s m args below meth cd H locs c sl mc ms (F0 m pc LS g) (rest.map (trv ad)) (Qw G T ad H.size P' a) (Fr T ad H.size))
    (F : Fx M p s m args meth cd ab (Fr T0 ad0 s.heap.size)) (D : Dy G s (Fr T0 ad0 s.heap.size) T0 ad0 T I ad ca H locs) (hl : lvO LS M.2.2.1 ls ad (tN T)) (hv : ∀ v ∈ rest, vOK (tN T) v)
    (kk : ∀ r T' I', P' r T' I' → J d M Post C S (pc + 3) ls (r.toList ++ rest) T' I' (c + mc) (sl + ms)) :
    W p l e (Rm d C S) s m args below meth cd H locs c sl (MQ below (Qw G T0 ad0 s.heap.size Post) args s C S (Fr T0 ad0 s.heap.size)) (F0 m pc LS g) := by
  intro Tm hT X
  obtain ⟨v, st₀, t, T', L, h0, X', hL, e1, e2, ⟨⟨r, T2, I2, ad2, ca2, hv2, hp, hn2, had, hrv, hP, hD, hA, hR⟩, hz, hk⟩, stp⟩ := hr Tm hT X
  rw [h0] at hz hk
  cases hv2
  have hsub := Fr_sub D F.2.2.2.2.2.2.2.2.2.2
  have hal : t.vm.Alike s.vm := by rw [← e2]; exact X'.warmed.alike.symm
  have hS := D.2.2.2.2.2.1
  have D2 : Dy G s (Fr T0 ad0 s.heap.size) T0 ad0 T2 I2 ad2 ca2 T'.heap (locs ++ L) := by
    refine ⟨by rw [e1]; exact hP, hD.weaken (fun k q _ h => hsub _ h), D.2.2.1, hA.moved hal, hR, ⟨Nat.le_trans hS.1 (by rw [e1]; exact hz), fun q h1 h2 => ?_, fun q hq => ?_⟩, Nat.le_trans D.2.2.2.2.2.2.1 hn2, fun k hk0 => by rw [had k (Nat.lt_of_lt_of_le hk0 D.2.2.2.2.2.2.1)]; exact D.2.2.2.2.2.2.2 k hk0⟩
    · rw [e1, hk q (Nat.lt_of_lt_of_le h1 hS.1) (fun z => h2 (hsub q z))]
      exact hS.2.1 q h1 h2
    · rcases List.mem_append.mp hq with h | h
      · exact hS.2.2 q h
      · exact hsub _ (hL q h)
  have hst : ∀ w ∈ r.toList ++ rest, vOK (tN T2) w := by
    intro w hw
    rcases List.mem_append.mp hw with h | h
    · exact hrv w (by simpa using h)
    · exact (hv w h).mono hn2
  obtain ⟨t2, a1, b1⟩ := kk r T2 I2 hp p l e s m args below meth cd G ab T0 ad0 ad2 ca2 T'.heap (locs ++ L) LS F D2 (hl.ad hn2 had) hst T' rfl X'
  refine ⟨t2, stp t2 ?_, b1⟩
  have ef : (r.toList ++ rest).map (trv ad2) = (r.map (trv ad2)).toList ++ rest.map (trv ad) := by
    rw [List.map_append, trv_map had hv]
    cases r <;> rfl
  rw [ef] at a1
  exact a1
theorem room_d {d d' L : Nat} (h : d' + 1 ≤ d) (hL : L ≤ 41) : 8 + (L + 11) + 60 * d' ≤ 60 * d := by omega
theorem cat_map (ad : Nat → Nat) (rest : List Value) : ((rest.map (trv ad)).map fun v => v.category).sum = (rest.map fun v => v.category).sum := by
  rw [List.map_map]
  congr 1
  exact List.map_congr_left fun v _ => trv_cat ad v
theorem J.callV {M' : Mth} {n idx d' mc ms : Nat} {k : Nat} {as rest : List Value} {P' : Pst} {κ : Nat} {q : vw_C} (hκ : tK T k = κ) (hq : vwCl[κ]? = some q) (hqC : q.1 = M'.1.cls)
    (hd : decode M.2.1 pc = .ok (.invokevirtual idx, 3)) (hy : yOK M' n) (hvm : vMeth M') (hlk : mLk M.1.cls idx M'.1) (hst : st = as.reverse ++ .ref k :: rest) (hn : as.length = n) (hrest : Nat.ble ((rest.map fun v => v.category).sum) 8 = true) (hdep : d' + 1 ≤ d) (hc : c + mc ≤ C) (hs : sl + ms ≤ S)
    (hM : Ct d' M' (.ref k :: as) T I mc ms P')
    (kk : ∀ r T' I', P' r T' I' → J d M Post C S (pc + 3) ls (r.toList ++ rest) T' I' (c + mc) (sl + ms)) : J d M Post C S pc ls st T I c sl := by
  intro p l e s m args below meth cd G ab T0 ad0 ad ca H locs LS F D hl hv
  obtain ⟨hmi, hini, hnm, hL⟩ := hy
  have hvr : ∀ v ∈ rest, vOK (tN T) v := fun v hm => hv v (by rw [hst]; simp [hm])
  have hrest' : ((rest.map (trv ad)).map fun v => v.category).sum ≤ 8 := by rw [cat_map]; exact Nat.le_of_ble_eq_true hrest
  have hsk : st.map (trv ad) = (as.map (trv ad)).reverse ++ .ref (ad k) :: rest.map (trv ad) := by rw [hst, List.map_append, List.map_reverse, List.map_cons]; rfl
  have hvk : ∀ v ∈ (.ref k :: as : List Value), vOK (tN T) v := fun v hm => hv v (by rw [hst]; rcases List.mem_cons.mp hm with h | h <;> simp [h])
  have hts := F.2.2.2.2.1
  have hG : GoodIn (wd M) (wd M') := wd_good hmi
  have hFx : CallFix p m cd M.2.1 M.2.2.1 s args (wd M) M.1.cls := ⟨F.1, F.2.1, F.2.2.1, F.2.2.2.1, hts⟩
  have hR : (Rm d' mc ms).frames + 1 ≤ (Rm d C S).frames ∧ 8 + (M'.2.2.1 + 11) + (Rm d' mc ms).locals ≤ (Rm d C S).locals := ⟨hdep, room_d hdep hL⟩
  refine J_after (g := st.map (trv ad)) (rest := rest) (a := ((.ref k :: as : List Value).map (trv ad)).toArray) (P' := P') ?_ F D hl hvr kk
  rcases hlk with hlk | ⟨host, hlk⟩
  · have hrv : ∃ cellB : Cell, H[ad k]? = some cellB ∧ cellB.vm.isStatics = false ∧ s.vm.findClass M'.1.cls = some cellB.cls := by
      have h1 := va_recv D.2.2.1 D.1 hq ((cW_at (vs_h hvk)).trans (by rw [cE_obj hκ (vwCl_lt hq)]))
      rwa [hqC] at h1
    exact va_runV hFx (hM l G ab ad ca H.size) ⟨callB_of n hts hG rfl rfl rfl (hasCode F hini) (hasCode F hlk) hnm hR, hasCode F hvm.1, hasCode F hvm.2⟩ ⟨Pw_blind, hrv, fun U hU hW => Pw_at F D hvk hU hW⟩ rfl ((List.length_map _).trans hn) hl.1 hsk (lv_room hrest') hd ⟨hc, hs⟩
  · have hrv : ∃ cellB : Cell, H[ad k]? = some cellB ∧ cellB.vm.isStatics = false ∧ s.vm.findClass M'.1.cls = some cellB.cls := by
      have h1 := va_recv D.2.2.1 D.1 hq ((cW_at (vs_h hvk)).trans (by rw [cE_obj hκ (vwCl_lt hq)]))
      rwa [hqC] at h1
    exact va_runVN hFx (hM l G ab ad ca H.size) ⟨va_cnB n hts hG rfl rfl rfl (F.2.2.2.2.2.2.2.2.1 _ hlk rfl) (hasCode F hini) hnm hR, hasCode F hvm.1, hasCode F hvm.2⟩ ⟨Pw_blind, hrv, fun U hU hW => Pw_at F D hvk hU hW⟩ rfl ((List.length_map _).trans hn) hl.1 hsk (lv_room hrest') hd ⟨hc, hs⟩
theorem J.callS {M' : Mth} {n idx d' mc ms : Nat} {as rest : List Value} {P' : Pst} 
    (hd : decode M.2.1 pc = .ok (.invokestatic idx, 3)) (hy : yOK M' n) (hvm : sMeth M') (hlk : mLk M.1.cls idx M'.1) (hst : st = as.reverse ++ rest) (hn : as.length = n) (hrest : Nat.ble ((rest.map fun v => v.category).sum) 8 = true) (hdep : d' + 1 ≤ d) (hc : c + mc ≤ C) (hs : sl + ms ≤ S)
    (hM : Ct d' M' (as) T I mc ms P')
    (kk : ∀ r T' I', P' r T' I' → J d M Post C S (pc + 3) ls (r.toList ++ rest) T' I' (c + mc) (sl + ms)) : J d M Post C S pc ls st T I c sl := by
  intro p l e s m args below meth cd G ab T0 ad0 ad ca H locs LS F D hl hv
  obtain ⟨hmi, hini, hnm, hL⟩ := hy
  have hvr : ∀ v ∈ rest, vOK (tN T) v := fun v hm => hv v (by rw [hst]; simp [hm])
  have hrest' : ((rest.map (trv ad)).map fun v => v.category).sum ≤ 8 := by rw [cat_map]; exact Nat.le_of_ble_eq_true hrest
  have hsk : st.map (trv ad) = (as.map (trv ad)).reverse ++ rest.map (trv ad) := by rw [hst, List.map_append, List.map_reverse]
  have hvk : ∀ v ∈ (as : List Value), vOK (tN T) v := fun v hm => hv v (by rw [hst]; simp [hm])
  have hts := F.2.2.2.2.1
  have hG : GoodIn (wd M) (wd M') := wd_good hmi
  have hFx : CallFix p m cd M.2.1 M.2.2.1 s args (wd M) M.1.cls := ⟨F.1, F.2.1, F.2.2.1, F.2.2.2.1, hts⟩
  have hR : (Rm d' mc ms).frames + 1 ≤ (Rm d C S).frames ∧ 8 + (M'.2.2.1 + 11) + (Rm d' mc ms).locals ≤ (Rm d C S).locals := ⟨hdep, room_d hdep hL⟩
  refine J_after (g := st.map (trv ad)) (rest := rest) (a := ((as : List Value).map (trv ad)).toArray) (P' := P') ?_ F D hl hvr kk
  rcases hlk with hlk | ⟨host, hlk⟩
  · exact va_runS hFx (hM l G ab ad ca H.size) ⟨callB_of n hts hG rfl rfl rfl (hasCode F hini) (hasCode F hlk) hnm hR, hasCode F hvm⟩ ⟨Pw_blind, fun U hU hW => Pw_at F D hvk hU hW⟩ rfl ((List.length_map _).trans hn) hl.1 hsk (lv_room hrest') hd ⟨hc, hs⟩
  · exact va_runSN hFx (hM l G ab ad ca H.size) ⟨va_cnB n hts hG rfl rfl rfl (F.2.2.2.2.2.2.2.2.1 _ hlk rfl) (hasCode F hini) hnm hR, hasCode F hvm, trivial⟩ ⟨Pw_blind, fun U hU hW => Pw_at F D hvk hU hW⟩ rfl ((List.length_map _).trans hn) hl.1 hsk (lv_room hrest') hd ⟨hc, hs⟩
theorem J.callI {M' : Mth} {n idx d' mc ms : Nat} {k : Nat} {as rest : List Value} {P' : Pst} (hnone : M'.2.2.2 = none)
    (hd : decode M.2.1 pc = .ok (.invokespecial idx, 3)) (hy : yOK M' n) (hvm : iMeth M') (hlk : mLk M.1.cls idx M'.1) (hst : st = as.reverse ++ .ref k :: rest) (hn : as.length = n) (hrest : Nat.ble ((rest.map fun v => v.category).sum) 8 = true) (hdep : d' + 1 ≤ d) (hc : c + mc ≤ C) (hs : sl + ms ≤ S)
    (hM : Ct d' M' (.ref k :: as) T I mc ms P')
    (kk : ∀ r T' I', P' r T' I' → J d M Post C S (pc + 3) ls (r.toList ++ rest) T' I' (c + mc) (sl + ms)) : J d M Post C S pc ls st T I c sl := by
  intro p l e s m args below meth cd G ab T0 ad0 ad ca H locs LS F D hl hv
  obtain ⟨hmi, hini, hnm, hL⟩ := hy
  have hvr : ∀ v ∈ rest, vOK (tN T) v := fun v hm => hv v (by rw [hst]; simp [hm])
  have hrest' : ((rest.map (trv ad)).map fun v => v.category).sum ≤ 8 := by rw [cat_map]; exact Nat.le_of_ble_eq_true hrest
  have hsk : st.map (trv ad) = (as.map (trv ad)).reverse ++ .ref (ad k) :: rest.map (trv ad) := by rw [hst, List.map_append, List.map_reverse, List.map_cons]; rfl
  have hvk : ∀ v ∈ (.ref k :: as : List Value), vOK (tN T) v := fun v hm => hv v (by rw [hst]; rcases List.mem_cons.mp hm with h | h <;> simp [h])
  have hts := F.2.2.2.2.1
  have hG : GoodIn (wd M) (wd M') := wd_good hmi
  have hFx : CallFix p m cd M.2.1 M.2.2.1 s args (wd M) M.1.cls := ⟨F.1, F.2.1, F.2.2.1, F.2.2.2.1, hts⟩
  have hR : (Rm d' mc ms).frames + 1 ≤ (Rm d C S).frames ∧ 8 + (M'.2.2.1 + 11) + (Rm d' mc ms).locals ≤ (Rm d C S).locals := ⟨hdep, room_d hdep hL⟩
  refine J_after (g := st.map (trv ad)) (rest := rest) (a := ((.ref k :: as : List Value).map (trv ad)).toArray) (P' := P') ?_ F D hl hvr kk
  rcases hlk with hlk | ⟨host, hlk⟩
  · exact va_runI hFx (hM l G ab ad ca H.size) ⟨hnone ▸ callB_of n hts hG rfl rfl rfl (hasCode F hini) (hasCode F hlk) hnm hR, hvm.1, hasCode F hvm.2⟩ ⟨Pw_blind, fun U hU hW => Pw_at F D hvk hU hW⟩ rfl ((List.length_map _).trans hn) hl.1 hsk (lv_room hrest') hd ⟨hc, hs⟩
  · exact va_runIN hFx (hM l G ab ad ca H.size) ⟨hnone ▸ va_cnB n hts hG rfl rfl rfl (F.2.2.2.2.2.2.2.2.1 _ hlk rfl) (hasCode F hini) hnm hR, hvm.1, hasCode F hvm.2⟩ ⟨Pw_blind, fun U hU hW => Pw_at F D hvk hU hW⟩ rfl ((List.length_map _).trans hn) hl.1 hsk (lv_room hrest') hd ⟨hc, hs⟩
theorem J.objInit {k idx : Nat} (hd : decode M.2.1 pc = .ok (.invokespecial idx, 3)) (hlk : Cond.methodLink M.1.cls idx Lib.objectInit ∈ TBg) (hin : Cond.instanceMethod Lib.objectInit ∈ TBg) (hco : Cond.code Lib.objectInit ⟨#[0xb1]⟩ 1 none ∈ TBg) (hrest : Nat.ble ((st.map fun v => v.category).sum) 8 = true) (hdep : 1 ≤ d)
    (kk : J d M Post C S (pc + 3) ls st T I c sl) : J d M Post C S pc ls (.ref k :: st) T I c sl := by
  intro p l e s m args below meth cd G ab T0 ad0 ad ca H locs LS F D hl hv
  have hrest' : ((st.map (trv ad)).map fun v => v.category).sum ≤ 8 := by rw [cat_map]; exact Nat.le_of_ble_eq_true hrest
  refine W.objInit F.1 F.2.1 F.2.2.2.1 (hasCode F hlk) (hasCode F hin) (hasCode F hco) rfl (hl.1.trans F.2.2.1.symm) rfl hd hdep ?_ (kk p l e s m args below meth cd G ab T0 ad0 ad ca H locs LS F D hl (vs_t hv))
  have h60 : (Rm d C S).locals = 60 * d := rfl
  show 2 * 0 + _ + 12 ≤ _
  omega
def cpy2 (I : IM) (k0 k1 sp dp n : Nat) : IM := fun a => if a = k1 then va_cpy (I k0) (I k1) sp dp n else I a
theorem J.acopy {k0 k1 idx : Nat} {sp dp n : Int32} (hd : decode M.2.1 pc = .ok (.invokestatic idx, 3)) (hlk : Cond.methodLink M.1.cls idx arraycopyName ∈ TBg) (hnat : Cond.native arraycopyName ∈ TBg) (hstat : Cond.static arraycopyName ∈ TBg) (hini : Cond.initialized "java/lang/System" ∈ TBg) (hκ0 : tK T k0 = 13) (hκ1 : tK T k1 = 13)
    (h1 : ¬ sp < 0) (h2 : ¬ dp < 0) (h3 : ¬ n < 0) (h4 : sp.toNatClampNeg + n.toNatClampNeg ≤ tL T k0) (h5 : dp.toNatClampNeg + n.toNatClampNeg ≤ tL T k1) (hrest : Nat.ble ((st.map fun v => v.category).sum) 8 = true) (hdep : 1 ≤ d)
    (kk : J d M Post C S (pc + 3) ls st T (cpy2 I k0 k1 sp.toNatClampNeg dp.toNatClampNeg n.toNatClampNeg) c sl) : J d M Post C S pc ls (.int n :: .int dp :: .ref k1 :: .int sp :: .ref k0 :: st) T I c sl := by
  intro p l e s m args below meth cd G ab T0 ad0 ad ca H locs LS F D hl hv
  have hrest' : ((st.map (trv ad)).map fun v => v.category).sum ≤ 8 := by rw [cat_map]; exact Nat.le_of_ble_eq_true hrest
  have hk1 : k1 < tN T := vs_h (vs_t (vs_t hv))
  have hk0 : k0 < tN T := vs_h (vs_t (vs_t (vs_t (vs_t hv))))
  have hA0 := D.2.2.2.1 k0 hk0 (by omega)
  have hA1 := D.2.2.2.1 k1 hk1 (by omega)
  rw [hκ0] at hA0
  rw [hκ1] at hA1
  have hK2 : va_K G vwCl [(ca k0, .int), (ca k1, .int)] s := by
    refine ⟨D.2.2.1.1, fun i q hq => ?_⟩
    match i, hq with
    | 0, hq => cases hq; exact hA0
    | 1, hq => cases hq; exact hA1
    | i + 2, hq => simp at hq
  refine va_copyi F.1 F.2.1 (F.2.2.1.trans hl.1.symm) F.2.2.2.1 (hasCode F hlk) (hasCode F hnat) (hasCode F hstat) (hasCode F hini) hK2 D.1 D.2.1 D.2.2.2.2.2.1 k0 k1 0 1 ((cW_at hk0).trans (by rw [cE_int (by omega)])) ((cW_at hk1).trans (by rw [cE_int (by omega)])) rfl rfl rfl h1 h2 h3 h4 h5 (fun _ _ => rfl) hdep ?_ hd (fun H1 locs1 hP1 hD1 hS1 => ?_)
  · have h60 : (Rm d C S).locals = 60 * d := rfl
    have hnw : nativeFrameWords "java/lang/System" "arraycopy" 5 + 11 ≤ 52 := by decide
    omega
  · have eW : (cW ad ca T I).set k1 (ad k1, .inl (ca k1, tL T k1, .inl (va_cpy (I k0) (I k1) sp.toNatClampNeg dp.toNatClampNeg n.toNatClampNeg))) = cW ad ca T (cpy2 I k0 k1 sp.toNatClampNeg dp.toNatClampNeg n.toNatClampNeg) := by
      have en : ∀ a, a ≠ k1 → cpy2 I k0 k1 sp.toNatClampNeg dp.toNatClampNeg n.toNatClampNeg a = I a := fun a ha => if_neg ha
      refine cW_set hk1 rfl ?_ (fun a ha => ?_)
      · rw [cE_int (by omega), cpy2, if_pos rfl]
      · have e : fv ad T (cpy2 I k0 k1 sp.toNatClampNeg dp.toNatClampNeg n.toNatClampNeg) a = fv ad T I a := by funext i; simp only [fv, en a ha]
        simp only [cE, e, en a ha]
    rw [eW] at hP1 hD1
    exact kk p l e s m args below meth cd G ab T0 ad0 ad ca H1 locs1 LS F ⟨hP1, hD1, D.2.2.1, D.2.2.2.1, D.2.2.2.2.1, hS1, D.2.2.2.2.2.2⟩ hl (vs_t (vs_t (vs_t (vs_t (vs_t hv)))))
end JC
