/-! contracts by what they answer -/
def PI (Q : Int32 → Topo → IM → Prop) : Pst := fun r T I => ∃ x, r = some (.int x) ∧ Q x T I
def PV (Q : Topo → IM → Prop) : Pst := fun r T I => r = none ∧ Q T I
def PR (Q : Nat → Topo → IM → Prop) : Pst := fun r T I => ∃ k, r = some (.ref k) ∧ Q k T I
/-- answers v and changes nothing -/
def CtP (d : Nat) (M : Mth) (vs : List Value) (T : Topo) (I : IM) (v : Int32) : Prop := Ct d M vs T I 0 0 (PI fun x T' I' => x = v ∧ T' = T ∧ I' = I)
/-- answers the cell k and changes nothing -/
def CtF (d : Nat) (M : Mth) (vs : List Value) (T : Topo) (I : IM) (k : Nat) : Prop := Ct d M vs T I 0 0 (PR fun x T' I' => x = k ∧ T' = T ∧ I' = I)
/-- makes nothing; numbers may change -/
def CtI (d : Nat) (M : Mth) (vs : List Value) (T : Topo) (I : IM) (Q : Int32 → IM → Prop) : Prop := Ct d M vs T I 0 0 (PI fun x T' I' => T' = T ∧ Q x I')
def CtV (d : Nat) (M : Mth) (vs : List Value) (T : Topo) (I : IM) (Q : IM → Prop) : Prop := Ct d M vs T I 0 0 (PV fun T' I' => T' = T ∧ Q I')
def bI (c : Prop) [Decidable c] : Int32 := if c then 1 else 0
theorem bI_01 (c : Prop) [Decidable c] : bI c = 0 ∨ bI c = 1 := by unfold bI; split <;> simp
theorem bI_0 (c : Prop) [Decidable c] : bI c = 0 ↔ ¬ c := by unfold bI; split <;> simp_all
theorem bI_t {c : Prop} [Decidable c] (h : c) : bI c = 1 := if_pos h
theorem bI_f {c : Prop} [Decidable c] (h : ¬ c) : bI c = 0 := if_neg h
def lsLe : List (Option Value) → List (Option Value) → Prop
  | [], [] => True
  | none :: a, _ :: b => lsLe a b
  | some v :: a, some w :: b => v = w ∧ lsLe a b
  | _, _ => False
theorem lsLe.at : ∀ {a b : List (Option Value)}, lsLe a b → a.length = b.length ∧ ∀ (i : Nat) (v : Value), a[i]? = some (some v) → b[i]? = some (some v)
  | [], [], _ => ⟨rfl, fun i v h => h⟩
  | none :: a, w :: b, h => by
    obtain ⟨h1, h2⟩ := lsLe.at (a := a) (b := b) h
    refine ⟨by simp [h1], fun i v hi => ?_⟩
    cases i with
    | zero => simp at hi
    | succ i => simpa using h2 i v (by simpa using hi)
  | some v :: a, some w :: b, h => by
    obtain ⟨e, h⟩ := h
    subst e
    obtain ⟨h1, h2⟩ := lsLe.at (a := a) (b := b) h
    refine ⟨by simp [h1], fun i v hi => ?_⟩
    cases i with
    | zero => simpa using hi
    | succ i => simpa using h2 i v (by simpa using hi)
section JQ
variable {d : Nat} {M : Mth} {Post : Pst} {C S pc c sl : Nat} {ls ls' : List (Option Value)} {st : List Value} {T : Topo} {I : IM}
theorem J.weaken (h : lsLe ls' ls) (k : J d M Post C S pc ls' st T I c sl) : J d M Post C S pc ls st T I c sl := by
  intro p l e s m args below meth cd G ab T0 ad0 ad ca H locs LS F D hl hv
  exact k p l e s m args below meth cd G ab T0 ad0 ad ca H locs LS F D ⟨hl.1, hl.2.1, h.at.1.trans hl.2.2.1, fun i v hi => hl.2.2.2 i v (h.at.2 i v hi)⟩ hv
theorem J.bz_eq {q : Prop} [Decidable q] {off : Int} {tgt : Nat} (hd : decode M.2.1 pc = .ok (.ifCond .eq off, 3)) (ht : (pc : Int) + off = (tgt : Int))
    (kt : ¬ q → J d M Post C S tgt ls st T I c sl) (kf : q → J d M Post C S (pc + 3) ls st T I c sl) : J d M Post C S pc ls (.int (bI q) :: st) T I c sl :=
  J.if_eq hd ht (fun h => kt ((bI_0 q).mp h)) (fun h => kf (Classical.byContradiction fun z => h ((bI_0 q).mpr z)))
theorem J.bz_ne {q : Prop} [Decidable q] {off : Int} {tgt : Nat} (hd : decode M.2.1 pc = .ok (.ifCond .ne off, 3)) (ht : (pc : Int) + off = (tgt : Int))
    (kt : q → J d M Post C S tgt ls st T I c sl) (kf : ¬ q → J d M Post C S (pc + 3) ls st T I c sl) : J d M Post C S pc ls (.int (bI q) :: st) T I c sl :=
  J.if_ne hd ht (fun h => kt (Classical.byContradiction fun z => h ((bI_0 q).mpr z))) (fun h => kf ((bI_0 q).mp h))
theorem J.iretQ {v : Int32} {Q : Int32 → Topo → IM → Prop} (hd : decode M.2.1 pc = .ok (.ireturn, 1)) (hr : M.2.2.2 = some .int) (hc : c ≤ C) (hs : sl ≤ S) (hp : Q v T I) : J d M (PI Q) C S pc ls [.int v] T I c sl := J.iret hd hr hc hs ⟨v, rfl, hp⟩
theorem J.zretQ {v : Int32} {Q : Int32 → Topo → IM → Prop} (hd : decode M.2.1 pc = .ok (.ireturn, 1)) (hr : M.2.2.2 = some .boolean) (hz : v = 0 ∨ v = 1) (hc : c ≤ C) (hs : sl ≤ S) (hp : Q v T I) : J d M (PI Q) C S pc ls [.int v] T I c sl := J.zret hd hr hz hc hs ⟨v, rfl, hp⟩
theorem J.vretQ {Q : Topo → IM → Prop} (hd : decode M.2.1 pc = .ok (.return_, 1)) (hr : M.2.2.2 = none) (hc : c ≤ C) (hs : sl ≤ S) (hp : Q T I) : J d M (PV Q) C S pc ls [] T I c sl := J.vret hd hr hc hs ⟨rfl, hp⟩
theorem J.aretQ {k : Nat} {ty : FieldType} {Q : Nat → Topo → IM → Prop} (hd : decode M.2.1 pc = .ok (.areturn, 1)) (hr : M.2.2.2 = some ty) (hty : (∃ n, ty = .object n) ∨ ∃ t, ty = .array t) (hc : c ≤ C) (hs : sl ≤ S) (hp : Q k T I) : J d M (PR Q) C S pc ls [.ref k] T I c sl := J.aret hd hr hty hc hs ⟨k, rfl, hp⟩
theorem J.callVP {M' : Mth} {n idx d' : Nat} {k : Nat} {as rest : List Value} {κ : Nat} {q : vw_C} {v : Int32} (hd : decode M.2.1 pc = .ok (.invokevirtual idx, 3)) (hy : yOK M' n) (hvm : vMeth M') (hlk : mLk M.1.cls idx M'.1) (hκ : tK T k = κ) (hq : vwCl[κ]? = some q) (hqC : q.1 = M'.1.cls) (hst : st = as.reverse ++ .ref k :: rest) (hn : as.length = n) (hrest : Nat.ble ((rest.map fun v => v.category).sum) 8 = true) (hdep : d' + 1 ≤ d) (hc : c ≤ C) (hs : sl ≤ S) (hM : CtP d' M' (.ref k :: as) T I v) (kk : J d M Post C S (pc + 3) ls (.int v :: rest) T I c sl) : J d M Post C S pc ls st T I c sl :=
  J.callV hκ hq hqC hd hy hvm hlk hst hn hrest hdep hc hs hM (fun r T' I' h => by obtain ⟨x, rfl, rfl, rfl, rfl⟩ := h; exact kk)
theorem J.callSP {M' : Mth} {n idx d' : Nat} {as rest : List Value} {v : Int32} (hd : decode M.2.1 pc = .ok (.invokestatic idx, 3)) (hy : yOK M' n) (hvm : sMeth M') (hlk : mLk M.1.cls idx M'.1) (hst : st = as.reverse ++ rest) (hn : as.length = n) (hrest : Nat.ble ((rest.map fun v => v.category).sum) 8 = true) (hdep : d' + 1 ≤ d) (hc : c ≤ C) (hs : sl ≤ S) (hM : CtP d' M' as T I v) (kk : J d M Post C S (pc + 3) ls (.int v :: rest) T I c sl) : J d M Post C S pc ls st T I c sl :=
  J.callS hd hy hvm hlk hst hn hrest hdep hc hs hM (fun r T' I' h => by obtain ⟨x, rfl, rfl, rfl, rfl⟩ := h; exact kk)
theorem J.callVF {M' : Mth} {n idx d' : Nat} {k : Nat} {as rest : List Value} {κ : Nat} {q : vw_C} {r : Nat} (hd : decode M.2.1 pc = .ok (.invokevirtual idx, 3)) (hy : yOK M' n) (hvm : vMeth M') (hlk : mLk M.1.cls idx M'.1) (hκ : tK T k = κ) (hq : vwCl[κ]? = some q) (hqC : q.1 = M'.1.cls) (hst : st = as.reverse ++ .ref k :: rest) (hn : as.length = n) (hrest : Nat.ble ((rest.map fun v => v.category).sum) 8 = true) (hdep : d' + 1 ≤ d) (hc : c ≤ C) (hs : sl ≤ S) (hM : CtF d' M' (.ref k :: as) T I r) (kk : J d M Post C S (pc + 3) ls (.ref r :: rest) T I c sl) : J d M Post C S pc ls st T I c sl :=
  J.callV hκ hq hqC hd hy hvm hlk hst hn hrest hdep hc hs hM (fun r T' I' h => by obtain ⟨x, rfl, rfl, rfl, rfl⟩ := h; exact kk)
theorem J.callVI {M' : Mth} {n idx d' : Nat} {k : Nat} {as rest : List Value} {κ : Nat} {q : vw_C} {Q : Int32 → IM → Prop} (hd : decode M.2.1 pc = .ok (.invokevirtual idx, 3)) (hy : yOK M' n) (hvm : vMeth M') (hlk : mLk M.1.cls idx M'.1) (hκ : tK T k = κ) (hq : vwCl[κ]? = some q) (hqC : q.1 = M'.1.cls) (hst : st = as.reverse ++ .ref k :: rest) (hn : as.length = n) (hrest : Nat.ble ((rest.map fun v => v.category).sum) 8 = true) (hdep : d' + 1 ≤ d) (hc : c ≤ C) (hs : sl ≤ S) (hM : CtI d' M' (.ref k :: as) T I Q) (kk : ∀ x I', Q x I' → J d M Post C S (pc + 3) ls (.int x :: rest) T I' c sl) : J d M Post C S pc ls st T I c sl :=
  J.callV hκ hq hqC hd hy hvm hlk hst hn hrest hdep hc hs hM (fun r T' I' h => by obtain ⟨x, rfl, rfl, h⟩ := h; exact kk x I' h)
theorem J.callVV {M' : Mth} {n idx d' : Nat} {k : Nat} {as rest : List Value} {κ : Nat} {q : vw_C} {Q : IM → Prop} (hd : decode M.2.1 pc = .ok (.invokevirtual idx, 3)) (hy : yOK M' n) (hvm : vMeth M') (hlk : mLk M.1.cls idx M'.1) (hκ : tK T k = κ) (hq : vwCl[κ]? = some q) (hqC : q.1 = M'.1.cls) (hst : st = as.reverse ++ .ref k :: rest) (hn : as.length = n) (hrest : Nat.ble ((rest.map fun v => v.category).sum) 8 = true) (hdep : d' + 1 ≤ d) (hc : c ≤ C) (hs : sl ≤ S) (hM : CtV d' M' (.ref k :: as) T I Q) (kk : ∀ I', Q I' → J d M Post C S (pc + 3) ls rest T I' c sl) : J d M Post C S pc ls st T I c sl :=
  J.callV hκ hq hqC hd hy hvm hlk hst hn hrest hdep hc hs hM (fun r T' I' h => by obtain ⟨rfl, rfl, h⟩ := h; exact kk I' h)
theorem J.callVgI {M' : Mth} {n idx d' : Nat} {k : Nat} {as rest : List Value} {κ : Nat} {q : vw_C} {mc ms : Nat} {Q : Int32 → Topo → IM → Prop} (hd : decode M.2.1 pc = .ok (.invokevirtual idx, 3)) (hy : yOK M' n) (hvm : vMeth M') (hlk : mLk M.1.cls idx M'.1) (hκ : tK T k = κ) (hq : vwCl[κ]? = some q) (hqC : q.1 = M'.1.cls) (hst : st = as.reverse ++ .ref k :: rest) (hn : as.length = n) (hrest : Nat.ble ((rest.map fun v => v.category).sum) 8 = true) (hdep : d' + 1 ≤ d) (hc : c + mc ≤ C) (hs : sl + ms ≤ S) (hM : Ct d' M' (.ref k :: as) T I mc ms (PI Q)) (kk : ∀ x T' I', Q x T' I' → J d M Post C S (pc + 3) ls (.int x :: rest) T' I' (c + mc) (sl + ms)) : J d M Post C S pc ls st T I c sl :=
  J.callV hκ hq hqC hd hy hvm hlk hst hn hrest hdep hc hs hM (fun r T' I' h => by obtain ⟨x, rfl, h⟩ := h; exact kk x T' I' h)
theorem J.callVgR {M' : Mth} {n idx d' : Nat} {k : Nat} {as rest : List Value} {κ : Nat} {q : vw_C} {mc ms : Nat} {Q : Nat → Topo → IM → Prop} (hd : decode M.2.1 pc = .ok (.invokevirtual idx, 3)) (hy : yOK M' n) (hvm : vMeth M') (hlk : mLk M.1.cls idx M'.1) (hκ : tK T k = κ) (hq : vwCl[κ]? = some q) (hqC : q.1 = M'.1.cls) (hst : st = as.reverse ++ .ref k :: rest) (hn : as.length = n) (hrest : Nat.ble ((rest.map fun v => v.category).sum) 8 = true) (hdep : d' + 1 ≤ d) (hc : c + mc ≤ C) (hs : sl + ms ≤ S) (hM : Ct d' M' (.ref k :: as) T I mc ms (PR Q)) (kk : ∀ x T' I', Q x T' I' → J d M Post C S (pc + 3) ls (.ref x :: rest) T' I' (c + mc) (sl + ms)) : J d M Post C S pc ls st T I c sl :=
  J.callV hκ hq hqC hd hy hvm hlk hst hn hrest hdep hc hs hM (fun r T' I' h => by obtain ⟨x, rfl, h⟩ := h; exact kk x T' I' h)
theorem J.callVgV {M' : Mth} {n idx d' : Nat} {k : Nat} {as rest : List Value} {κ : Nat} {q : vw_C} {mc ms : Nat} {Q : Topo → IM → Prop} (hd : decode M.2.1 pc = .ok (.invokevirtual idx, 3)) (hy : yOK M' n) (hvm : vMeth M') (hlk : mLk M.1.cls idx M'.1) (hκ : tK T k = κ) (hq : vwCl[κ]? = some q) (hqC : q.1 = M'.1.cls) (hst : st = as.reverse ++ .ref k :: rest) (hn : as.length = n) (hrest : Nat.ble ((rest.map fun v => v.category).sum) 8 = true) (hdep : d' + 1 ≤ d) (hc : c + mc ≤ C) (hs : sl + ms ≤ S) (hM : Ct d' M' (.ref k :: as) T I mc ms (PV Q)) (kk : ∀ T' I', Q T' I' → J d M Post C S (pc + 3) ls rest T' I' (c + mc) (sl + ms)) : J d M Post C S pc ls st T I c sl :=
  J.callV hκ hq hqC hd hy hvm hlk hst hn hrest hdep hc hs hM (fun r T' I' h => by obtain ⟨rfl, h⟩ := h; exact kk T' I' h)
theorem J.callIgV {M' : Mth} {n idx d' : Nat} {k : Nat} {as rest : List Value} {mc ms : Nat} {Q : Topo → IM → Prop} (hd : decode M.2.1 pc = .ok (.invokespecial idx, 3)) (hy : yOK M' n) (hvm : iMeth M') (hlk : mLk M.1.cls idx M'.1) (hnone : M'.2.2.2 = none) (hst : st = as.reverse ++ .ref k :: rest) (hn : as.length = n) (hrest : Nat.ble ((rest.map fun v => v.category).sum) 8 = true) (hdep : d' + 1 ≤ d) (hc : c + mc ≤ C) (hs : sl + ms ≤ S) (hM : Ct d' M' (.ref k :: as) T I mc ms (PV Q)) (kk : ∀ T' I', Q T' I' → J d M Post C S (pc + 3) ls rest T' I' (c + mc) (sl + ms)) : J d M Post C S pc ls st T I c sl :=
  J.callI hnone hd hy hvm hlk hst hn hrest hdep hc hs hM (fun r T' I' h => by obtain ⟨rfl, h⟩ := h; exact kk T' I' h)
end JQ
