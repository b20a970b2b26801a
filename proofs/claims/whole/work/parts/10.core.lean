/-! the pure machine: words, memory, worlds -/
def TBg : List Cond := lw_tbl.filter goodWord
theorem TBg_mem {w : Cond} (h : w ∈ lw_tbl) (g : goodWord w = true) : w ∈ TBg := List.mem_filter.mpr ⟨h, g⟩
theorem TBg_good {w : Cond} (h : w ∈ TBg) : goodWord w = true := (List.mem_filter.mp h).2
/-- a method: name, code, locals, what it returns -/
abbrev Mth : Type := MethodName × ByteArray × Nat × Option FieldType
def wd (M : Mth) : List Cond := .code M.1 M.2.1 M.2.2.1 M.2.2.2 :: TBg
def mIn (M : Mth) : Prop := Cond.code M.1 M.2.1 M.2.2.1 M.2.2.2 ∈ TBg
theorem wd_good {M M' : Mth} (h : mIn M') : GoodIn (wd M) (wd M') := by
  intro w hw
  have hw' : w ∈ TBg := by
    rcases List.mem_cons.mp hw with e | e
    · rw [e]; exact h
    · exact e
  exact ⟨List.mem_cons_of_mem _ hw', good_of_word (TBg_good hw')⟩
/-- how many cells, the kind of each, its length, the references that it holds -/
abbrev Topo : Type := Nat × (Nat → Nat) × (Nat → Nat) × (Nat → Nat → Option Nat)
abbrev IM : Type := Nat → Nat → Int32
abbrev tN (T : Topo) : Nat := T.1
abbrev tK (T : Topo) (k : Nat) : Nat := T.2.1 k
abbrev tL (T : Topo) (k : Nat) : Nat := T.2.2.1 k
abbrev tR (T : Topo) (k j : Nat) : Option Nat := T.2.2.2 k j
def up2 (I : IM) (k j : Nat) (v : Int32) : IM := fun a => if a = k then upd (I k) j v else I a
def nF (κ : Nat) : Nat := match κ with
  | 0 => 5 | 1 => 3 | 2 => 6 | 3 => 13 | 4 => 8 | 5 => 6 | 6 => 5 | 7 => 3 | 8 => 19 | 9 => 2 | 10 => 5 | 11 => 8 | 12 => 67 | _ => 0
def rF (κ j : Nat) : Bool := match κ with
  | 0 => decide (j < 4) | 1 => decide (j < 1) | 2 => decide (j < 2) | 3 => decide (j < 10) | 4 => false | 5 => decide (j < 3) | 6 => decide (j < 2) | 7 => decide (j < 1)
  | 8 => decide (j = 18) | 9 => decide (j < 1) | 10 => decide (j < 1) | 11 => decide (j < 7) | 12 => decide (9 ≤ j) && (decide (j ≠ 53) && decide (j ≠ 54)) | _ => false
def aTy (κ : Nat) : FieldType := match κ with
  | 13 => .int | 14 => .boolean | 15 => .object "SliceSeller$Line" | 16 => .object "SliceSeller$Sheet" | _ => .object "SliceSeller$Slice"
def fv (ad : Nat → Nat) (T : Topo) (I : IM) (k j : Nat) : Value := if rF (tK T k) j = true then va_rf ((tR T k j).map ad) else .int (I k j)
def cE (ad : Nat → Nat) (ca : Nat → ClassId) (T : Topo) (I : IM) (k : Nat) : va_E :=
  if tK T k < 13 then .inr (tK T k, (List.range (nF (tK T k))).map (fv ad T I k))
  else if tK T k < 15 then .inl (ca k, tL T k, .inl (I k))
  else .inl (ca k, tL T k, .inr (.inr (.inr (.inr (fun j => (tR T k j).map ad)))))
def cW (ad : Nat → Nat) (ca : Nat → ClassId) (T : Topo) (I : IM) : va_W := (List.range (tN T)).map (fun k => (ad k, cE ad ca T I k))
theorem cW_at {ad : Nat → Nat} {ca : Nat → ClassId} {T : Topo} {I : IM} {k : Nat} (h : k < tN T) : (cW ad ca T I)[k]? = some (ad k, cE ad ca T I k) := by
  simp [cW, h]
theorem cW_of {ad : Nat → Nat} {ca : Nat → ClassId} {T : Topo} {I : IM} {k : Nat} {q : Nat × va_E} (h : (cW ad ca T I)[k]? = some q) : k < tN T ∧ q = (ad k, cE ad ca T I k) := by
  have h1 : k < tN T := by
    have := (List.getElem?_eq_some_iff.mp h).1
    simpa [cW] using this
  rw [cW_at h1] at h
  exact ⟨h1, (Option.some.inj h).symm⟩
theorem cW_set {ad : Nat → Nat} {ca : Nat → ClassId} {T T' : Topo} {I I' : IM} {k : Nat} {e : va_E} (hk : k < tN T) (hn : tN T' = tN T) (he : e = cE ad ca T' I' k) (hE : ∀ j, j ≠ k → cE ad ca T' I' j = cE ad ca T I j) : (cW ad ca T I).set k (ad k, e) = cW ad ca T' I' := by
  apply List.ext_getElem?
  intro j
  rw [List.getElem?_set]
  by_cases hj : k = j
  · subst hj
    have : k < (cW ad ca T I).length := by simpa [cW] using hk
    simp only [this, if_true]
    rw [cW_at (by omega), he]
  · rw [if_neg hj]
    by_cases hb : j < tN T
    · rw [cW_at hb, cW_at (by omega), hE j (fun h => hj h.symm)]
    · rw [List.getElem?_eq_none (by simpa [cW] using hb), List.getElem?_eq_none (by simp [cW]; omega)]
theorem cW_push {ad : Nat → Nat} {ca : Nat → ClassId} {T T' : Topo} {I I' : IM} {q : Nat} {cA : ClassId} {e : va_E} (hn : tN T' = tN T + 1) (he : e = cE (va_up ad (tN T) q) (va_up ca (tN T) cA) T' I' (tN T)) (hE : ∀ j, j < tN T → cE (va_up ad (tN T) q) (va_up ca (tN T) cA) T' I' j = cE ad ca T I j) : cW ad ca T I ++ [(q, e)] = cW (va_up ad (tN T) q) (va_up ca (tN T) cA) T' I' := by
  have hl : (cW ad ca T I).length = tN T := by simp [cW]
  apply List.ext_getElem?
  intro j
  by_cases hj : j < tN T
  · rw [List.getElem?_append_left (by omega), cW_at hj, cW_at (by omega), hE j hj, va_up_ne _ _ (by omega)]
  · rw [List.getElem?_append_right (by omega), hl]
    by_cases hb : j = tN T
    · subst hb
      rw [cW_at (by omega), he]
      simp [va_up]
    · have h1 : tN T < j := by omega
      rw [List.getElem?_eq_none (by simp; omega), List.getElem?_eq_none (by simp [cW]; omega)]
def aOK (ca : Nat → ClassId) (T : Topo) (U : State) : Prop := ∀ k, k < tN T → 13 ≤ tK T k → ArrOfT U (ca k) (aTy (tK T k)) ∧ va_RA U (ca k) (aTy (tK T k))
def rOK (T : Topo) : Prop := ∀ k j r, k < tN T → tR T k j = some r → r < tN T
theorem aOK.moved {ca : Nat → ClassId} {T : Topo} {u U : State} (hvm : u.vm.Alike U.vm) (h : aOK ca T u) : aOK ca T U := fun k h1 h2 => ⟨arrOfT_moved hvm (h k h1 h2).1, (h k h1 h2).2.moved hvm⟩
/-- the words that are carried beside the tables -/
def isNest (w : Cond) : Bool := match w with
  | .methodLinkNest _ _ _ _ => true
  | .fieldLinkNest _ _ _ _ _ _ => true
  | .arrayOver (.object _) => true
  | _ => false
def NestOK (U : State) : Prop := ∀ w ∈ lw_tbl, isNest w = true → va_Nw w U
theorem NestOK.warm {s U : State} (hW : s.WarmedH U.vm) (h : NestOK s) : NestOK U := by
  intro w hw hn
  have h1 := h w hw hn
  unfold isNest at hn
  split at hn
  · exact va_Nw.warmM hW h1
  · exact va_Nw.warmF hW h1
  · exact va_AO.moved hW.alike h1
  · cases hn
theorem NestOK.same {u U : State} (hv : u.vm = U.vm) (h : NestOK u) : NestOK U := by
  intro w hw hn
  have h1 := h w hw hn
  unfold isNest at hn
  split at hn
  · exact va_Nw.same rfl hv h1
  · exact va_Nw.same rfl hv h1
  · exact va_AO.moved (by rw [hv]; exact Vm.Alike.refl _) h1
  · cases hn
/-- the kinds' parents, as the class has them -/
def abv (k : Nat) : Int32 := match k with | 0 => -1 | 1 => 0 | 2 => 0 | 3 => 2 | _ => 0
def Abv (ab : Nat) (A : Nat → Prop) (U : State) (H : Heap) : Prop := va_Z "SliceSeller" "ABOVE" "[I" (.ref ab) A U H ∧ va_X ab 5 abv U H ∧ ab < H.size ∧ ¬ A ab
/-- values: numbers as they are, references by the numbers of their cells -/
def trv (ad : Nat → Nat) (v : Value) : Value := match v with
  | .ref k => .ref (ad k)
  | v => v
def vOK (n : Nat) (v : Value) : Prop := match v with
  | .ref k => k < n
  | _ => True
theorem vOK.mono {n n' : Nat} (h : n ≤ n') {v : Value} (hv : vOK n v) : vOK n' v := by
  cases v <;> simp only [vOK] at hv ⊢
  exact Nat.lt_of_lt_of_le hv h
theorem trv_eq {ad ad' : Nat → Nat} {n : Nat} (h : ∀ k, k < n → ad' k = ad k) {v : Value} (hv : vOK n v) : trv ad' v = trv ad v := by
  cases v <;> simp only [vOK, trv] at hv ⊢
  rw [h _ hv]
theorem trv_map {ad ad' : Nat → Nat} {n : Nat} (h : ∀ k, k < n → ad' k = ad k) {st : List Value} (hv : ∀ v ∈ st, vOK n v) : st.map (trv ad') = st.map (trv ad) :=
  List.map_congr_left fun v hm => trv_eq h (hv v hm)
theorem trv_cat (ad : Nat → Nat) (v : Value) : (trv ad v).category = v.category := by cases v <;> rfl
/-- the cells that a method may change: its world's, and those that it makes -/
def Fr (T : Topo) (ad : Nat → Nat) (sz : Nat) : Nat → Prop := fun q => (∃ k, k < tN T ∧ ad k = q) ∨ sz ≤ q
abbrev Pst : Type := Option Value → Topo → IM → Prop
def Rm (d c s : Nat) : Room := { frames := d, cells := c, slots := s, locals := 60 * d }
def Pw (G : va_G) (ab : Nat) (vs : List Value) (T : Topo) (I : IM) (ad : Nat → Nat) (ca : Nat → ClassId) (sz : Nat) : Array Value → State → Prop := fun a U =>
  a = (vs.map (trv ad)).toArray ∧ U.heap.size = sz ∧ va_P G vwCl (cW ad ca T I) U.heap ∧ va_D (fun _ => True) (cW ad ca T I) ∧ va_K G vwCl [] U ∧ aOK ca T U ∧ rOK T ∧ Abv ab (Fr T ad sz) U U.heap ∧ NestOK U ∧ (∀ v ∈ vs, vOK (tN T) v)
def Qw (G : va_G) (T : Topo) (ad : Nat → Nat) (sz : Nat) (Post : Pst) : Array Value → State → Outcome → State → Prop := fun _ st oc t =>
  (∃ (r : Option Value) (T' : Topo) (I' : IM) (ad' : Nat → Nat) (ca' : Nat → ClassId), oc = .returned (r.map (trv ad')) ∧ Post r T' I' ∧ tN T ≤ tN T' ∧ (∀ k, k < tN T → ad' k = ad k) ∧ (∀ v ∈ r, vOK (tN T') v) ∧
    va_P G vwCl (cW ad' ca' T' I') t.heap ∧ va_D (Fr T ad sz) (cW ad' ca' T' I') ∧ aOK ca' T' t ∧ rOK T') ∧ va_F (Fr T ad sz) st t
/-- a method's contract: from the memory T, I and the values vs it returns, with Post, in the room d, mc, ms -/
def Ct (d : Nat) (M : Mth) (vs : List Value) (T : Topo) (I : IM) (mc ms : Nat) (Post : Pst) : Prop :=
  ∀ (l : Launch) (G : va_G) (ab : Nat) (ad : Nat → Nat) (ca : Nat → ClassId) (sz : Nat), Met l M.1 (wd M) (Rm d mc ms) (Pw G ab vs T I ad ca sz) (Qw G T ad sz Post) mc ms (Fr T ad sz)
def lvO (LS : Array Slot) (nL : Nat) (ls : List (Option Value)) (ad : Nat → Nat) (n : Nat) : Prop :=
  LS.size = nL ∧ lv_wf LS ∧ ls.length = nL ∧ ∀ (i : Nat) (v : Value), ls[i]? = some (some v) → LS[i]? = some (Slot.val (trv ad v)) ∧ v.category = 1 ∧ vOK n v
def Fx (M : Mth) (p : Program) (s : State) (m : MethodId) (args : Array Value) (meth : Method) (cd : Code) (ab : Nat) (A : Nat → Prop) : Prop :=
  p.tables.exec = Jvm.exec ∧ cd.code = M.2.1 ∧ cd.maxLocals = M.2.2.1 ∧ s.vm.findClass M.1.cls = some m.cls ∧ (∀ w ∈ wd M, w.before args s = true) ∧ meth.sig.returnType = M.2.2.2 ∧ meth.locks = false ∧ meth.name = M.1.name ∧ NestOK s ∧ Abv ab A s s.heap ∧ (∀ q, s.heap.size ≤ q → A q)
def Dy (G : va_G) (s : State) (A : Nat → Prop) (T0 : Topo) (ad0 : Nat → Nat) (T : Topo) (I : IM) (ad : Nat → Nat) (ca : Nat → ClassId) (H : Heap) (locs : List Loc) : Prop :=
  va_P G vwCl (cW ad ca T I) H ∧ va_D A (cW ad ca T I) ∧ va_K G vwCl [] s ∧ aOK ca T s ∧ rOK T ∧ va_S A s.heap H locs ∧ tN T0 ≤ tN T ∧ (∀ k, k < tN T0 → ad k = ad0 k)
/-- the machine stands at pc of method M with locals ls, stack st, memory T, I, and has made c cells, sl slots: it comes to M's end with Post, and has made C cells, S slots at most -/
def J (d : Nat) (M : Mth) (Post : Pst) (C S pc : Nat) (ls : List (Option Value)) (st : List Value) (T : Topo) (I : IM) (c sl : Nat) : Prop :=
  ∀ (p : Program) (l : Launch) (e : Env) (s : State) (m : MethodId) (args : Array Value) (below : List Frame) (meth : Method) (cd : Code) (G : va_G) (ab : Nat) (T0 : Topo) (ad0 ad : Nat → Nat) (ca : Nat → ClassId) (H : Heap) (locs : List Loc) (LS : Array Slot),
    Fx M p s m args meth cd ab (Fr T0 ad0 s.heap.size) → Dy G s (Fr T0 ad0 s.heap.size) T0 ad0 T I ad ca H locs → lvO LS M.2.2.1 ls ad (tN T) → (∀ v ∈ st, vOK (tN T) v) →
    W p l e (Rm d C S) s m args below meth cd H locs c sl (MQ below (Qw G T0 ad0 s.heap.size Post) args s C S (Fr T0 ad0 s.heap.size)) (F0 m pc LS (st.map (trv ad)))
