/-! memory: reads and writes -/
def setR (T : Topo) (k j r : Nat) : Topo := (T.1, T.2.1, T.2.2.1, fun a b => if a = k ∧ b = j then some r else T.2.2.2 a b)
theorem setR_N (T : Topo) (k j r : Nat) : tN (setR T k j r) = tN T := rfl
theorem setR_K (T : Topo) (k j r a : Nat) : tK (setR T k j r) a = tK T a := rfl
theorem setR_L (T : Topo) (k j r a : Nat) : tL (setR T k j r) a = tL T a := rfl
theorem setR_R (T : Topo) (k j r a b : Nat) : tR (setR T k j r) a b = if a = k ∧ b = j then some r else tR T a b := rfl
def newT (T : Topo) (κ N : Nat) : Topo := (T.1 + 1, va_up T.2.1 T.1 κ, va_up T.2.2.1 T.1 N, va_up T.2.2.2 T.1 (fun _ => none))
def newI (I : IM) (n : Nat) : IM := va_up I n (fun _ => 0)
theorem cE_obj {ad : Nat → Nat} {ca : Nat → ClassId} {T : Topo} {I : IM} {k κ : Nat} (h : tK T k = κ) (hκ : κ < 13) : cE ad ca T I k = .inr (κ, (List.range (nF κ)).map (fv ad T I k)) := by
  subst h; simp only [cE, hκ, if_true]
theorem cE_int {ad : Nat → Nat} {ca : Nat → ClassId} {T : Topo} {I : IM} {k : Nat} (h : tK T k = 13 ∨ tK T k = 14) : cE ad ca T I k = .inl (ca k, tL T k, .inl (I k)) := by
  have h1 : ¬ tK T k < 13 := by omega
  have h2 : tK T k < 15 := by omega
  simp only [cE, h1, h2, if_true, if_false]
theorem cE_ref {ad : Nat → Nat} {ca : Nat → ClassId} {T : Topo} {I : IM} {k : Nat} (h : 15 ≤ tK T k) : cE ad ca T I k = .inl (ca k, tL T k, .inr (.inr (.inr (.inr (fun j => (tR T k j).map ad))))) := by
  have h1 : ¬ tK T k < 13 := by omega
  have h2 : ¬ tK T k < 15 := by omega
  simp only [cE, h1, h2, if_false]
theorem fs_at {ad : Nat → Nat} {T : Topo} {I : IM} {k j N : Nat} (h : j < N) : ((List.range N).map (fv ad T I k))[j]? = some (fv ad T I k j) := by simp [h]
theorem up2_ne {I : IM} {k j a : Nat} {v : Int32} (h : a ≠ k) : up2 I k j v a = I a := if_neg h
theorem up2_eq {I : IM} {k j : Nat} {v : Int32} : up2 I k j v k = upd (I k) j v := if_pos rfl
theorem cE_up2 {ad : Nat → Nat} {ca : Nat → ClassId} {T : Topo} {I : IM} {k j a : Nat} {v : Int32} (h : a ≠ k) : cE ad ca T (up2 I k j v) a = cE ad ca T I a := by
  have e : fv ad T (up2 I k j v) a = fv ad T I a := by funext i; simp only [fv, up2_ne h]
  simp only [cE, e, up2_ne h]
theorem fs_set {ad : Nat → Nat} {T : Topo} {I : IM} {k j N : Nat} {v : Int32} (hr : rF (tK T k) j = false) : ((List.range N).map (fv ad T I k)).set j (.int v) = (List.range N).map (fv ad T (up2 I k j v) k) := by
  apply List.ext_getElem?
  intro i
  rw [List.getElem?_set]
  by_cases hi : i < N
  · by_cases e : j = i
    · subst e
      simp [hi, fv, hr, up2_eq, upd]
    · have e' : ¬ i = j := fun h => e h.symm
      simp [hi, e, fv, up2_eq, upd, e']
  · by_cases e : j = i
    · subst e
      simp [hi]
    · simp [hi, e]
theorem fs_setR {ad : Nat → Nat} {T : Topo} {I : IM} {k j r N : Nat} (hr : rF (tK T k) j = true) : ((List.range N).map (fv ad T I k)).set j (.ref (ad r)) = (List.range N).map (fv ad (setR T k j r) I k) := by
  apply List.ext_getElem?
  intro i
  rw [List.getElem?_set]
  have hK : tK (setR T k j r) k = tK T k := rfl
  by_cases hi : i < N
  · by_cases e : j = i
    · subst e
      simp only [hK, fv, hr, setR_R, hi, List.length_map, List.length_range, if_true, List.getElem?_map, List.getElem?_range hi, Option.map_some, and_self, va_rf]
    · have e' : ¬ i = j := fun h => e h.symm
      simp only [hK, fv, setR_R, hi, e, e', and_false, if_false, List.getElem?_map, List.getElem?_range hi, Option.map_some]
  · by_cases e : j = i
    · subst e
      simp [hi]
    · simp [hi, e]
theorem cE_setR {ad : Nat → Nat} {ca : Nat → ClassId} {T : Topo} {I : IM} {k j r a : Nat} (h : a ≠ k) : cE ad ca (setR T k j r) I a = cE ad ca T I a := by
  have e : fv ad (setR T k j r) I a = fv ad T I a := by funext i; simp only [fv, setR_K, setR_R, h, false_and, if_false]
  simp only [cE, e, setR_K, setR_L, setR_R, h, false_and, if_false]
theorem rOK.setR {T : Topo} {k j r : Nat} (h : rOK T) (hr : r < tN T) : rOK (setR T k j r) := by
  intro a b q ha hq
  change (if a = k ∧ b = j then some r else T.2.2.2 a b) = some q at hq
  change q < tN T
  split at hq
  · cases hq; exact hr
  · exact h a b q ha hq
theorem aOK.one {G : va_G} {ca : Nat → ClassId} {T : Topo} {s : State} {k : Nat} {ty : FieldType} (hK : va_K G vwCl [] s) (h : aOK ca T s) (hk : k < tN T) (h13 : 13 ≤ tK T k) (ht : aTy (tK T k) = ty) : va_K G vwCl [(ca k, ty)] s := by
  refine ⟨hK.1, fun i q hq => ?_⟩
  have := h k hk h13
  rw [ht] at this
  match i, hq with
  | 0, hq => cases hq; exact this
  | i + 1, hq => simp at hq
section JM
variable {d : Nat} {M : Mth} {Post : Pst} {C S pc c sl : Nat} {ls : List (Option Value)} {st : List Value} {T : Topo} {I : IM}
theorem J.getI {idx κ j k : Nat} {fin : Bool} {ty : FieldType} (hd : decode M.2.1 pc = .ok (.getfield idx, 3)) (hf : fLk M.1.cls idx κ j fin ty) (hκ : tK T k = κ) (hr : rF κ j = false)
    (kk : J d M Post C S (pc + 3) ls (.int (I k j) :: st) T I c sl) : J d M Post C S pc ls (.ref k :: st) T I c sl := by
  intro p l e s m args below meth cd G ab T0 ad0 ad ca H locs LS F D hl hv
  obtain ⟨q, hc, hj, hlk, -⟩ := hf
  obtain ⟨CC, FF, NN, ty0, h1, h2, h3, h4, h5, -⟩ := kOK_all κ (vwCl_lt hc)
  obtain rfl : q = (CC, FF, NN) := Option.some.inj (hc.symm.trans h1)
  have hk : k < tN T := vs_h hv
  refine va_get F.1 F.2.1 F.2.2.2.2.1 (fun w hw => List.mem_cons_of_mem _ (h4 w hw)) F.2.2.2.1 D.2.2.1 D.1 k ((cW_at hk).trans (by rw [cE_obj hκ (vwCl_lt hc)])) hc j hj (hasCode F hlk) (fun _ h => h) (v := .int (I k j)) ?_ hd (kk p l e s m args below meth cd G ab T0 ad0 ad ca H locs LS F D hl (vs_c trivial (vs_t hv)))
  rw [fs_at (by rw [h5]; exact hj)]
  simp only [fv, hκ, hr, Bool.false_eq_true, if_false]
theorem J.getR {idx κ j k r : Nat} {fin : Bool} {ty : FieldType} (hd : decode M.2.1 pc = .ok (.getfield idx, 3)) (hf : fLk M.1.cls idx κ j fin ty) (hκ : tK T k = κ) (hr : rF κ j = true) (hR : tR T k j = some r)
    (kk : J d M Post C S (pc + 3) ls (.ref r :: st) T I c sl) : J d M Post C S pc ls (.ref k :: st) T I c sl := by
  intro p l e s m args below meth cd G ab T0 ad0 ad ca H locs LS F D hl hv
  obtain ⟨q, hc, hj, hlk, -⟩ := hf
  obtain ⟨CC, FF, NN, ty0, h1, h2, h3, h4, h5, -⟩ := kOK_all κ (vwCl_lt hc)
  obtain rfl : q = (CC, FF, NN) := Option.some.inj (hc.symm.trans h1)
  have hk : k < tN T := vs_h hv
  refine va_get F.1 F.2.1 F.2.2.2.2.1 (fun w hw => List.mem_cons_of_mem _ (h4 w hw)) F.2.2.2.1 D.2.2.1 D.1 k ((cW_at hk).trans (by rw [cE_obj hκ (vwCl_lt hc)])) hc j hj (hasCode F hlk) (fun _ h => h) (v := .ref (ad r)) ?_ hd (kk p l e s m args below meth cd G ab T0 ad0 ad ca H locs LS F D hl (vs_c (D.2.2.2.2.1 k j r hk hR) (vs_t hv)))
  rw [fs_at (by rw [h5]; exact hj)]
  simp only [fv, hκ, hr, if_true, hR, Option.map_some, va_rf]
theorem J.putX {idx κ j k : Nat} {v : Int32} {ty : FieldType} (hd : decode M.2.1 pc = .ok (.putfield idx, 3)) (hf : fLk M.1.cls idx κ j false ty) (hκ : tK T k = κ) (hr : rF κ j = false) (hn : narrow ty (.int v) = .int v) (hfit : fits ty (.int v) = true)
    (kk : J d M Post C S (pc + 3) ls st T (up2 I k j v) c sl) : J d M Post C S pc ls (.int v :: .ref k :: st) T I c sl := by
  intro p l e s m args below meth cd G ab T0 ad0 ad ca H locs LS F D hl hv
  obtain ⟨q, hc, hj, hlk, hfin, hty⟩ := hf
  obtain ⟨CC, FF, NN, ty0, h1, h2, h3, h4, h5, -⟩ := kOK_all κ (vwCl_lt hc)
  obtain rfl : q = (CC, FF, NN) := Option.some.inj (hc.symm.trans h1)
  have hk : k < tN T := vs_h (vs_t hv)
  have he : (cW ad ca T I)[k]? = some (ad k, .inr (κ, (List.range (nF κ)).map (fv ad T I k))) := (cW_at hk).trans (by rw [cE_obj hκ (vwCl_lt hc)])
  refine va_put F.1 F.2.1 F.2.2.2.2.1 (fun w hw => List.mem_cons_of_mem _ (h4 w hw)) ty0 h2 h3 F.2.2.2.1 D.2.2.1 D.1 D.2.1 D.2.2.2.2.2.1 k he hc j hj (hasCode F hlk) (fun _ h => h) hfin hty (v := .int v) hn hfit (by simp [h5]; exact hj) hd (fun H1 locs1 hP1 hD1 hS1 => ?_)
  have eW : (cW ad ca T I).set k (ad k, .inr (κ, ((List.range (nF κ)).map (fv ad T I k)).set j (.int v))) = cW ad ca T (up2 I k j v) :=
    cW_set hk rfl (by rw [cE_obj hκ (vwCl_lt hc), fs_set (by rw [hκ]; exact hr)]) (fun a ha => cE_up2 ha)
  rw [eW] at hP1 hD1
  exact kk p l e s m args below meth cd G ab T0 ad0 ad ca H1 locs1 LS F ⟨hP1, hD1, D.2.2.1, D.2.2.2.1, D.2.2.2.2.1, hS1, D.2.2.2.2.2.2⟩ hl (vs_t (vs_t hv))
theorem J.putI {idx κ j k : Nat} {v : Int32} (hd : decode M.2.1 pc = .ok (.putfield idx, 3)) (hf : fLk M.1.cls idx κ j false .int) (hκ : tK T k = κ) (hr : rF κ j = false)
    (kk : J d M Post C S (pc + 3) ls st T (up2 I k j v) c sl) : J d M Post C S pc ls (.int v :: .ref k :: st) T I c sl := J.putX hd hf hκ hr rfl rfl kk
theorem J.putZ {idx κ j k : Nat} {v : Int32} (hd : decode M.2.1 pc = .ok (.putfield idx, 3)) (hf : fLk M.1.cls idx κ j false .boolean) (hκ : tK T k = κ) (hr : rF κ j = false) (hz : v = 0 ∨ v = 1)
    (kk : J d M Post C S (pc + 3) ls st T (up2 I k j v) c sl) : J d M Post C S pc ls (.int v :: .ref k :: st) T I c sl := J.putX hd hf hκ hr (by rcases hz with rfl | rfl <;> rfl) (by rcases hz with rfl | rfl <;> rfl) kk
theorem J.putR {idx κ j k r : Nat} {fin : Bool} {ty : FieldType} (hd : decode M.2.1 pc = .ok (.putfield idx, 3)) (hf : fLk M.1.cls idx κ j fin ty) (hκ : tK T k = κ) (hr : rF κ j = true) (hty' : (∃ n, ty = .object n) ∨ ∃ t, ty = .array t) (hini : fin = true → M.1.name = "<init>") (hdecl : fin = true → ∀ q : vw_C, vwCl[κ]? = some q → (q.2.1 j).1 = M.1.cls)
    (kk : J d M Post C S (pc + 3) ls st (setR T k j r) I c sl) : J d M Post C S pc ls (.ref r :: .ref k :: st) T I c sl := by
  intro p l e s m args below meth cd G ab T0 ad0 ad ca H locs LS F D hl hv
  obtain ⟨q, hc, hj, hlk, hfin, hty⟩ := hf
  obtain ⟨CC, FF, NN, ty0, h1, h2, h3, h4, h5, -⟩ := kOK_all κ (vwCl_lt hc)
  obtain rfl : q = (CC, FF, NN) := Option.some.inj (hc.symm.trans h1)
  have hk : k < tN T := vs_h (vs_t hv)
  have hrn : r < tN T := vs_h hv
  have he : (cW ad ca T I)[k]? = some (ad k, .inr (κ, (List.range (nF κ)).map (fv ad T I k))) := (cW_at hk).trans (by rw [cE_obj hκ (vwCl_lt hc)])
  have hn : narrow ty (.ref (ad r)) = .ref (ad r) := by rcases hty' with ⟨n, rfl⟩ | ⟨t, rfl⟩ <;> rfl
  have hfit : fits ty (.ref (ad r)) = true := by rcases hty' with ⟨n, rfl⟩ | ⟨t, rfl⟩ <;> rfl
  have go : ∀ (H1 : Heap) (locs1 : List Loc), va_P G vwCl ((cW ad ca T I).set k (ad k, .inr (κ, ((List.range (nF κ)).map (fv ad T I k)).set j (.ref (ad r))))) H1 → va_D (Fr T0 ad0 s.heap.size) ((cW ad ca T I).set k (ad k, .inr (κ, ((List.range (nF κ)).map (fv ad T I k)).set j (.ref (ad r))))) → va_S (Fr T0 ad0 s.heap.size) s.heap H1 locs1 → W p l e (Rm d C S) s m args below meth cd H1 locs1 c sl (MQ below (Qw G T0 ad0 s.heap.size Post) args s C S (Fr T0 ad0 s.heap.size)) (F0 m (pc + 3) LS (st.map (trv ad))) := by
    intro H1 locs1 hP1 hD1 hS1
    have eW : (cW ad ca T I).set k (ad k, .inr (κ, ((List.range (nF κ)).map (fv ad T I k)).set j (.ref (ad r)))) = cW ad ca (setR T k j r) I :=
      cW_set hk rfl (by rw [cE_obj (T := setR T k j r) hκ (vwCl_lt hc), fs_setR (by rw [hκ]; exact hr)]) (fun a ha => cE_setR ha)
    rw [eW] at hP1 hD1
    exact kk p l e s m args below meth cd G ab T0 ad0 ad ca H1 locs1 LS F ⟨hP1, hD1, D.2.2.1, D.2.2.2.1, D.2.2.2.2.1.setR hrn, hS1, D.2.2.2.2.2.2⟩ hl (vs_t (vs_t hv))
  cases fin with
  | false => exact va_put F.1 F.2.1 F.2.2.2.2.1 (fun w hw => List.mem_cons_of_mem _ (h4 w hw)) ty0 h2 h3 F.2.2.2.1 D.2.2.1 D.1 D.2.1 D.2.2.2.2.2.1 k he hc j hj (hasCode F hlk) (fun _ h => h) hfin hty hn hfit (by simp [h5]; exact hj) hd go
  | true => exact va_putF F.1 F.2.1 F.2.2.2.2.1 (fun w hw => List.mem_cons_of_mem _ (h4 w hw)) ty0 h2 h3 F.2.2.2.1 D.2.2.1 D.1 D.2.1 D.2.2.2.2.2.1 k he hc j hj (hasCode F hlk) (fun _ h => h) hfin (F.2.2.2.2.2.2.2.1.trans (hini rfl)) (hdecl rfl _ hc) hty hn hfit (by simp [h5]; exact hj) hd go
theorem J.iaload {k : Nat} {i : Int32} (hd : decode M.2.1 pc = .ok (.iaload, 1)) (hκ : tK T k = 13) (hin : vp_in i (tL T k))
    (kk : J d M Post C S (pc + 1) ls (.int (I k i.toNatClampNeg) :: st) T I c sl) : J d M Post C S pc ls (.int i :: .ref k :: st) T I c sl := by
  intro p l e s m args below meth cd G ab T0 ad0 ad ca H locs LS F D hl hv
  have hk : k < tN T := vs_h (vs_t hv)
  exact va_iald F.1 F.2.1 (D.2.2.2.1.one D.2.2.1 hk (by omega) (by rw [hκ]; rfl)) D.1 k 0 ((cW_at hk).trans (by rw [cE_int (by omega)])) rfl hin hd (kk p l e s m args below meth cd G ab T0 ad0 ad ca H locs LS F D hl (vs_c trivial (vs_t (vs_t hv))))
theorem J.baload {k : Nat} {i : Int32} (hd : decode M.2.1 pc = .ok (.baload, 1)) (hκ : tK T k = 14) (hin : vp_in i (tL T k))
    (kk : J d M Post C S (pc + 1) ls (.int (I k i.toNatClampNeg) :: st) T I c sl) : J d M Post C S pc ls (.int i :: .ref k :: st) T I c sl := by
  intro p l e s m args below meth cd G ab T0 ad0 ad ca H locs LS F D hl hv
  have hk : k < tN T := vs_h (vs_t hv)
  exact va_zald F.1 F.2.1 (D.2.2.2.1.one D.2.2.1 hk (by omega) (by rw [hκ]; rfl)) D.1 k 0 ((cW_at hk).trans (by rw [cE_int (by omega)])) rfl hin hd (kk p l e s m args below meth cd G ab T0 ad0 ad ca H locs LS F D hl (vs_c trivial (vs_t (vs_t hv))))
theorem J.aaload {k r : Nat} {i : Int32} {CC : String} (hd : decode M.2.1 pc = .ok (.aaload, 1)) (hκ : 15 ≤ tK T k) (hty : aTy (tK T k) = .object CC) (hin : vp_in i (tL T k)) (hR : tR T k i.toNatClampNeg = some r)
    (kk : J d M Post C S (pc + 1) ls (.ref r :: st) T I c sl) : J d M Post C S pc ls (.int i :: .ref k :: st) T I c sl := by
  intro p l e s m args below meth cd G ab T0 ad0 ad ca H locs LS F D hl hv
  have hk : k < tN T := vs_h (vs_t hv)
  refine va_aldq F.1 F.2.1 (D.2.2.2.1.one D.2.2.1 hk (by omega) hty) D.1 k 0 ((cW_at hk).trans (by rw [cE_ref hκ])) rfl hin hd ?_
  rw [hR]
  exact kk p l e s m args below meth cd G ab T0 ad0 ad ca H locs LS F D hl (vs_c (D.2.2.2.2.1 k _ r hk hR) (vs_t (vs_t hv)))
theorem J.alen {k : Nat} (hd : decode M.2.1 pc = .ok (.arraylength, 1)) (hκ : 13 ≤ tK T k)
    (kk : J d M Post C S (pc + 1) ls (.int (Int32.ofNat (tL T k)) :: st) T I c sl) : J d M Post C S pc ls (.ref k :: st) T I c sl := by
  intro p l e s m args below meth cd G ab T0 ad0 ad ca H locs LS F D hl hv
  have hk : k < tN T := vs_h hv
  have K1 := kk p l e s m args below meth cd G ab T0 ad0 ad ca H locs LS F D hl (vs_c trivial (vs_t hv))
  by_cases h15 : tK T k < 15
  · exact va_alen (x := (tL T k, .inl (I k))) F.1 F.2.1 (D.2.2.2.1.one D.2.2.1 hk hκ rfl) D.1 k 0 ((cW_at hk).trans (by rw [cE_int (by omega)])) rfl rfl hd K1
  · exact va_alen (x := (tL T k, .inr (.inr (.inr (.inr (fun j => (tR T k j).map ad)))))) F.1 F.2.1 (D.2.2.2.1.one D.2.2.1 hk hκ rfl) D.1 k 0 ((cW_at hk).trans (by rw [cE_ref (by omega)])) rfl rfl hd K1
theorem J.iastore {k : Nat} {i x : Int32} (hd : decode M.2.1 pc = .ok (.iastore, 1)) (hκ : tK T k = 13) (hin : vp_in i (tL T k))
    (kk : J d M Post C S (pc + 1) ls st T (up2 I k i.toNatClampNeg x) c sl) : J d M Post C S pc ls (.int x :: .int i :: .ref k :: st) T I c sl := by
  intro p l e s m args below meth cd G ab T0 ad0 ad ca H locs LS F D hl hv
  have hk : k < tN T := vs_h (vs_t (vs_t hv))
  refine va_iast F.1 F.2.1 (D.2.2.2.1.one D.2.2.1 hk (by omega) (by rw [hκ]; rfl)) D.1 D.2.1 D.2.2.2.2.2.1 k 0 ((cW_at hk).trans (by rw [cE_int (by omega)])) rfl hin hd (fun H1 locs1 hP1 hD1 hS1 => ?_)
  have eW : (cW ad ca T I).set k (ad k, .inl (ca k, tL T k, .inl (upd (I k) i.toNatClampNeg x))) = cW ad ca T (up2 I k i.toNatClampNeg x) :=
    cW_set hk rfl (by rw [cE_int (by omega), up2_eq]) (fun a ha => cE_up2 ha)
  rw [eW] at hP1 hD1
  exact kk p l e s m args below meth cd G ab T0 ad0 ad ca H1 locs1 LS F ⟨hP1, hD1, D.2.2.1, D.2.2.2.1, D.2.2.2.2.1, hS1, D.2.2.2.2.2.2⟩ hl (vs_t (vs_t (vs_t hv)))
theorem J.bastore {k : Nat} {i x : Int32} (hd : decode M.2.1 pc = .ok (.bastore, 1)) (hκ : tK T k = 14) (hin : vp_in i (tL T k)) (hz : x = 0 ∨ x = 1)
    (kk : J d M Post C S (pc + 1) ls st T (up2 I k i.toNatClampNeg x) c sl) : J d M Post C S pc ls (.int x :: .int i :: .ref k :: st) T I c sl := by
  intro p l e s m args below meth cd G ab T0 ad0 ad ca H locs LS F D hl hv
  have hk : k < tN T := vs_h (vs_t (vs_t hv))
  refine va_zast F.1 F.2.1 (D.2.2.2.1.one D.2.2.1 hk (by omega) (by rw [hκ]; rfl)) D.1 D.2.1 D.2.2.2.2.2.1 k 0 ((cW_at hk).trans (by rw [cE_int (by omega)])) rfl hin hd (fun H1 locs1 hP1 hD1 hS1 => ?_)
  have e0 : vp_nar .boolean x = x := by rcases hz with rfl | rfl <;> rfl
  rw [e0] at hP1 hD1
  have eW : (cW ad ca T I).set k (ad k, .inl (ca k, tL T k, .inl (upd (I k) i.toNatClampNeg x))) = cW ad ca T (up2 I k i.toNatClampNeg x) :=
    cW_set hk rfl (by rw [cE_int (by omega), up2_eq]) (fun a ha => cE_up2 ha)
  rw [eW] at hP1 hD1
  exact kk p l e s m args below meth cd G ab T0 ad0 ad ca H1 locs1 LS F ⟨hP1, hD1, D.2.2.1, D.2.2.2.1, D.2.2.2.2.1, hS1, D.2.2.2.2.2.2⟩ hl (vs_t (vs_t (vs_t hv)))
theorem J.aastore {k r κ : Nat} {i : Int32} {q : vw_C} (hd : decode M.2.1 pc = .ok (.aastore, 1)) (hκ : 15 ≤ tK T k) (hc : vwCl[κ]? = some q) (hty : aTy (tK T k) = .object q.1) (hr : tK T r = κ) (hin : vp_in i (tL T k))
    (kk : J d M Post C S (pc + 1) ls st (setR T k i.toNatClampNeg r) I c sl) : J d M Post C S pc ls (.ref r :: .int i :: .ref k :: st) T I c sl := by
  intro p l e s m args below meth cd G ab T0 ad0 ad ca H locs LS F D hl hv
  have hk : k < tN T := vs_h (vs_t (vs_t hv))
  have hrn : r < tN T := vs_h hv
  refine va_astq F.1 F.2.1 (D.2.2.2.1.one D.2.2.1 hk (by omega) hty) D.1 D.2.1 D.2.2.2.2.2.1 k 0 r κ ((cW_at hk).trans (by rw [cE_ref hκ])) rfl ((cW_at hrn).trans (by rw [cE_obj hr (vwCl_lt hc)])) hc hin hd (fun H1 locs1 hP1 hD1 hS1 => ?_)
  have eW : (cW ad ca T I).set k (ad k, .inl (ca k, tL T k, .inr (.inr (.inr (.inr (va_up (fun j => (tR T k j).map ad) i.toNatClampNeg (some (ad r)))))))) = cW ad ca (setR T k i.toNatClampNeg r) I := by
    refine cW_set hk rfl ?_ (fun a ha => cE_setR ha)
    rw [cE_ref (T := setR T k i.toNatClampNeg r) hκ]
    have : (va_up (fun j => (tR T k j).map ad) i.toNatClampNeg (some (ad r))) = (fun j => (tR (setR T k i.toNatClampNeg r) k j).map ad) := by
      funext j
      by_cases hj : j = i.toNatClampNeg
      · subst hj; simp [va_up, setR_R]
      · simp [va_up, setR_R, hj]
    rw [this, setR_L]
  rw [eW] at hP1 hD1
  exact kk p l e s m args below meth cd G ab T0 ad0 ad ca H1 locs1 LS F ⟨hP1, hD1, D.2.2.1, D.2.2.2.1, D.2.2.2.2.1.setR hrn, hS1, D.2.2.2.2.2.2⟩ hl (vs_t (vs_t (vs_t hv)))
end JM
