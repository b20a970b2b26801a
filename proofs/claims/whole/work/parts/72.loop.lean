theorem inst_all : ∀ (κ : Nat) (q : vw_C), vwCl[κ]? = some q → Cond.instantiable q.1 q.2.2 ∈ lw_tbl := by
  intro κ q h
  have hκ := vwCl_lt h
  match κ, hκ, h with
  | 0, _, h => cases h; decide +kernel
  | 1, _, h => cases h; decide +kernel
  | 2, _, h => cases h; decide +kernel
  | 3, _, h => cases h; decide +kernel
  | 4, _, h => cases h; decide +kernel
  | 5, _, h => cases h; decide +kernel
  | 6, _, h => cases h; decide +kernel
  | 7, _, h => cases h; decide +kernel
  | 8, _, h => cases h; decide +kernel
  | 9, _, h => cases h; decide +kernel
  | 10, _, h => cases h; decide +kernel
  | 11, _, h => cases h; decide +kernel
  | 12, _, h => cases h; decide +kernel
  | n + 13, hκ, _ => omega
theorem K_at {args : Array Value} {s : State} (hts : ∀ w ∈ lw_tbl, w.before args s = true) : ∃ G : va_G, va_K G vwCl [] s := by
  have h : ∀ κ : Nat, ∃ (cC : ClassId) (iS : Nat → Nat), ∀ q : vw_C, vwCl[κ]? = some q → u_Kn s q.1 q.2.1 q.2.2 cC iS := by
    intro κ
    by_cases hκ : κ < 13
    · obtain ⟨CC, FF, NN, ty0, h1, h2, h3, h4, h5, h6⟩ := kOK_all κ hκ
      obtain ⟨cC, iS, hk⟩ := u_known (C := CC) (T := FF) (N := NN) (n := NN) hts (fun w hw => TBg_tbl (h4 w hw)) (hts _ (inst_all κ _ h1))
      refine ⟨cC, iS, fun q hq => ?_⟩
      obtain rfl : q = (CC, FF, NN) := Option.some.inj (hq.symm.trans h1)
      exact hk
    · exact ⟨0, fun _ => 0, fun q hq => absurd (vwCl_lt hq) hκ⟩
  exact ⟨(fun κ => Classical.choose (h κ), fun κ => Classical.choose (Classical.choose_spec (h κ))), fun κ q hq => Classical.choose_spec (Classical.choose_spec (h κ)) q hq, fun k q hk => by simp at hk⟩
section LAW
variable {p : Program} {l : Launch} {e : Env} {s : State} {m : MethodId} {below : List Frame} {meth : Method} {cd : Code} {b L : Nat} {xs : Nat → Int32} {G : va_G} {ab : Nat} {i : Int32} {pc c sl : Nat} {st : List Value} {T : Topo} {I : IM}
theorem L_new {κ idx : Nat} {T0 : Topo} {ad0 ad : Nat → Nat} {ca : Nat → ClassId} {H : Heap} {locs : List Loc} {LS : Array Slot} {stk : List Value} {Q : State → Prop} (C0 : LC p s m meth cd b L xs G ab) (hlk : cLk R_law idx κ) (hd : decode code pc = .ok (.new idx, 3)) (D : Dy G s (LA s) T0 ad0 T I ad ca H locs) (hc : c + 1 ≤ 600000) (hs : sl + nF κ ≤ 7302250)
    (kk : ∀ (q : Nat) (H1 : Heap), Dy G s (LA s) T0 ad0 (newT T κ 0) (newI I (tN T)) (va_up ad (tN T) q) (va_up ca (tN T) 0) H1 locs → W p l e room_1 s m #[Value.ref b] below meth cd H1 locs (c + 1) (sl + nF κ) Q (F0 m (pc + 3) LS (.ref q :: stk))) : W p l e room_1 s m #[Value.ref b] below meth cd H locs c sl Q (F0 m pc LS stk) := by
  obtain ⟨⟨hx, hb, hr, hml, hown, hts, hX, hbl, hlocks, hgv⟩, hN, hAb, hK⟩ := C0
  have ht : ∀ {w : Cond}, w ∈ TBg → w.before #[Value.ref b] s = true := fun h => hts _ (TBg_tbl h)
  obtain ⟨q0, hq, hl1, hl2, hl3⟩ := hlk
  have hκ := vwCl_lt hq
  obtain ⟨CC, FF, NN, ty0, h1, h2, h3, h4, h5, h6⟩ := kOK_all κ hκ
  obtain rfl : q0 = (CC, FF, NN) := Option.some.inj (hq.symm.trans h1)
  rw [h5] at hs kk
  refine va_new (ci := κ) (fs := (List.range NN).map (fun j => if rF κ j = true then Value.null else .int 0)) hx hb hts (fun w hw => TBg_tbl (h4 w hw)) ty0 h2 hown (ht hl1) (ht hl2) (ht hl3) D.2.2.1 D.1 D.2.1 D.2.2.2.2.2.1 (fun q h => h) hq (fun j hj => ?_) hc hs hd (fun q H1 hP1 hD1 hS1 => ?_)
  · rw [h6 j hj]
    simp [vp_V, hj]
  · refine kk q H1 (D.new (q := q) (cA := 0) ?_ (D.2.2.2.1.newO hκ) hP1 hD1 hS1)
    have hk : tK (newT T κ 0) (tN T) = κ := by rw [newT_K, if_pos rfl]
    rw [cE_obj hk hκ, h5]
    have : (fun j => if rF κ j = true then Value.null else Value.int 0) = fv (va_up ad (tN T) q) (newT T κ 0) (newI I (tN T)) (tN T) := by
      funext j
      simp only [fv, hk, newT_R, newI_at, if_true, Option.map_none, va_rf]
    rw [this]
theorem L_init {M' : Mth} {idx d' mc ms k : Nat} {rest : List Value} {Q' : Topo → IM → Prop} {T0 : Topo} {ad0 ad : Nat → Nat} {ca : Nat → ClassId} {H : Heap} {locs : List Loc} {LS : Array Slot} {Q : State → Prop} (C0 : LC p s m meth cd b L xs G ab) (hd : decode code pc = .ok (.invokespecial idx, 3)) (hy : yOK M' 0) (hvm : iMeth M') (hlk : mLk R_law idx M'.1) (hnone : M'.2.2.2 = none) (D : Dy G s (LA s) T0 ad0 T I ad ca H locs) (hsize : LS.size = 4) (hv : ∀ v ∈ Value.ref k :: rest, vOK (tN T) v) (hrest : Nat.ble ((rest.map fun v => v.category).sum) 8 = true) (hdep : d' ≤ 1000) (hc : c + mc ≤ 600000) (hs : sl + ms ≤ 7302250) (hM : Ct d' M' [.ref k] T I mc ms (PV Q'))
    (kk : ∀ (T2 : Topo) (I2 : IM) (ad2 : Nat → Nat) (ca2 : Nat → ClassId) (H2 : Heap) (locs2 : List Loc), Q' T2 I2 → tN T ≤ tN T2 → (∀ j, j < tN T → ad2 j = ad j) → Dy G s (LA s) T0 ad0 T2 I2 ad2 ca2 H2 locs2 → W p l e room_1 s m #[Value.ref b] below meth cd H2 locs2 (c + mc) (sl + ms) Q (F0 m (pc + 3) LS (rest.map (trv ad2)))) : W p l e room_1 s m #[Value.ref b] below meth cd H locs c sl Q (F0 m pc LS ((Value.ref k :: rest).map (trv ad))) := by
  obtain ⟨⟨hx, hb, hr, hml, hown, hts, hX, hbl, hlocks, hgv⟩, hN, hAb, hK⟩ := C0
  obtain ⟨hmi, hini, hnm, hL⟩ := hy
  have hrest' : ((rest.map (trv ad)).map fun v => v.category).sum ≤ 8 := by rw [cat_map]; exact Nat.le_of_ble_eq_true hrest
  have hG := tbl_good hmi
  have hFx : CallFix p m cd code 4 s #[Value.ref b] lw_tbl R_law := ⟨hx, hb, hml, hown, hts⟩
  have ht : ∀ {w : Cond}, w ∈ TBg → w.before #[Value.ref b] s = true := fun h => hts _ (TBg_tbl h)
  have hR : (Rm d' mc ms).frames + 1 ≤ room_1.frames ∧ 8 + (M'.2.2.1 + 11) + (Rm d' mc ms).locals ≤ room_1.locals := by
    refine ⟨?_, ?_⟩
    · show d' + 1 ≤ 2048; omega
    · show 8 + (M'.2.2.1 + 11) + 60 * d' ≤ 84000; omega
  have hvk : ∀ v ∈ [Value.ref k], vOK (tN T) v := fun v hm => hv v (by simp at hm; simp [hm])
  refine L_after (mc := mc) (ms := ms) (A := LA s) (T0 := T0) (ad0 := ad0) (I := I) (g := (Value.ref k :: rest).map (trv ad)) (rest := rest) (a := ([Value.ref k].map (trv ad)).toArray) (P' := PV Q') ?_ (fun q h => h) D (vs_t hv) ?_
  · rcases hlk with hlk | ⟨host, hlk⟩
    · exact va_runI (As := []) hFx (hM l G ab ad ca H.size) ⟨hnone ▸ callB_of 0 hts hG rfl rfl rfl (ht hini) (ht hlk) hnm hR, hvm.1, ht hvm.2⟩ ⟨Pw_blind, fun U hU hW => L_pw hN hAb (fun q h => h) D hvk hU hW⟩ rfl rfl hsize rfl (lv_room hrest') hd ⟨hc, hs⟩
    · exact va_runIN (As := []) hFx (hM l G ab ad ca H.size) ⟨hnone ▸ va_cnB 0 hts hG rfl rfl rfl (hN _ hlk rfl) (ht hini) hnm hR, hvm.1, ht hvm.2⟩ ⟨Pw_blind, fun U hU hW => L_pw hN hAb (fun q h => h) D hvk hU hW⟩ rfl rfl hsize rfl (lv_room hrest') hd ⟨hc, hs⟩
  · intro r T2 I2 ad2 ca2 H2 locs2 hp hn2 had D2 hst2
    obtain ⟨rfl, hq2⟩ := hp
    exact kk T2 I2 ad2 ca2 H2 locs2 hq2 hn2 had D2
theorem Lw_head (C0 : LC p s m meth cd b L xs G ab) (hi : ¬ (Int32.ofNat L - 6 < i) → vp_in i L) (k1 : Int32.ofNat L - 6 < i → LJ p l e s m below meth cd b G i 1411 [] T I c sl) (k2 : ¬ (Int32.ofNat L - 6 < i) → LJ p l e s m below meth cd b G i 33 [.int (xs i.toNatClampNeg &&& 63)] T I c sl) : LJ p l e s m below meth cd b G i 18 [] T I c sl := by
  intro ad ca H locs LS D hl hv
  obtain ⟨hx, hb, -, -, -, -, hX, hbl, -⟩ := C0.1
  have hbA : ¬ LA s b := Nat.not_le.mpr hbl
  refine lv_iload_n hx hb dL_law_18 rfl (lv_at hl 3 rfl) ?_
  refine lv_aload_n hx hb dL_law_19 rfl (lv_at hl 0 rfl) ?_
  refine va_slen hx hb hX hbl hbA D.2.2.2.2.2.1 dL_law_20 ?_
  refine lv_bipush (v := 6) hx hb dL_law_21 (by decide) ?_
  refine lv_isub hx hb dL_law_23 ?_
  refine lv_icmp_gt (tgt := 1411) hx hb dL_law_24 (by decide) (fun h => k1 h ad ca H locs LS D hl hv) (fun h => ?_)
  refine lv_aload_n hx hb dL_law_27 rfl (lv_at hl 0 rfl) ?_
  refine lv_iload_n hx hb dL_law_28 rfl (lv_at hl 3 rfl) ?_
  refine va_sld hx hb hX hbl hbA D.2.2.2.2.2.1 (hi h) dL_law_29 ?_
  refine lv_bipush (v := 63) hx hb dL_law_30 (by decide) ?_
  refine lv_iand hx hb dL_law_32 ?_
  exact k2 h ad ca H locs LS D hl (vs_c trivial hv)
end LAW
theorem len6 {L k : Nat} (hL : L ≤ 3072) (hk : k ≤ 600) : (Int32.ofNat L - 6 < nI (6 * k)) ↔ L < 6 * k + 6 := by
  have e1 : (Int32.ofNat L).toInt = (L : Int) := nI_toInt (n := L) (by omega)
  have e2 : (Int32.ofNat L - 6).toInt = (L : Int) - 6 := by
    rw [Int32.toInt_sub, e1]
    rw [show (6 : Int32).toInt = 6 from rfl]
    rw [Int.bmod_eq_of_le] <;> omega
  rw [Int32.lt_iff_toInt_lt, e2, nI_toInt (by omega)]
  omega
theorem in_at {L k : Nat} (hL : L ≤ 3072) (h : 6 * k + 6 ≤ L) {v : Int32} (hv : wi v 0 5) : vp_in (nI (6 * k) + v) L := by
  obtain ⟨h0, h5⟩ := hv
  rw [Int32.le_iff_toInt_le] at h0 h5
  rw [show (0 : Int32).toInt = 0 from rfl] at h0
  rw [show (5 : Int32).toInt = 5 from rfl] at h5
  have e : (nI (6 * k) + v).toInt = (6 * k : Int) + v.toInt := by
    rw [Int32.toInt_add, nI_toInt (by omega)]
    rw [Int.bmod_eq_of_le] <;> omega
  rw [vp_in_iff, e]
  omega
/-- THE LAW: out of an invariant Inv of the memory (k calls done) that every call keeps -/
theorem law_main (Inv : Nat → Topo → IM → Nat → Nat → Prop) (hinv : ∀ k T I c sl, Inv k T I c sl → Lay T ∧ c ≤ 600000 ∧ sl ≤ 7302250) (hstart : Inv 0 cT421 cI420 136 18293)
    (hstep : ∀ k T I c sl, k < 512 → Inv k T I c sl → ∀ (op : Nat) (a1 a2 a3 a4 a5 : Int32), StpOp (Inv (k + 1)) op a1 a2 a3 a4 a5 T I c sl)
    {p : Program} {e : Env} {s : State} {m : MethodId} {below : List Frame} {meth : Method} {c : Code} (l : Launch) {b L : Nat} {xs : Nat → Int32} (hL : L ≤ 3072) (C0 : lw_At p s m meth c b L xs) : W p l e room_1 s m #[Value.ref b] below meth c s.heap [] 0 0 (lw_Z below #[Value.ref b] s) (entryFrame m ([Value.ref b] : List Value).toArray 4) := by
  obtain ⟨hx, hb, hr, hml, hown, hts, hX, hbl, hlocks, hgv⟩ := id C0
  obtain ⟨ab, hAb⟩ := above_at hts hgv
  obtain ⟨G, hK⟩ := K_at hts
  have C1 : LC p s m meth c b L xs G ab := ⟨C0, nest_at hts, hAb, hK⟩
  have loop : ∀ n k T I c' sl, 512 ≤ n + k → Inv k T I c' sl → k ≤ 512 → LJ p l e s m below meth c b G (nI (6 * k)) 18 [] T I c' sl := by
    intro n
    induction n with
    | zero =>
      intro k T I c' sl hn hI hk
      obtain ⟨hT, h1, h2⟩ := hinv k T I c' sl hI
      refine Lw_head C1 (fun h => ?_) (fun _ => Lw_done C1 h1 h2) (fun h => ?_)
      · exact absurd ((len6 hL (by omega)).mpr (by omega)) h
      · exact absurd ((len6 hL (by omega)).mpr (by omega)) h
    | succ n ih =>
      intro k T I c' sl hn hI hk
      obtain ⟨hT, h1, h2⟩ := hinv k T I c' sl hI
      refine Lw_head C1 (fun h => ?_) (fun _ => Lw_done C1 h1 h2) (fun h => ?_)
      · have h6 : ¬ L < 6 * k + 6 := fun z => h ((len6 hL (by omega)).mpr z)
        have := in_at hL (k := k) (by omega) (v := 0) (by decide)
        simpa using this
      · have h6 : ¬ L < 6 * k + 6 := fun z => h ((len6 hL (by omega)).mpr z)
        refine law_turn (N := Inv (k + 1)) C1 hT (fun v hv => in_at hL (by omega) hv) (fun T2 I2 c2 s2 hI2 => ?_) (fun op => hstep k T I c' sl (by omega) hI op _ _ _ _ _) _
        refine Lw_iinc6 C1 ?_
        have e6 : nI (6 * k) + 6 = nI (6 * (k + 1)) := by
          rw [show (6 : Int32) = nI 6 from rfl, nI_add]; rfl
        rw [e6]
        exact ih (k + 1) T2 I2 c2 s2 (by omega) hI2 (by omega)
  have D0 : Dy G s (LA s) cT0 (fun _ => 0) cT0 cI0 (fun _ => 0) (fun _ => 0) s.heap [] := by
    refine ⟨fun k q h => absurd (cW_of h).1 (Nat.not_lt_zero _), ⟨fun i j p q h => absurd (cW_of h).1 (Nat.not_lt_zero _), fun k q h => absurd (cW_of h).1 (Nat.not_lt_zero _)⟩, hK, fun k h => absurd h (Nat.not_lt_zero _), fun k j r h => absurd h (Nat.not_lt_zero _), va_S.rf, Nat.le_refl _, fun _ _ => rfl⟩
  have hl := lv_entry ([.ref b]) (n := 4) (Nat.le_of_ble_eq_true rfl)
  rw [lg_entry_eq]
  generalize (lg_sl ([.ref b]) ++ List.replicate (4 - (lg_sl ([.ref b])).length) Slot.unset).toArray = LS at hl ⊢
  have hl : lv_has LS 4 [(0, .ref b)] := hl
  refine L_new (T := cT0) (I := cI0) (κ := 11) C1 clL_7 dL_law_0 D0 (by decide) (by decide) (fun q H1 D1 => ?_)
  have D1 : Dy G s (LA s) cT0 (fun _ => 0) cTa cIa (va_up (fun _ => 0) 0 q) (va_up (fun _ => 0) 0 0) H1 [] := D1
  refine lv_dup hx hb dL_law_3 rfl ?_
  have hq : va_up (fun _ => 0) 0 q 0 = q := by simp [va_up]
  refine W.eq (g2 := F0 m (0 + 3 + 1) LS ((Value.ref 0 :: [Value.ref 0]).map (trv (va_up (fun _ => 0) 0 q)))) (by simp [trv, hq]) ?_
  refine L_init (k := 0) (rest := [Value.ref 0]) (d' := 20) (T := cTa) (I := cIa) (M' := mX11_init) (mc := 78) (ms := 6024) C1 dL_law_4 kX11_init vX11_init lL_9 rfl D1 hl.1 (by intro v hv; simp at hv; subst hv; show 0 < tN cTa; decide +kernel) rfl (by decide) (by decide) (by decide) (ctor38 16) (fun T2 I2 ad2 ca2 H2 locs2 hq2 hn2 had2 D2 => ?_)
  obtain ⟨e1, e2⟩ := hq2
  subst e1; subst e2
  refine lv_astore_n (x := ad2 0) (lv' := [(1, .ref (ad2 0)), (0, .ref b)]) hx hb dL_law_7 rfl hl (by decide) rfl (fun LS hl => ?_)
  refine L_new (T := cT252) (I := cI249) (κ := 12) C1 clL_10 dL_law_8 D2 (by decide) (by decide) (fun q3 H3 D3 => ?_)
  have D3 : Dy G s (LA s) cT0 (fun _ => 0) cTb cIb (va_up ad2 79 q3) (va_up ca2 79 0) H3 locs2 := D3
  refine lv_dup hx hb dL_law_11 rfl ?_
  have hq3 : va_up ad2 79 q3 79 = q3 := by simp [va_up]
  refine W.eq (g2 := F0 m (0 + 3 + 1 + 3 + 1 + 3 + 1) LS ((Value.ref 79 :: [Value.ref 79]).map (trv (va_up ad2 79 q3)))) (by simp [trv, hq3]) ?_
  refine L_init (k := 79) (rest := [Value.ref 79]) (d' := 20) (T := cTb) (I := cIb) (M' := mX12_init) (mc := 56) (ms := 12194) C1 dL_law_12 kX12_init vX12_init lL_12 rfl D3 hl.1 (by intro v hv; simp at hv; subst hv; show 79 < tN cTb; decide +kernel) rfl (by decide) (by decide) (by decide) (ctor39 19) (fun T4 I4 ad4 ca4 H4 locs4 hq4 hn4 had4 D4 => ?_)
  obtain ⟨e1, e2⟩ := hq4
  subst e1; subst e2
  have h40 : ad4 0 = ad2 0 := by rw [had4 0 (by decide)]; simp [va_up]
  rw [← h40] at hl
  refine lv_astore_n (x := ad4 79) (lv' := [(2, .ref (ad4 79)), (1, .ref (ad4 0)), (0, .ref b)]) hx hb dL_law_15 rfl hl (by decide) rfl (fun LS hl => ?_)
  refine lv_iconst (v := 0) hx hb dL_law_16 (by decide) ?_
  refine lv_istore_n (lv' := [(3, .int 0), (2, .ref (ad4 79)), (1, .ref (ad4 0)), (0, .ref b)]) hx hb dL_law_17 rfl hl (by decide) rfl (fun LS hl => ?_)
  have hfin := loop 512 0 cT421 cI420 136 18293 (by omega) hstart (by omega) ad4 ca4 H4 locs4 LS D4 (lv_sub hl [3, 2, 1, 0] rfl) (fun v hv => by cases hv)
  exact hfin
