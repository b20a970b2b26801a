def lsOK (n : Nat) (ls : List (Option Value)) : Prop := ∀ (i : Nat) (v : Value), ls[i]? = some (some v) → vOK n v
theorem vs_c {n : Nat} {v : Value} {st : List Value} (h : vOK n v) (hs : ∀ w ∈ st, vOK n w) : ∀ w ∈ v :: st, vOK n w := List.forall_mem_cons.mpr ⟨h, hs⟩
theorem vs_t {n : Nat} {v : Value} {st : List Value} (hs : ∀ w ∈ v :: st, vOK n w) : ∀ w ∈ st, vOK n w := (List.forall_mem_cons.mp hs).2
theorem vs_h {n : Nat} {v : Value} {st : List Value} (hs : ∀ w ∈ v :: st, vOK n w) : vOK n v := (List.forall_mem_cons.mp hs).1
theorem hasCode {M : Mth} {p : Program} {s : State} {m : MethodId} {args : Array Value} {meth : Method} {cd : Code} {ab : Nat} {A : Nat → Prop} (F : Fx M p s m args meth cd ab A) {w : Cond} (h : w ∈ TBg) : w.before args s = true := F.2.2.2.2.1 w (List.mem_cons_of_mem _ h)
/-! the rules of J: instructions that touch the stack alone -/
section JR
variable {d : Nat} {M : Mth} {Post : Pst} {C S pc c sl : Nat} {ls : List (Option Value)} {st : List Value} {T : Topo} {I : IM}
theorem J.lift {pc' : Nat} {st' : List Value} (hs : (∀ v ∈ st, vOK (tN T) v) → lsOK (tN T) ls → ∀ v ∈ st', vOK (tN T) v)
    (step : ∀ (p : Program) (l : Launch) (e : Env) (R : Room) (s : State) (m : MethodId) (args : Array Value) (below : List Frame) (meth : Method) (cd : Code) (ab : Nat) (A : Nat → Prop) (ad : Nat → Nat) (H : Heap) (locs : List Loc) (Q : State → Prop) (LS : Array Slot),
      Fx M p s m args meth cd ab A → lvO LS M.2.2.1 ls ad (tN T) → W p l e R s m args below meth cd H locs c sl Q (F0 m pc' LS (st'.map (trv ad))) → W p l e R s m args below meth cd H locs c sl Q (F0 m pc LS (st.map (trv ad))))
    (k : J d M Post C S pc' ls st' T I c sl) : J d M Post C S pc ls st T I c sl := by
  intro p l e s m args below meth cd G ab T0 ad0 ad ca H locs LS F D hl hv
  exact step p l e _ s m args below meth cd ab _ ad H locs _ LS F hl (k p l e s m args below meth cd G ab T0 ad0 ad ca H locs LS F D hl (hs hv (fun i v h => (hl.2.2.2 i v h).2.2)))
theorem J.iconst {n : Int} {v : Int32} (hd : decode M.2.1 pc = .ok (.iconst n, 1)) (hv : Int32.ofInt n = v)
    (k : J d M Post C S (pc + 1) ls (.int v :: st) T I c sl) : J d M Post C S pc ls st T I c sl :=
  J.lift (st' := (.int v :: st)) (fun hv hl => vs_c (trivial) hv) (fun p l e R s m args below meth cd ab A ad H locs Q LS F hl k => lv_iconst F.1 F.2.1 hd hv k) k
theorem J.bipush {n : Int} {v : Int32} (hd : decode M.2.1 pc = .ok (.bipush n, 2)) (hv : (Int8.ofInt n).toInt32 = v)
    (k : J d M Post C S (pc + 2) ls (.int v :: st) T I c sl) : J d M Post C S pc ls st T I c sl :=
  J.lift (st' := (.int v :: st)) (fun hv hl => vs_c (trivial) hv) (fun p l e R s m args below meth cd ab A ad H locs Q LS F hl k => lv_bipush F.1 F.2.1 hd hv k) k
theorem J.sipush {n : Int} {v : Int32} (hd : decode M.2.1 pc = .ok (.sipush n, 3)) (hv : (Int16.ofInt n).toInt32 = v)
    (k : J d M Post C S (pc + 3) ls (.int v :: st) T I c sl) : J d M Post C S pc ls st T I c sl :=
  J.lift (st' := (.int v :: st)) (fun hv hl => vs_c (trivial) hv) (fun p l e R s m args below meth cd ab A ad H locs Q LS F hl k => lv_sipush F.1 F.2.1 hd hv k) k
theorem J.ldc {n : Nat} {v : Int32} (hd : decode M.2.1 pc = .ok (.ldc n, 2)) (hv : Cond.constant M.1.cls n v ∈ TBg)
    (k : J d M Post C S (pc + 2) ls (.int v :: st) T I c sl) : J d M Post C S pc ls st T I c sl :=
  J.lift (st' := (.int v :: st)) (fun hv hl => vs_c (trivial) hv) (fun p l e R s m args below meth cd ab A ad H locs Q LS F hl k => lv_ldc F.1 F.2.1 F.2.2.2.1 (hasCode F hv) hd k) k
theorem J.ldcw {n : Nat} {v : Int32} (hd : decode M.2.1 pc = .ok (.ldc_w n, 3)) (hv : Cond.constant M.1.cls n v ∈ TBg)
    (k : J d M Post C S (pc + 3) ls (.int v :: st) T I c sl) : J d M Post C S pc ls st T I c sl :=
  J.lift (st' := (.int v :: st)) (fun hv hl => vs_c (trivial) hv) (fun p l e R s m args below meth cd ab A ad H locs Q LS F hl k => lv_ldcw F.1 F.2.1 F.2.2.2.1 (hasCode F hv) hd k) k
theorem J.iload_n {n : Fin 4} {i : Nat} {x : Int32} (hd : decode M.2.1 pc = .ok (.iload_n n, 1)) (hi : (n : Nat) = i) (hx : ls[i]? = some (some (.int x)))
    (k : J d M Post C S (pc + 1) ls (.int x :: st) T I c sl) : J d M Post C S pc ls st T I c sl :=
  J.lift (st' := (.int x :: st)) (fun hv hl => vs_c (trivial) hv) (fun p l e R s m args below meth cd ab A ad H locs Q LS F hl k => lv_iload_n F.1 F.2.1 hd hi (hl.2.2.2 i _ hx).1 k) k
theorem J.iload {i : Nat} {x : Int32} (hd : decode M.2.1 pc = .ok (.iload i, 2)) (hx : ls[i]? = some (some (.int x)))
    (k : J d M Post C S (pc + 2) ls (.int x :: st) T I c sl) : J d M Post C S pc ls st T I c sl :=
  J.lift (st' := (.int x :: st)) (fun hv hl => vs_c (trivial) hv) (fun p l e R s m args below meth cd ab A ad H locs Q LS F hl k => lv_iload F.1 F.2.1 hd (hl.2.2.2 i _ hx).1 k) k
theorem J.aload_n {n : Fin 4} {i : Nat} {x : Nat} (hd : decode M.2.1 pc = .ok (.aload_n n, 1)) (hi : (n : Nat) = i) (hx : ls[i]? = some (some (.ref x)))
    (k : J d M Post C S (pc + 1) ls (.ref x :: st) T I c sl) : J d M Post C S pc ls st T I c sl :=
  J.lift (st' := (.ref x :: st)) (fun hv hl => vs_c (hl i _ hx) hv) (fun p l e R s m args below meth cd ab A ad H locs Q LS F hl k => lv_aload_n F.1 F.2.1 hd hi (hl.2.2.2 i _ hx).1 k) k
theorem J.aload {i : Nat} {x : Nat} (hd : decode M.2.1 pc = .ok (.aload i, 2)) (hx : ls[i]? = some (some (.ref x)))
    (k : J d M Post C S (pc + 2) ls (.ref x :: st) T I c sl) : J d M Post C S pc ls st T I c sl :=
  J.lift (st' := (.ref x :: st)) (fun hv hl => vs_c (hl i _ hx) hv) (fun p l e R s m args below meth cd ab A ad H locs Q LS F hl k => lv_aload F.1 F.2.1 hd (hl.2.2.2 i _ hx).1 k) k
theorem J.iadd {x y : Int32} (hd : decode M.2.1 pc = .ok (.iadd, 1)) 
    (k : J d M Post C S (pc + 1) ls (.int (x + y) :: st) T I c sl) : J d M Post C S pc ls (.int y :: .int x :: st) T I c sl :=
  J.lift (st' := (.int (x + y) :: st)) (fun hv _ => vs_c trivial (vs_t (vs_t hv))) (fun p l e R s m args below meth cd ab A ad H locs Q LS F hl k => lv_iadd F.1 F.2.1 hd  k) k
theorem J.isub {x y : Int32} (hd : decode M.2.1 pc = .ok (.isub, 1)) 
    (k : J d M Post C S (pc + 1) ls (.int (x - y) :: st) T I c sl) : J d M Post C S pc ls (.int y :: .int x :: st) T I c sl :=
  J.lift (st' := (.int (x - y) :: st)) (fun hv _ => vs_c trivial (vs_t (vs_t hv))) (fun p l e R s m args below meth cd ab A ad H locs Q LS F hl k => lv_isub F.1 F.2.1 hd  k) k
theorem J.imul {x y : Int32} (hd : decode M.2.1 pc = .ok (.imul, 1)) 
    (k : J d M Post C S (pc + 1) ls (.int (x * y) :: st) T I c sl) : J d M Post C S pc ls (.int y :: .int x :: st) T I c sl :=
  J.lift (st' := (.int (x * y) :: st)) (fun hv _ => vs_c trivial (vs_t (vs_t hv))) (fun p l e R s m args below meth cd ab A ad H locs Q LS F hl k => lv_imul F.1 F.2.1 hd  k) k
theorem J.idiv {x y : Int32} (hd : decode M.2.1 pc = .ok (.idiv, 1)) (hne : ¬ y = 0)
    (k : J d M Post C S (pc + 1) ls (.int (x / y) :: st) T I c sl) : J d M Post C S pc ls (.int y :: .int x :: st) T I c sl :=
  J.lift (st' := (.int (x / y) :: st)) (fun hv _ => vs_c trivial (vs_t (vs_t hv))) (fun p l e R s m args below meth cd ab A ad H locs Q LS F hl k => lv_idiv F.1 F.2.1 hd hne k) k
theorem J.irem {x y : Int32} (hd : decode M.2.1 pc = .ok (.irem, 1)) (hne : ¬ y = 0)
    (k : J d M Post C S (pc + 1) ls (.int (x - x / y * y) :: st) T I c sl) : J d M Post C S pc ls (.int y :: .int x :: st) T I c sl :=
  J.lift (st' := (.int (x - x / y * y) :: st)) (fun hv _ => vs_c trivial (vs_t (vs_t hv))) (fun p l e R s m args below meth cd ab A ad H locs Q LS F hl k => lv_irem F.1 F.2.1 hd hne k) k
theorem J.ishl {x y : Int32} (hd : decode M.2.1 pc = .ok (.ishl, 1)) 
    (k : J d M Post C S (pc + 1) ls (.int (x <<< (y &&& 31)) :: st) T I c sl) : J d M Post C S pc ls (.int y :: .int x :: st) T I c sl :=
  J.lift (st' := (.int (x <<< (y &&& 31)) :: st)) (fun hv _ => vs_c trivial (vs_t (vs_t hv))) (fun p l e R s m args below meth cd ab A ad H locs Q LS F hl k => lv_ishl F.1 F.2.1 hd  k) k
theorem J.ishr {x y : Int32} (hd : decode M.2.1 pc = .ok (.ishr, 1)) 
    (k : J d M Post C S (pc + 1) ls (.int (x >>> (y &&& 31)) :: st) T I c sl) : J d M Post C S pc ls (.int y :: .int x :: st) T I c sl :=
  J.lift (st' := (.int (x >>> (y &&& 31)) :: st)) (fun hv _ => vs_c trivial (vs_t (vs_t hv))) (fun p l e R s m args below meth cd ab A ad H locs Q LS F hl k => lv_ishr F.1 F.2.1 hd  k) k
theorem J.iand {x y : Int32} (hd : decode M.2.1 pc = .ok (.iand, 1)) 
    (k : J d M Post C S (pc + 1) ls (.int (x &&& y) :: st) T I c sl) : J d M Post C S pc ls (.int y :: .int x :: st) T I c sl :=
  J.lift (st' := (.int (x &&& y) :: st)) (fun hv _ => vs_c trivial (vs_t (vs_t hv))) (fun p l e R s m args below meth cd ab A ad H locs Q LS F hl k => lv_iand F.1 F.2.1 hd  k) k
theorem J.ior {x y : Int32} (hd : decode M.2.1 pc = .ok (.ior, 1)) 
    (k : J d M Post C S (pc + 1) ls (.int (x ||| y) :: st) T I c sl) : J d M Post C S pc ls (.int y :: .int x :: st) T I c sl :=
  J.lift (st' := (.int (x ||| y) :: st)) (fun hv _ => vs_c trivial (vs_t (vs_t hv))) (fun p l e R s m args below meth cd ab A ad H locs Q LS F hl k => lv_ior F.1 F.2.1 hd  k) k
theorem J.ixor {x y : Int32} (hd : decode M.2.1 pc = .ok (.ixor, 1)) 
    (k : J d M Post C S (pc + 1) ls (.int (x ^^^ y) :: st) T I c sl) : J d M Post C S pc ls (.int y :: .int x :: st) T I c sl :=
  J.lift (st' := (.int (x ^^^ y) :: st)) (fun hv _ => vs_c trivial (vs_t (vs_t hv))) (fun p l e R s m args below meth cd ab A ad H locs Q LS F hl k => lv_ixor F.1 F.2.1 hd  k) k
theorem J.iushr {x y : Int32} (hd : decode M.2.1 pc = .ok (.iushr, 1)) 
    (k : J d M Post C S (pc + 1) ls (.int ((x.toUInt32 >>> (y.toUInt32 &&& Int32.toUInt32 31)).toInt32) :: st) T I c sl) : J d M Post C S pc ls (.int y :: .int x :: st) T I c sl :=
  J.lift (st' := (.int ((x.toUInt32 >>> (y.toUInt32 &&& Int32.toUInt32 31)).toInt32) :: st)) (fun hv _ => vs_c trivial (vs_t (vs_t hv))) (fun p l e R s m args below meth cd ab A ad H locs Q LS F hl k => lv_iushr F.1 F.2.1 hd rfl k) k
theorem J.i2b {x : Int32} (hd : decode M.2.1 pc = .ok (.i2b, 1))
    (k : J d M Post C S (pc + 1) ls (.int x.toInt8.toInt32 :: st) T I c sl) : J d M Post C S pc ls (.int x :: st) T I c sl :=
  J.lift (st' := (.int x.toInt8.toInt32 :: st)) (fun hv _ => vs_c trivial (vs_t hv)) (fun p l e R s m args below meth cd ab A ad H locs Q LS F hl k => lv_i2b F.1 F.2.1 hd rfl k) k
theorem J.i2s {x : Int32} (hd : decode M.2.1 pc = .ok (.i2s, 1))
    (k : J d M Post C S (pc + 1) ls (.int x.toInt16.toInt32 :: st) T I c sl) : J d M Post C S pc ls (.int x :: st) T I c sl :=
  J.lift (st' := (.int x.toInt16.toInt32 :: st)) (fun hv _ => vs_c trivial (vs_t hv)) (fun p l e R s m args below meth cd ab A ad H locs Q LS F hl k => lv_i2s F.1 F.2.1 hd rfl k) k
theorem J.i2l {x : Int32} (hd : decode M.2.1 pc = .ok (.i2l, 1))
    (k : J d M Post C S (pc + 1) ls (.long x.toInt64 :: st) T I c sl) : J d M Post C S pc ls (.int x :: st) T I c sl :=
  J.lift (st' := (.long x.toInt64 :: st)) (fun hv _ => vs_c trivial (vs_t hv)) (fun p l e R s m args below meth cd ab A ad H locs Q LS F hl k => lv_i2l F.1 F.2.1 hd rfl k) k
theorem J.ladd {x y : Int64} (hd : decode M.2.1 pc = .ok (.ladd, 1))
    (k : J d M Post C S (pc + 1) ls (.long (x + y) :: st) T I c sl) : J d M Post C S pc ls (.long y :: .long x :: st) T I c sl :=
  J.lift (st' := (.long (x + y) :: st)) (fun hv _ => vs_c trivial (vs_t (vs_t hv))) (fun p l e R s m args below meth cd ab A ad H locs Q LS F hl k => lv_ladd F.1 F.2.1 hd k) k
theorem J.lcmp {x y : Int64} (hd : decode M.2.1 pc = .ok (.lcmp, 1))
    (k : J d M Post C S (pc + 1) ls (.int (lg_cmp x y) :: st) T I c sl) : J d M Post C S pc ls (.long y :: .long x :: st) T I c sl :=
  J.lift (st' := (.int (lg_cmp x y) :: st)) (fun hv _ => vs_c trivial (vs_t (vs_t hv))) (fun p l e R s m args below meth cd ab A ad H locs Q LS F hl k => W.lcmp F.1 F.2.1 hd k) k
theorem J.dup {v : Value} (hd : decode M.2.1 pc = .ok (.dup, 1)) (hc : v.category = 1)
    (k : J d M Post C S (pc + 1) ls (v :: v :: st) T I c sl) : J d M Post C S pc ls (v :: st) T I c sl :=
  J.lift (st' := (v :: v :: st)) (fun hv _ => vs_c (vs_h hv) hv) (fun p l e R s m args below meth cd ab A ad H locs Q LS F hl k => lv_dup F.1 F.2.1 hd ((trv_cat ad v).trans hc) k) k
theorem J.dup2 {v w : Value} (hd : decode M.2.1 pc = .ok (.dup2, 1)) (hc : v.category = 1) (hc2 : w.category = 1)
    (k : J d M Post C S (pc + 1) ls (v :: w :: v :: w :: st) T I c sl) : J d M Post C S pc ls (v :: w :: st) T I c sl :=
  J.lift (st' := (v :: w :: v :: w :: st)) (fun hv _ => vs_c (vs_h hv) (vs_c (vs_h (vs_t hv)) hv)) (fun p l e R s m args below meth cd ab A ad H locs Q LS F hl k => lv_dup2_11 F.1 F.2.1 hd ((trv_cat ad v).trans hc) ((trv_cat ad w).trans hc2) k) k
theorem J.goto {off : Int} {tgt : Nat} (hd : decode M.2.1 pc = .ok (.goto off, 3)) (ht : (pc : Int) + off = (tgt : Int))
    (k : J d M Post C S tgt ls st T I c sl) : J d M Post C S pc ls st T I c sl :=
  J.lift (st' := st) (fun hv _ => hv) (fun p l e R s m args below meth cd ab A ad H locs Q LS F hl k => lv_goto F.1 F.2.1 hd ht k) k
theorem J.tableIn {dflt lo hi : Int} {offs : Array Int} {len : Nat} {x : Int32} {off : Int} {tgt : Nat} (hd : decode M.2.1 pc = .ok (.tableswitch dflt lo hi offs, len)) (h1 : ¬ x.toInt < lo) (h2 : ¬ hi < x.toInt) (ho : offs[(x.toInt - lo).toNat]? = some off) (ht : (pc : Int) + off = (tgt : Int))
    (k : J d M Post C S tgt ls st T I c sl) : J d M Post C S pc ls (.int x :: st) T I c sl :=
  J.lift (st' := st) (fun hv _ => vs_t hv) (fun p l e R s m args below meth cd ab A ad H locs Q LS F hl k => lv_tableIn F.1 F.2.1 hd h1 h2 ho ht k) k
theorem J.tableOut {dflt lo hi : Int} {offs : Array Int} {len : Nat} {x : Int32} {tgt : Nat} (hd : decode M.2.1 pc = .ok (.tableswitch dflt lo hi offs, len)) (h : x.toInt < lo ∨ hi < x.toInt) (ht : (pc : Int) + dflt = (tgt : Int))
    (k : J d M Post C S tgt ls st T I c sl) : J d M Post C S pc ls (.int x :: st) T I c sl :=
  J.lift (st' := st) (fun hv _ => vs_t hv) (fun p l e R s m args below meth cd ab A ad H locs Q LS F hl k => lv_tableOut F.1 F.2.1 hd h ht k) k
theorem J.if_eq {x : Int32} {off : Int} {tgt : Nat} (hd : decode M.2.1 pc = .ok (.ifCond .eq off, 3)) (ht : (pc : Int) + off = (tgt : Int))
    (kt : x = 0 → J d M Post C S tgt ls st T I c sl) (kf : ¬ x = 0 → J d M Post C S (pc + 3) ls st T I c sl) : J d M Post C S pc ls (.int x :: st) T I c sl := by
  intro p l e s m args below meth cd G ab T0 ad0 ad ca H locs LS F D hl hv
  exact lv_if_eq F.1 F.2.1 hd ht (fun h => kt h p l e s m args below meth cd G ab T0 ad0 ad ca H locs LS F D hl (vs_t hv)) (fun h => kf h p l e s m args below meth cd G ab T0 ad0 ad ca H locs LS F D hl (vs_t hv))
theorem J.icmp_eq {x y : Int32} {off : Int} {tgt : Nat} (hd : decode M.2.1 pc = .ok (.if_icmp .eq off, 3)) (ht : (pc : Int) + off = (tgt : Int))
    (kt : x = y → J d M Post C S tgt ls st T I c sl) (kf : ¬ x = y → J d M Post C S (pc + 3) ls st T I c sl) : J d M Post C S pc ls (.int y :: .int x :: st) T I c sl := by
  intro p l e s m args below meth cd G ab T0 ad0 ad ca H locs LS F D hl hv
  exact lv_icmp_eq F.1 F.2.1 hd ht (fun h => kt h p l e s m args below meth cd G ab T0 ad0 ad ca H locs LS F D hl (vs_t (vs_t hv))) (fun h => kf h p l e s m args below meth cd G ab T0 ad0 ad ca H locs LS F D hl (vs_t (vs_t hv)))
theorem J.if_ne {x : Int32} {off : Int} {tgt : Nat} (hd : decode M.2.1 pc = .ok (.ifCond .ne off, 3)) (ht : (pc : Int) + off = (tgt : Int))
    (kt : ¬ x = 0 → J d M Post C S tgt ls st T I c sl) (kf : x = 0 → J d M Post C S (pc + 3) ls st T I c sl) : J d M Post C S pc ls (.int x :: st) T I c sl := by
  intro p l e s m args below meth cd G ab T0 ad0 ad ca H locs LS F D hl hv
  exact lv_if_ne F.1 F.2.1 hd ht (fun h => kt h p l e s m args below meth cd G ab T0 ad0 ad ca H locs LS F D hl (vs_t hv)) (fun h => kf h p l e s m args below meth cd G ab T0 ad0 ad ca H locs LS F D hl (vs_t hv))
theorem J.icmp_ne {x y : Int32} {off : Int} {tgt : Nat} (hd : decode M.2.1 pc = .ok (.if_icmp .ne off, 3)) (ht : (pc : Int) + off = (tgt : Int))
    (kt : ¬ x = y → J d M Post C S tgt ls st T I c sl) (kf : x = y → J d M Post C S (pc + 3) ls st T I c sl) : J d M Post C S pc ls (.int y :: .int x :: st) T I c sl := by
  intro p l e s m args below meth cd G ab T0 ad0 ad ca H locs LS F D hl hv
  exact lv_icmp_ne F.1 F.2.1 hd ht (fun h => kt h p l e s m args below meth cd G ab T0 ad0 ad ca H locs LS F D hl (vs_t (vs_t hv))) (fun h => kf h p l e s m args below meth cd G ab T0 ad0 ad ca H locs LS F D hl (vs_t (vs_t hv)))
theorem J.if_lt {x : Int32} {off : Int} {tgt : Nat} (hd : decode M.2.1 pc = .ok (.ifCond .lt off, 3)) (ht : (pc : Int) + off = (tgt : Int))
    (kt : x < 0 → J d M Post C S tgt ls st T I c sl) (kf : ¬ x < 0 → J d M Post C S (pc + 3) ls st T I c sl) : J d M Post C S pc ls (.int x :: st) T I c sl := by
  intro p l e s m args below meth cd G ab T0 ad0 ad ca H locs LS F D hl hv
  exact lv_if_lt F.1 F.2.1 hd ht (fun h => kt h p l e s m args below meth cd G ab T0 ad0 ad ca H locs LS F D hl (vs_t hv)) (fun h => kf h p l e s m args below meth cd G ab T0 ad0 ad ca H locs LS F D hl (vs_t hv))
theorem J.icmp_lt {x y : Int32} {off : Int} {tgt : Nat} (hd : decode M.2.1 pc = .ok (.if_icmp .lt off, 3)) (ht : (pc : Int) + off = (tgt : Int))
    (kt : x < y → J d M Post C S tgt ls st T I c sl) (kf : ¬ x < y → J d M Post C S (pc + 3) ls st T I c sl) : J d M Post C S pc ls (.int y :: .int x :: st) T I c sl := by
  intro p l e s m args below meth cd G ab T0 ad0 ad ca H locs LS F D hl hv
  exact lv_icmp_lt F.1 F.2.1 hd ht (fun h => kt h p l e s m args below meth cd G ab T0 ad0 ad ca H locs LS F D hl (vs_t (vs_t hv))) (fun h => kf h p l e s m args below meth cd G ab T0 ad0 ad ca H locs LS F D hl (vs_t (vs_t hv)))
theorem J.if_ge {x : Int32} {off : Int} {tgt : Nat} (hd : decode M.2.1 pc = .ok (.ifCond .ge off, 3)) (ht : (pc : Int) + off = (tgt : Int))
    (kt : 0 ≤ x → J d M Post C S tgt ls st T I c sl) (kf : ¬ 0 ≤ x → J d M Post C S (pc + 3) ls st T I c sl) : J d M Post C S pc ls (.int x :: st) T I c sl := by
  intro p l e s m args below meth cd G ab T0 ad0 ad ca H locs LS F D hl hv
  exact lv_if_ge F.1 F.2.1 hd ht (fun h => kt h p l e s m args below meth cd G ab T0 ad0 ad ca H locs LS F D hl (vs_t hv)) (fun h => kf h p l e s m args below meth cd G ab T0 ad0 ad ca H locs LS F D hl (vs_t hv))
theorem J.icmp_ge {x y : Int32} {off : Int} {tgt : Nat} (hd : decode M.2.1 pc = .ok (.if_icmp .ge off, 3)) (ht : (pc : Int) + off = (tgt : Int))
    (kt : y ≤ x → J d M Post C S tgt ls st T I c sl) (kf : ¬ y ≤ x → J d M Post C S (pc + 3) ls st T I c sl) : J d M Post C S pc ls (.int y :: .int x :: st) T I c sl := by
  intro p l e s m args below meth cd G ab T0 ad0 ad ca H locs LS F D hl hv
  exact lv_icmp_ge F.1 F.2.1 hd ht (fun h => kt h p l e s m args below meth cd G ab T0 ad0 ad ca H locs LS F D hl (vs_t (vs_t hv))) (fun h => kf h p l e s m args below meth cd G ab T0 ad0 ad ca H locs LS F D hl (vs_t (vs_t hv)))
theorem J.if_gt {x : Int32} {off : Int} {tgt : Nat} (hd : decode M.2.1 pc = .ok (.ifCond .gt off, 3)) (ht : (pc : Int) + off = (tgt : Int))
    (kt : 0 < x → J d M Post C S tgt ls st T I c sl) (kf : ¬ 0 < x → J d M Post C S (pc + 3) ls st T I c sl) : J d M Post C S pc ls (.int x :: st) T I c sl := by
  intro p l e s m args below meth cd G ab T0 ad0 ad ca H locs LS F D hl hv
  exact lv_if_gt F.1 F.2.1 hd ht (fun h => kt h p l e s m args below meth cd G ab T0 ad0 ad ca H locs LS F D hl (vs_t hv)) (fun h => kf h p l e s m args below meth cd G ab T0 ad0 ad ca H locs LS F D hl (vs_t hv))
theorem J.icmp_gt {x y : Int32} {off : Int} {tgt : Nat} (hd : decode M.2.1 pc = .ok (.if_icmp .gt off, 3)) (ht : (pc : Int) + off = (tgt : Int))
    (kt : y < x → J d M Post C S tgt ls st T I c sl) (kf : ¬ y < x → J d M Post C S (pc + 3) ls st T I c sl) : J d M Post C S pc ls (.int y :: .int x :: st) T I c sl := by
  intro p l e s m args below meth cd G ab T0 ad0 ad ca H locs LS F D hl hv
  exact lv_icmp_gt F.1 F.2.1 hd ht (fun h => kt h p l e s m args below meth cd G ab T0 ad0 ad ca H locs LS F D hl (vs_t (vs_t hv))) (fun h => kf h p l e s m args below meth cd G ab T0 ad0 ad ca H locs LS F D hl (vs_t (vs_t hv)))
theorem J.if_le {x : Int32} {off : Int} {tgt : Nat} (hd : decode M.2.1 pc = .ok (.ifCond .le off, 3)) (ht : (pc : Int) + off = (tgt : Int))
    (kt : x ≤ 0 → J d M Post C S tgt ls st T I c sl) (kf : ¬ x ≤ 0 → J d M Post C S (pc + 3) ls st T I c sl) : J d M Post C S pc ls (.int x :: st) T I c sl := by
  intro p l e s m args below meth cd G ab T0 ad0 ad ca H locs LS F D hl hv
  exact lv_if_le F.1 F.2.1 hd ht (fun h => kt h p l e s m args below meth cd G ab T0 ad0 ad ca H locs LS F D hl (vs_t hv)) (fun h => kf h p l e s m args below meth cd G ab T0 ad0 ad ca H locs LS F D hl (vs_t hv))
theorem J.icmp_le {x y : Int32} {off : Int} {tgt : Nat} (hd : decode M.2.1 pc = .ok (.if_icmp .le off, 3)) (ht : (pc : Int) + off = (tgt : Int))
    (kt : x ≤ y → J d M Post C S tgt ls st T I c sl) (kf : ¬ x ≤ y → J d M Post C S (pc + 3) ls st T I c sl) : J d M Post C S pc ls (.int y :: .int x :: st) T I c sl := by
  intro p l e s m args below meth cd G ab T0 ad0 ad ca H locs LS F D hl hv
  exact lv_icmp_le F.1 F.2.1 hd ht (fun h => kt h p l e s m args below meth cd G ab T0 ad0 ad ca H locs LS F D hl (vs_t (vs_t hv))) (fun h => kf h p l e s m args below meth cd G ab T0 ad0 ad ca H locs LS F D hl (vs_t (vs_t hv)))
end JR
