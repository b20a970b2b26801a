noncomputable section
/-! what depends on what -/
theorem oth_congr {S S' : St} (h1 : S'.ea = S.ea) (h2 : S'.eb = S.eb) (l x : Nat) : S'.oth l x = S.oth l x := by unfold St.oth; rw [h1, h2]
theorem late_congr {S S' : St} (h : S'.lt = S.lt) : ∀ p, lateN S' p = lateN S p
  | [] => rfl
  | l :: p => by unfold lateN; rw [h, late_congr h p]
theorem nodes_congr {S S' : St} (h1 : S'.ea = S.ea) (h2 : S'.eb = S.eb) : ∀ (p : List Nat) (x : Nat), nodesOf S' x p = nodesOf S x p
  | [], _ => rfl
  | l :: p, x => by unfold nodesOf; rw [oth_congr h1 h2, nodes_congr h1 h2 p]
theorem ahd_congr {S S' : St} (h : S'.lt = S.lt) : ahd S' = ahd S := by
  funext p q
  unfold ahd
  rw [late_congr h, late_congr h]
theorem dfs_congr {S S' : St} (h0 : S'.nl = S.nl) (h1 : S'.ea = S.ea) (h2 : S'.eb = S.eb) (h3 : S'.lt = S.lt) (b : Nat) : ∀ k, dfs S' b k = dfs S b k
  | 0 => by funext x seen p A; rfl
  | k + 1 => by
    funext x seen p A
    unfold dfs
    rw [ahd_congr h3, dfs_congr h0 h1 h2 h3 b k, h0]
    have : ∀ n, lpA S' x seen p (dfs S b k) A n = lpA S x seen p (dfs S b k) A n := by
      intro n
      induction n with
      | zero => rfl
      | succ n ih => rw [lpA, lpA, ih, oth_congr h1 h2]
    rw [this]
theorem wayA_congr {S S' : St} (h0 : S'.nl = S.nl) (h1 : S'.ea = S.ea) (h2 : S'.eb = S.eb) (h3 : S'.lt = S.lt) (a b : Nat) : S'.wayA a b = S.wayA a b := by
  unfold St.wayA
  rw [dfs_congr h0 h1 h2 h3]
theorem key_congr {S S' : St} (h : S'.lt = S.lt) (p : List Nat) : keyN S' p = keyN S p := by unfold keyN; rw [late_congr h]
theorem path_mono {S S' : St} (h0 : S.nl ≤ S'.nl) (h : ∀ l x, l < S.nl → S'.oth l x = S.oth l x) {b : Nat} : ∀ (p : List Nat) (x seen : Nat), S.path x seen b p → S'.path x seen b p
  | [], _, _, h => h
  | l :: p, x, seen, ⟨h1, h2, y, h3, h4, h5⟩ => ⟨h1, by omega, y, by rw [h l x h2]; exact h3, h4, path_mono h0 h p y _ h5⟩
theorem cWays.congr {S S' : St} {C : IM} (h0 : S'.nl = S.nl) (h1 : S'.ea = S.ea) (h2 : S'.eb = S.eb) (h3 : S'.lt = S.lt) (hn : S.nn ≤ S'.nn) (h : cWays S C) : cWays S' C := by
  rcases h with h | ⟨m, q1, q2, q3⟩
  · exact .inl h
  · refine .inr ⟨m, by omega, q2, fun q => ?_⟩
    obtain ⟨a, b, r1, r2, r3, r4, r5, r6⟩ := q3 (by omega)
    refine ⟨a, b, by omega, by omega, r3, r4, ?_, ?_⟩
    · rw [wayA_congr h0 h1 h2 h3]; exact r5
    · rw [wayA_congr h0 h1 h2 h3]; intro j hj; rw [key_congr h3]; exact r6 j hj
/-- NODES of a WAY -/
theorem path_nodes {S : St} (hS : S.netOk) {b : Nat} : ∀ (p : List Nat) (x seen : Nat), x < S.nn → S.path x seen b p → nodesOf S x p < 2 ^ S.nn
  | [], x, _, hx, _ => Nat.pow_lt_pow_right (by decide) hx
  | l :: p, x, seen, hx, ⟨_, h2, y, h3, _, h5⟩ => by
    unfold nodesOf
    rw [h3]
    exact or_lt (Nat.pow_lt_pow_right (by decide) hx) (path_nodes hS p y _ (oth_lt hS h2 h3).1 h5)
theorem hostsL_more {w u hs m : Nat} (h : hs < 2 ^ m) (d : Nat) : hostsL w u hs 0 (m + d) = hostsL w u hs 0 m := by
  unfold hostsL
  rw [show m + d = m + d from rfl, ← List.range'_append (s := 0) (m := m) (n := d) (step := 1)]
  rw [List.filter_append, List.map_append]
  have : (List.range' (0 + 1 * m) d).filter (fun x => hs.testBit x) = [] := by
    rw [List.filter_eq_nil_iff]
    intro x hx
    rw [bit_no h (by have := (List.mem_range'_1.mp hx).1; omega)]
    simp
  rw [this]; simp
/-- the PLACES stay, also when a NODE comes -/
theorem plist_congr {S S' : St} (hS : S.netOk) (h0 : S'.nl = S.nl) (h1 : S'.ea = S.ea) (h2 : S'.eb = S.eb) (h3 : S'.lt = S.lt) (hn : S.nn ≤ S'.nn) {s : Nat} (ha : S.sa s < S.nn) (hb : S.sb s < S.nn) (e1 : S'.sa s = S.sa s) (e2 : S'.sb s = S.sb s) (e3 : S'.kd s = S.kd s) (e4 : S'.bd s = S.bd s) : S'.plist s = S.plist s := by
  have w1 : S'.wn s = S.wn s := by unfold St.wn; rw [wayA_congr h0 h1 h2 h3, e1, e2]
  have w2 : ∀ i, S'.wy s i = S.wy s i := fun i => by unfold St.wy; rw [wayA_congr h0 h1 h2 h3, e1, e2]
  have w3 : ∀ i, S'.setW s i = S.setW s i := fun i => by unfold St.setW; rw [w2]
  have w4 : ∀ i, S'.nodW s i = S.nodW s i := fun i => by unfold St.nodW; rw [w2, nodes_congr h1 h2, e1]
  have w5 : ∀ i, S'.latW s i = S.latW s i := fun i => by unfold St.latW; rw [w2, late_congr h3]
  obtain ⟨d, hd⟩ : ∃ d, S'.nn = S.nn + d := ⟨S'.nn - S.nn, by omega⟩
  have w6 : ∀ i, i < S.wn s → S.nodW s i < 2 ^ S.nn := fun i hi => path_nodes hS _ _ _ ha (way_ok hS ha hb i hi).1
  have w7 : ∀ i, i < S.wn s → S'.spL s i 0 (S.wn s) = S.spL s i 0 (S.wn s) := by
    intro i hi
    unfold St.spL
    simp only [w3, w4, w5, e4]
    have key : ∀ L : List Nat, (L.flatMap fun j => if S.latW s j ≤ S.bd s ∧ S.setW s i &&& S.setW s j = 0 then hostsL (S.setW s i) (S.setW s j) (S.nodW s i &&& S.nodW s j) 0 S'.nn else []) = L.flatMap fun j => if S.latW s j ≤ S.bd s ∧ S.setW s i &&& S.setW s j = 0 then hostsL (S.setW s i) (S.setW s j) (S.nodW s i &&& S.nodW s j) 0 S.nn else [] := by
      intro L
      congr 1
      funext j
      split
      · rw [hd, hostsL_more (Nat.lt_of_le_of_lt Nat.and_le_left (w6 i hi))]
      · rfl
    exact key _
  unfold St.plist St.gaL
  rw [w1]
  have key : ∀ L : List Nat, (∀ i ∈ L, i < S.wn s) → (L.flatMap fun i => if S'.latW s i ≤ S'.bd s then (if S'.kd s = 1 then S'.spL s i 0 (S.wn s) else hostsL (S'.setW s i) 0 (S'.nodW s i) 0 S'.nn) else []) = L.flatMap fun i => if S.latW s i ≤ S.bd s then (if S.kd s = 1 then S.spL s i 0 (S.wn s) else hostsL (S.setW s i) 0 (S.nodW s i) 0 S.nn) else [] := by
    intro L hL
    induction L with
    | nil => rfl
    | cons i L ih =>
      have hi := hL i List.mem_cons_self
      rw [List.flatMap_cons, List.flatMap_cons, ih (fun x hx => hL x (List.mem_cons_of_mem _ hx)), w3, w4, w5, e3, e4, w7 i hi, hd, hostsL_more (w6 i hi)]
  exact key _ (fun i hi => by have := (List.mem_range'_1.mp hi).2; omega)
theorem cPlc.congr {T : Topo} {S S' : St} {C : IM} (hS : S.netOk) (hs : S.slOk) (h0 : S'.nl = S.nl) (h1 : S'.ea = S.ea) (h2 : S'.eb = S.eb) (h3 : S'.lt = S.lt) (hn : S.nn ≤ S'.nn) (hns : S.ns ≤ S'.ns) (he : ∀ s, s < S.ns → S'.sa s = S.sa s ∧ S'.sb s = S.sb s ∧ S'.kd s = S.kd s ∧ S'.bd s = S.bd s) (h : cPlc T S C) : cPlc T S' C := fun i hi => by
  rcases h i hi with h | ⟨g1, m, g2, g3, g4⟩
  · exact .inl h
  · obtain ⟨e1, e2, e3, e4⟩ := he i g1
    have hp := hs.2.1 i g1
    refine .inr ⟨by omega, m, by omega, g3, fun q => ?_⟩
    unfold cPl1
    rw [plist_congr hS h0 h1 h2 h3 hn hp.2.1 hp.2.2.1 e1 e2 e3 e4]
    exact g4 (by omega)
/-! numbers in range -/
theorem rng_iff {x : Int32} {n : Nat} (hn : n < 2 ^ 31) : (0 ≤ x ∧ x < nI n) ↔ ∃ j, j < n ∧ x = nI j := by
  constructor
  · rintro ⟨h1, h2⟩
    obtain ⟨j, hj, rfl⟩ := nI_of (x := x) (Int32.not_lt.mpr h1)
    exact ⟨j, (nI_ltI hj hn).mp h2, rfl⟩
  · rintro ⟨j, hj, rfl⟩
    exact ⟨nI_pos' (by omega), nI_lt hj hn⟩
theorem rngM_iff {x : Int32} {n : Nat} (hn : n < 2 ^ 31) : wi x 0 (nI n - 1) ↔ ∃ j, j < n ∧ x = nI j := by
  cases n with
  | zero =>
    constructor
    · rintro ⟨h1, h2⟩
      exact absurd (Int32.le_trans h1 h2) (by decide)
    · rintro ⟨j, hj, -⟩; omega
  | succ n =>
    rw [nI_pred]
    constructor
    · intro h
      obtain ⟨j, -, h2, rfl⟩ := wi_nI (a := 0) (by omega) h (by omega)
      exact ⟨j, by omega, rfl⟩
    · rintro ⟨j, hj, rfl⟩
      exact (wi_nI' (a := 0) (by omega) (by omega) (by omega)).mpr ⟨by omega, by omega⟩
/-! the same net and the same SLICES -/
def Core (S S' : St) : Prop := S'.nn = S.nn ∧ S'.nl = S.nl ∧ S'.ns = S.ns ∧ S'.wr = S.wr ∧ S'.ea = S.ea ∧ S'.eb = S.eb ∧ S'.rm = S.rm ∧ S'.lt = S.lt ∧ S'.pr = S.pr ∧ S'.kd = S.kd ∧ S'.sa = S.sa ∧ S'.sb = S.sb ∧ S'.rt = S.rt ∧ S'.bd = S.bd ∧ S'.ls = S.ls ∧ S'.wk = S.wk ∧ S'.wo = S.wo ∧ S'.fi = S.fi ∧ S'.la = S.la ∧ S'.ho = S.ho
theorem Core.nn {S S' : St} (h : Core S S') : S'.nn = S.nn := h.1
theorem Core.nl {S S' : St} (h : Core S S') : S'.nl = S.nl := h.2.1
theorem Core.ns {S S' : St} (h : Core S S') : S'.ns = S.ns := h.2.2.1
theorem Core.wr {S S' : St} (h : Core S S') : S'.wr = S.wr := h.2.2.2.1
theorem Core.ea {S S' : St} (h : Core S S') : S'.ea = S.ea := h.2.2.2.2.1
theorem Core.eb {S S' : St} (h : Core S S') : S'.eb = S.eb := h.2.2.2.2.2.1
theorem Core.rm {S S' : St} (h : Core S S') : S'.rm = S.rm := h.2.2.2.2.2.2.1
theorem Core.lt {S S' : St} (h : Core S S') : S'.lt = S.lt := h.2.2.2.2.2.2.2.1
theorem Core.pr {S S' : St} (h : Core S S') : S'.pr = S.pr := h.2.2.2.2.2.2.2.2.1
theorem Core.kd {S S' : St} (h : Core S S') : S'.kd = S.kd := h.2.2.2.2.2.2.2.2.2.1
theorem Core.sa {S S' : St} (h : Core S S') : S'.sa = S.sa := h.2.2.2.2.2.2.2.2.2.2.1
theorem Core.sb {S S' : St} (h : Core S S') : S'.sb = S.sb := h.2.2.2.2.2.2.2.2.2.2.2.1
theorem Core.rt {S S' : St} (h : Core S S') : S'.rt = S.rt := h.2.2.2.2.2.2.2.2.2.2.2.2.1
theorem Core.bd {S S' : St} (h : Core S S') : S'.bd = S.bd := h.2.2.2.2.2.2.2.2.2.2.2.2.2.1
theorem Core.ls {S S' : St} (h : Core S S') : S'.ls = S.ls := h.2.2.2.2.2.2.2.2.2.2.2.2.2.2.1
theorem Core.wk {S S' : St} (h : Core S S') : S'.wk = S.wk := h.2.2.2.2.2.2.2.2.2.2.2.2.2.2.2.1
theorem Core.wo {S S' : St} (h : Core S S') : S'.wo = S.wo := h.2.2.2.2.2.2.2.2.2.2.2.2.2.2.2.2.1
theorem Core.fi {S S' : St} (h : Core S S') : S'.fi = S.fi := h.2.2.2.2.2.2.2.2.2.2.2.2.2.2.2.2.2.1
theorem Core.la {S S' : St} (h : Core S S') : S'.la = S.la := h.2.2.2.2.2.2.2.2.2.2.2.2.2.2.2.2.2.2.1
theorem Core.ho {S S' : St} (h : Core S S') : S'.ho = S.ho := h.2.2.2.2.2.2.2.2.2.2.2.2.2.2.2.2.2.2.2
theorem Core.path {S S' : St} (h : Core S S') : S'.path = S.path := by
  funext x seen b p
  refine propext ⟨fun q => ?_, fun q => ?_⟩
  · exact path_mono (by rw [h.nl]; exact Nat.le_refl _) (fun l x _ => (oth_congr h.ea h.eb l x).symm) p x seen q
  · exact path_mono (by rw [h.nl]; exact Nat.le_refl _) (fun l x _ => oth_congr h.ea h.eb l x) p x seen q
theorem Core.isPl {S S' : St} (h : Core S S') : S'.isPl = S.isPl := by
  funext s w u q
  unfold St.isPl
  rw [h.path, h.sa, h.sb, h.nn, h.kd]
theorem Core.need {S S' : St} (h : Core S S') : S'.need = S.need := by
  funext s
  unfold St.need
  rw [h.kd, h.ls, h.rt]
theorem Core.does {S S' : St} (h : Core S S') : S'.does = S.does := by
  funext s t
  unfold St.does
  rw [h.kd, h.fi, h.la, h.ho]
theorem Core.tks {S S' : St} (h : Core S S') : S'.tks = S.tks := by
  funext s
  unfold St.tks
  rw [h.does]
theorem Core.ld {S S' : St} (h : Core S S') : S'.ld = S.ld := by
  funext P D l t
  unfold St.ld
  rw [h.need, h.ns]
theorem Core.pa {S S' : St} (h : Core S S') : S'.pa = S.pa := by
  funext P D l f t
  unfold St.pa
  rw [h.need, h.ns]
theorem Core.fl {S S' : St} (h : Core S S') : S'.fl = S.fl := by
  funext P D l t
  unfold St.fl
  rw [h.pa]
theorem Core.wo' {S S' : St} (h : Core S S') : S'.wo' = S.wo' := by
  funext P D l t
  unfold St.wo'
  rw [h.wk, h.ns]
theorem Core.allOk {S S' : St} (h : Core S S') : S'.allOk = S.allOk := by
  funext P D n
  unfold St.allOk St.linesOk St.worksOk
  rw [h.ld, h.fl, h.wo', h.nl, h.nn, h.rm, h.wr]
theorem Core.plOk {S S' : St} (h : Core S S') : S'.plOk = S.plOk := by
  funext P
  unfold St.plOk
  rw [h.isPl, h.ns]
theorem Core.cNet {S S' : St} (h : Core S S') : cNet S' = cNet S := by
  funext C
  unfold Jvm.Pilot.CSliceSellerLaw_law_r9952_debf30.cNet
  rw [h.nn, h.nl, h.wr, h.ea, h.eb, h.rm, h.lt, h.pr]
theorem Core.cSl {S S' : St} (h : Core S S') : cSl S' = cSl S := by
  funext C
  unfold Jvm.Pilot.CSliceSellerLaw_law_r9952_debf30.cSl
  rw [h.ns, h.kd, h.sa, h.sb, h.rt, h.bd, h.ls, h.wk, h.wo, h.fi, h.la, h.ho]
theorem Core.cTk {S S' : St} (h : Core S S') : cTk S' = cTk S := by
  funext C
  unfold Jvm.Pilot.CSliceSellerLaw_law_r9952_debf30.cTk
  rw [h.ns, h.tks]
theorem Core.cBk {S S' : St} (h : Core S S') : cBk S' = cBk S := by
  funext P D b n C
  unfold Jvm.Pilot.CSliceSellerLaw_law_r9952_debf30.cBk
  rw [h.ld, h.fl, h.pa, h.wo']
theorem Core.sym {S S' : St} (h : Core S S') : Core S' S := ⟨h.nn.symm, h.nl.symm, h.ns.symm, h.wr.symm, h.ea.symm, h.eb.symm, h.rm.symm, h.lt.symm, h.pr.symm, h.kd.symm, h.sa.symm, h.sb.symm, h.rt.symm, h.bd.symm, h.ls.symm, h.wk.symm, h.wo.symm, h.fi.symm, h.la.symm, h.ho.symm⟩
theorem Core.cWays {S S' : St} (h : Core S S') {C : IM} (q : cWays S C) : cWays S' C := q.congr h.nl h.ea h.eb h.lt (by rw [h.nn]; exact Nat.le_refl _)
theorem Core.cPlc {S S' : St} (h : Core S S') {T : Topo} {C : IM} (hS : S.netOk) (hs : S.slOk) (q : cPlc T S C) : cPlc T S' C := q.congr hS hs h.nl h.ea h.eb h.lt (by rw [h.nn]; exact Nat.le_refl _) (by rw [h.ns]; exact Nat.le_refl _) (fun s _ => ⟨by rw [h.sa], by rw [h.sb], by rw [h.kd], by rw [h.bd]⟩)
theorem Core.mPl {S S' : St} (h : Core S S') : mPl S' = mPl S := by
  funext P M
  unfold Jvm.Pilot.CSliceSellerLaw_law_r9952_debf30.mPl
  rw [h.isPl]
theorem Core.mSl {S S' : St} (h : Core S S') : mSl S' = mSl S := by
  funext M
  unfold Jvm.Pilot.CSliceSellerLaw_law_r9952_debf30.mSl
  rw [h.ns, h.kd, h.sa, h.sb, h.rt, h.bd, h.ls, h.wk, h.wo, h.fi, h.la, h.ho]
theorem Core.mNet {S S' : St} (h : Core S S') (hd : S'.dn = S.dn) : mNet S' = mNet S := by
  funext M
  unfold Jvm.Pilot.CSliceSellerLaw_law_r9952_debf30.mNet
  rw [h.nn, h.nl, h.wr, h.ea, h.eb, h.rm, h.lt, h.pr, hd]
theorem Core.netOk {S S' : St} (h : Core S S') (hS : S.netOk) (hd : S'.dn < 2 ^ S.nl) (hl : ∀ l, l < S.nl → S'.lat l ≤ S.rm l) : S'.netOk := by
  obtain ⟨h1, h2, h3, h4, h5⟩ := hS
  unfold St.netOk
  rw [h.nn, h.nl, h.wr, h.ea, h.eb, h.rm, h.lt, h.pr]
  refine ⟨h1, h2, h3, hd, fun l q => ?_⟩
  obtain ⟨a1, a2, a3, a4, a5, a6, a7, a8, -⟩ := h5 l q
  exact ⟨a1, a2, a3, a4, a5, a6, a7, a8, hl l q⟩
theorem Core.slOk {S S' : St} (h : Core S S') (hS : S.slOk) (hw : ∀ s, s < 8 → S.ns ≤ s → S'.wt s = 0 ∧ S'.slt s = 0) (hl : ∀ s, s < S.ns → S'.wt s ≤ 1000 ∧ S'.slt s ≤ 20) : S'.slOk := by
  obtain ⟨h1, h2, h3⟩ := hS
  unfold St.slOk
  rw [h.ns, h.kd, h.sa, h.sb, h.nn, h.rt, h.bd, h.ls, h.wk, h.wo, h.fi, h.la, h.ho]
  refine ⟨h1, fun s q => ?_, fun s q1 q2 => ?_⟩
  · obtain ⟨a1, a2, a3, a4, a5, a6, a7, a8, a9, a10, a11, a12, a13, a14, -⟩ := h2 s q
    exact ⟨a1, a2, a3, a4, a5, a6, a7, a8, a9, a10, a11, a12, a13, a14, hl s q⟩
  · obtain ⟨a1, a2, -, -, a5, a6, a7⟩ := h3 s q1 q2
    obtain ⟨b1, b2⟩ := hw s q1 q2
    exact ⟨a1, a2, b1, b2, a5, a6, a7⟩
/-- a finding, on both sides -/
theorem bad {T : Topo} {S : St} {C M : IM} (hT : PlS T) (hS : S.ok) (hC : RC T S C) (hM : RM S M) : ∃ S' : St, S'.ok ∧ RC T S' (fnd C) ∧ RM S' (jX12_findsM M) := by
  have hK : Core S (S.s_finds (S.finds + 1)) := ⟨rfl, rfl, rfl, rfl, rfl, rfl, rfl, rfl, rfl, rfl, rfl, rfl, rfl, rfl, rfl, rfl, rfl, rfl, rfl, rfl⟩
  refine ⟨(S.s_finds (S.finds + 1)), ⟨hS.1, hS.2.1, hS.2.2.1, hS.2.2.2.1, by rw [hK.plOk]; exact hS.2.2.2.2.1, by rw [hK.allOk, hK.does]; exact hS.2.2.2.2.2⟩, ?_, ?_⟩
  · obtain ⟨h1, h2, h3, h4, h5, h6, h7, ⟨h8, h8'⟩, h9, h10, h11, h12, h13, h14, h15⟩ := hC
    have f : ∀ k, k ≠ 0 → fnd C k = C k := fun k hk => up2_ne hk
    have hw : cWays S (fnd C) := h10.of fun k q => f k (by omega)
    have hp : cPlc T S (fnd C) := h11.of hT fun i hi => ⟨by rw [f _ (by omega)], by rw [f _ (by omega)], f _ (by have := (hT i hi).1; omega)⟩
    refine ⟨h1.of fun k j q => ?_, h2.of fun k j q1 q2 q3 => ?_, h3.of ?_, h4.of fun k j q => ?_, by rw [hK.cTk]; exact h5.of fun s hs => by rw [f _ (by omega)], h6.of fun s hs => ?_, h7.of fun s j hs q1 q2 => ?_, ⟨?_, by rw [hK.cBk, hK.does]; exact h8'.of fun k q1 q2 => f k (by omega)⟩, h9.of fun k q1 q2 => f k (by omega), hK.cWays hw, hK.cPlc hS.1 hS.2.1 hp, h12.of (f _ (by omega)), ?_, h14.of ?_, h15.of fun k q1 q2 => f k (by omega)⟩
    · rw [f k (by omega)]
    · rw [f k (by omega)]
    · rw [f _ (by omega)]
    · rw [f k (by rcases q with q | ⟨s, q1, q2, q3⟩ <;> omega)]
    · rw [f _ (by omega)]
    · rw [f _ (by omega)]
    · rw [f _ (by omega)]; exact h8
    · show fnd C 0 7 = S.finds + 1
      unfold fnd
      rw [up2_at, h13]
    · rw [f _ (by omega)]
  · obtain ⟨h1, h2, h3, h4, h5, h6, h7, h8, h9⟩ := hM
    have f : ∀ k, k ≠ 79 → jX12_findsM M k = M k := fun k hk => up2_ne hk
    have f2 : ∀ j, j ≠ 4 → jX12_findsM M 79 j = M 79 j := fun j hj => up2_sj _ _ _ hj
    refine ⟨?_, ?_, ?_, ?_, ?_, ?_, ?_, ?_, ?_⟩
    · unfold mNet
      rw [f2 0 (by omega), f2 1 (by omega), f 80 (by omega), f 81 (by omega), f 82 (by omega), f 83 (by omega), f 84 (by omega), f 85 (by omega), f 89 (by omega)]
      exact h1
    · unfold mPass
      rw [f 86 (by omega), f 87 (by omega), f 88 (by omega)]
      exact h2
    · unfold mSl
      rw [f2 2 (by omega), f 90 (by omega), f 91 (by omega), f 92 (by omega), f 93 (by omega), f 94 (by omega), f 95 (by omega), f 96 (by omega), f 97 (by omega), f 98 (by omega), f 99 (by omega), f 100 (by omega)]
      exact h3
    · unfold mWt
      rw [f 101 (by omega), f 102 (by omega), f 103 (by omega), f 104 (by omega), f 105 (by omega)]
      exact h4
    · rw [hK.mPl]
      unfold mPl
      rw [f 106 (by omega), f 107 (by omega), f 108 (by omega), f 109 (by omega), f 110 (by omega), f 111 (by omega)]
      exact h5
    · unfold mDay
      rw [f2 8 (by omega), f2 3 (by omega), f2 6 (by omega), f2 7 (by omega)]
      exact h6
    · show jX12_findsM M 79 4 = S.finds + 1
      unfold jX12_findsM
      rw [up2_at, h7]
    · unfold mTry
      rw [f2 5 (by omega)]
      exact h8
    · unfold mSh
      rw [f 112 (by omega), f 113 (by omega), f 114 (by omega)]
      exact h9
end
