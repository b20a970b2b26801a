noncomputable section
section OV
variable {T : Topo} {S : St} {C M : IM}
theorem core_pl (Q : Nat → Nat) : Core S (S.s_pl Q) := ⟨rfl, rfl, rfl, rfl, rfl, rfl, rfl, rfl, rfl, rfl, rfl, rfl, rfl, rfl, rfl, rfl, rfl, rfl, rfl, rfl⟩
theorem core_tried (v : Int32) : Core S (S.s_tried v) := ⟨rfl, rfl, rfl, rfl, rfl, rfl, rfl, rfl, rfl, rfl, rfl, rfl, rfl, rfl, rfl, rfl, rfl, rfl, rfl, rfl⟩
theorem Core.plist {S' : St} (h : Core S S') (hN : S.netOk) (hsl : S.slOk) {s : Nat} (hs : s < S.ns) : S'.plist s = S.plist s :=
  plist_congr hN h.nl h.ea h.eb h.lt (by rw [h.nn]; exact Nat.le_refl _) (hsl.2.1 s hs).2.1 (hsl.2.1 s hs).2.2.1 (by rw [h.sa]) (by rw [h.sb]) (by rw [h.kd]) (by rw [h.bd])
theorem s_pl2 (P Q : Nat → Nat) : (S.s_pl P).s_pl Q = S.s_pl Q := by
  show (_, S.2) = (_, S.2)
  congr 1
  funext k
  by_cases c : k = 22
  · simp [c]
  · show (if k = 22 then Q else if k = 22 then P else S.1 k) = if k = 22 then Q else S.1 k
    rw [if_neg c, if_neg c, if_neg c]
theorem s_pl_self : S.s_pl S.pl = S := by
  show (_, S.2) = S
  refine Prod.ext ?_ rfl
  funext k
  show (if k = 22 then S.pl else S.1 k) = S.1 k
  by_cases c : k = 22
  · subst c; rw [if_pos rfl]; rfl
  · rw [if_neg c]
theorem goOut_ok (hT : PlS T) (hS : S.ok) (hC : RC T S C) {j : Nat} (hj : j < S.ns) (c : S.pl j ≠ 0) : jX11_goOutK C j ∧ (S.s_pl (put S.pl j 0)).ok ∧ RC T (S.s_pl (put S.pl j 0)) (jX11_goOutM C j) ∧ ∀ k, ¬ (49 < k ∧ k < 54) → k ≠ 17 + 4 * j → jX11_goOutM C j k = C k := by
  have h8 := hS.2.1.1
  unfold jX11_goOutK jX11_goOutM
  obtain ⟨-, w, u, a, pp, -, g1, g2, g3, g4, g5, -, -, g8⟩ := pl_parts hS.1 hS.2.2.2.2.1 (show j < 8 by omega) c
  have hl := pl_lt hS (j := j) (by omega)
  obtain ⟨b1, b2, b3⟩ := go_S (S := S) (P := S.pl) (D := S.does) (C := C) (b := 49) (n := 24) (s := j) (p := S.pl j) (wh := S.tks j) hS.2.1 hS.1 (by omega) hj rfl (.inl rfl) (by omega) c (by rw [g1]; exact g4) (by rw [g2]; exact g5) (by omega) hC.1.2.1 hC.2.2.2.2.2.2.2.1.1 (need_C hS hC hj) (hC.2.2.2.1.2 j (by omega)).2.2.2.2.2.2.1 (tks_lt j) (fun t ht => tks_bit ht) hC.2.2.2.2.2.2.2.1.2
  rw [hC.2.2.2.2.2.1 j (by omega), hC.2.2.2.2.1 j hj]
  refine ⟨b1, ok_setPl hS (plOk_put0 hS.2.2.2.2.1 j) (fun t ht => ⟨(less_ok hj).1 (hS.2.2.2.2.2 t ht).1, (less_ok hj).2 (hS.2.2.2.2.2 t ht).2⟩), RC.setPl hT hS hC (fun k i q1 q2 q3 => ?_) (fun s hs => ?_) ?_, fun k q1 q2 => ?_⟩
  · rw [up2_ap, if_neg (by omega), b3 k (by omega)]
  · by_cases e : s = j
    · rw [e, up2_at, put_at]; rfl
    · rw [up2_ap, if_neg (by omega), b3 _ (by omega), put_ne _ _ e]
      exact hC.2.2.2.2.2.1 s hs
  · exact b2.of fun k q1 q2 => up2_ne (by omega)
  · rw [up2_ne q2, b3 k (by omega)]
theorem ok_like {P Q : Nat → Nat} {D : Nat → Nat → Bool} {n : Nat} (h : ∀ i, i < S.ns → P i = Q i) (q : S.allOk P D n) : S.allOk Q D n := fun t ht => by
  obtain ⟨q1, q2⟩ := q t ht
  have e1 : ∀ l, S.ld Q D l t = S.ld P D l t := fun l => sm_congr _ fun s hs => by rw [h s hs]
  have e2 : ∀ l f, S.pa Q D l f t = S.pa P D l f t := fun l f => sm_congr _ fun s hs => by rw [h s hs]
  have e3 : ∀ a, S.wo' Q D a t = S.wo' P D a t := fun l => sm_congr _ fun s hs => by rw [h s hs]
  have e4 : ∀ l, S.fl Q D l t = S.fl P D l t := fun l => mx_congr 9 fun f _ => e2 l f
  exact ⟨fun l hl => by rw [e1, e4]; exact q1 l hl, fun a ha => by rw [e3]; exact q2 a ha⟩
/-- of what is LAID a part holds too -/
theorem ok_part {P : Nat → Nat} {D : Nat → Nat → Bool} {n : Nat} (q : S.allOk P D n) : ∀ d k, k + d = S.ns → S.allOk (fun i => if i < k then P i else 0) D n
  | 0, k, h => ok_like (fun i hi => by (try dsimp only); rw [if_pos (by omega)]) q
  | d + 1, k, h => by
    have ih := ok_part q d (k + 1) (by omega)
    refine ok_like (P := put (fun i => if i < k + 1 then P i else 0) k 0) (fun i hi => ?_) fun t ht => ⟨(less_ok (show k < S.ns by omega)).1 (ih t ht).1, (less_ok (show k < S.ns by omega)).2 (ih t ht).2⟩
    by_cases e : i = k
    · subst e; rw [put_at]; (try dsimp only); rw [if_neg (by omega)]
    · rw [put_ne _ _ e]
      by_cases c : i < k
      · (try dsimp only); rw [if_pos (by omega), if_pos c]
      · (try dsimp only); rw [if_neg (by omega), if_neg c]
/-- how many that were IN have it otherwise now -/
def dif (P Q : Nat → Nat) (k : Nat) : Nat := sm (fun j => if P j ≠ 0 ∧ Q j ≠ P j then 1 else 0) k
theorem dif_le (P Q : Nat → Nat) : ∀ k, dif P Q k ≤ k := fun k => by
  have := sm_le (f := fun j => if P j ≠ 0 ∧ Q j ≠ P j then 1 else 0) (B := 1) k (fun i _ => by (try dsimp only); split <;> omega)
  unfold dif; omega
abbrev oF (set : Nat) : Nat → Nat × Int32 × Int32 × IM → Int32 × IM := fun n t => jX11_takeOverI (nI set) n t.1 t.2.1 t.2.2.1 t.2.2.2
abbrev oO (set : Nat) : Nat → Nat × Int32 × Int32 × IM → Prop := fun n t => jX11_takeOverO (nI set) n t.1 t.2.1 t.2.2.1 t.2.2.2
def outQ (P : Nat → Nat) (k : Nat) : Nat → Nat := fun i => if i < k then 0 else P i
def inQ (P Q : Nat → Nat) (k : Nat) : Nat → Nat := fun i => if i < k then Q i else P i
theorem over_C (hT : PlS T) (hS : S.ok) (hC : RC T S C) {set : Nat} (hset : set < 256) {Q : Nat → Nat} (q1 : S.plOk Q) (q2 : S.allOk Q S.does 24) (q3 : ∀ i, Q i ≠ 0 ↔ i < S.ns ∧ set.testBit i = true) (q4 : ∀ i, Q i ≠ 0 → Q i ∈ S.ups i) (q5 : ∀ i, Q i ≠ 0 → C 66 i = nI (Q i)) :
    jX11_takeOverK C (nI set) ∧ ∃ C', jX11_takeOver C (nI set) = (nI (dif S.pl Q S.ns), C') ∧ (∀ k, 54 ≤ k → C' k = C k) ∧ phi C' 8 = phi C 8 ∧ (S.s_pl (inQ (outQ S.pl S.ns) Q S.ns)).ok ∧ RC T (S.s_pl (inQ (outQ S.pl S.ns) Q S.ns)) C' := by
  have h8 := hS.2.1.1
  have z0 : ∀ i, ¬ (Q i ≠ 0) → Q i = 0 := fun i h => by omega
  -- all go out
  obtain ⟨⟨tg, v2, v3, C1⟩, ⟨e0, e1, e2, p1, p2, p3, p4⟩, go1⟩ := Go.loopE (F := oF set) (O := oO set) (B := 1) (P := fun k t => t.1 = 0 ∧ t.2.1 = nI (dif S.pl Q k) ∧ t.2.2.1 = nI k ∧ (S.s_pl (outQ S.pl k)).ok ∧ RC T (S.s_pl (outQ S.pl k)) t.2.2.2 ∧ (∀ c, 54 ≤ c → t.2.2.2 c = C c) ∧ ∀ i, i < 8 → t.2.2.2 (18 + 4 * i) = C (18 + 4 * i)) S.ns
    (fun k hk t ht => by
      obtain ⟨tg, v2, v3, I⟩ := t
      obtain ⟨e0, e1, e2, p1, p2, p3, p4⟩ := ht
      dsimp only at e0 e1 e2 p2 p3 p4
      subst e0 e1 e2
      have c0 : ¬ S.ns ≤ k := by omega
      have v8 : vp_in (nI k) 8 := (vp_nI (by omega)).mpr (by omega)
      have e15 : I 15 1 = nI S.ns := p2.2.2.2.1.1
      have ok : outQ S.pl k k = S.pl k := by unfold outQ; rw [if_neg (by omega)]
      have ic := in_C p1 p2 (j := k) (by omega)
      have ic' : inS I k ↔ ¬ S.pl k = 0 := by rw [← ok]; exact ic
      have i12 : I (17 + 4 * k) 12 = nI (S.pl k) := by rw [← ok]; exact p2.2.2.2.2.2.1 k (by omega)
      have i66 : Q k ≠ 0 → I 66 k = nI (Q k) := fun q => by rw [p3 66 (by omega)]; exact q5 k q
      have dl := dif_le S.pl Q k
      have pl21 := pl_lt hS (j := k) (by omega)
      have Q21 : Q k < 2 ^ 21 := by
        by_cases c : Q k = 0
        · omega
        · exact (place_facts hS.1 hS.2.1 hk (List.mem_filter.mp (q4 k c)).1).2.2.1
      by_cases c : S.pl k = 0
      · have nc : ¬ inS I k := fun q => ic'.mp q c
        have eq : outQ S.pl (k + 1) = outQ S.pl k := by
          funext i; unfold outQ
          by_cases ei : i = k
          · subst ei; rw [if_pos (by omega), if_neg (by omega), c]
          · by_cases ci : i < k
            · rw [if_pos (by omega), if_pos ci]
            · rw [if_neg (by omega), if_neg ci]
        have ed : dif S.pl Q (k + 1) = dif S.pl Q k := by
          show sm _ k + (if S.pl k ≠ 0 ∧ Q k ≠ S.pl k then 1 else 0) = _
          rw [if_neg (fun q => q.1 c)]; rfl
        refine ⟨(0, nI (dif S.pl Q k), nI (k + 1), I), ⟨rfl, by dsimp only; rw [ed], rfl, by rw [eq]; exact p1, by rw [eq]; exact p2, p3, p4⟩, Go.one fun m => ?_⟩
        dsimp only [oF, oO]
        rw [jX11_takeOverO_4, jX11_takeOverI_4, e15, nI_clamp (n := k) (by omega), nI_1 k]
        simp (disch := omega) only [nI_leI, eq_false c0, eq_true v8, eq_false nc, ↓reduceIte, not_true_eq_false, not_false_eq_true, true_imp_iff, false_imp_iff, implies_true, and_true, true_and, eq_self]
        first | exact id | exact ⟨id, rfl⟩
      · have yc : inS I k := ic'.mpr c
        have eq : outQ S.pl (k + 1) = put (outQ S.pl k) k 0 := by
          funext i
          by_cases ei : i = k
          · subst ei; rw [put_at]; unfold outQ; rw [if_pos (by omega)]
          · rw [put_ne _ _ ei]; unfold outQ
            by_cases ci : i < k
            · rw [if_pos (by omega), if_pos ci]
            · rw [if_neg (by omega), if_neg ci]
        obtain ⟨g1, g2, g3, g4⟩ := goOut_ok hT p1 p2 (j := k) hk (show outQ S.pl k k ≠ 0 by rw [ok]; exact c)
        rw [s_pl2] at g2 g3
        have g2' : (S.s_pl (outQ S.pl (k + 1))).ok := by rw [eq]; exact g2
        have g3' : RC T (S.s_pl (outQ S.pl (k + 1))) (jX11_goOutM I k) := by rw [eq]; exact g3
        refine ⟨(0, nI (dif S.pl Q (k + 1)), nI (k + 1), jX11_goOutM I k), ⟨rfl, rfl, rfl, g2', g3', fun x hx => (g4 x (by omega) (by omega)).trans (p3 x hx), fun i hi => (g4 _ (by omega) (by omega)).trans (p4 i hi)⟩, Go.one fun m => ?_⟩
        dsimp only [oF, oO]
        rw [jX11_takeOverO_4, jX11_takeOverI_4, e15]
        unfold jX3_placeGot jX3_placeGotK
        rw [nI_clamp (n := k) (by omega), nI_1 k]
        have ed : dif S.pl Q (k + 1) = dif S.pl Q k + (if Q k ≠ S.pl k then 1 else 0) := by
          show sm _ k + (if S.pl k ≠ 0 ∧ Q k ≠ S.pl k then 1 else 0) = _
          by_cases cq : Q k = S.pl k
          · rw [if_neg (fun q => q.2 cq), if_neg (fun q => q cq)]; rfl
          · rw [if_pos ⟨c, cq⟩, if_pos cq]; rfl
        have a0 : nI (dif S.pl Q k) + 0 = nI (dif S.pl Q k + 0) := by rw [Int32.add_zero]; rfl
        have a1 := nI_1 (dif S.pl Q k)
        by_cases b : set.testBit k = true
        · have qn : Q k ≠ 0 := (q3 k).mpr ⟨hk, b⟩
          by_cases cq : Q k = S.pl k
          · rw [ed, if_neg (fun q => q cq), ← a0]
            have cq' : I 66 k = I (17 + 4 * k) 12 := by rw [i66 qn, i12, cq]
            simp (disch := omega) only [nI_leI, hs_nI, eq_false c0, eq_true v8, eq_true yc, eq_true b, eq_true cq', eq_true g1, ↓reduceIte, not_true_eq_false, not_false_eq_true, true_imp_iff, false_imp_iff, implies_true, and_true, true_and, eq_self]
            first | exact id | exact ⟨id, rfl⟩
          · rw [ed, if_pos cq, ← a1]
            have cq' : ¬ I 66 k = I (17 + 4 * k) 12 := by rw [i66 qn, i12]; exact fun q => cq ((nI_eq (by omega) (by omega)).mp q)
            simp (disch := omega) only [nI_leI, hs_nI, eq_false c0, eq_true v8, eq_true yc, eq_true b, eq_false cq', eq_true g1, ↓reduceIte, not_true_eq_false, not_false_eq_true, true_imp_iff, false_imp_iff, implies_true, and_true, true_and, eq_self]
            first | exact id | exact ⟨id, rfl⟩
        · have q0 : Q k = 0 := z0 k fun q => b ((q3 k).mp q).2
          have cq : Q k ≠ S.pl k := fun q => c (by rw [← q]; exact q0)
          rw [ed, if_pos cq, ← a1]
          have cq' : ¬ (0 : Int32) = I (17 + 4 * k) 12 := by rw [i12, li0]; exact fun q => c ((nI_eq (by omega) (by omega)).mp q).symm
          simp (disch := omega) only [nI_leI, hs_nI, eq_false c0, eq_true v8, eq_true yc, eq_false b, eq_false cq', eq_true g1, ↓reduceIte, not_true_eq_false, not_false_eq_true, true_imp_iff, false_imp_iff, implies_true, and_true, true_and, eq_self]
          first | exact id | exact ⟨id, rfl⟩) (0, nI 0, nI 0, C) ⟨rfl, rfl, rfl, by rw [show outQ S.pl 0 = S.pl from funext fun i => if_neg (by omega), s_pl_self]; exact hS, by rw [show outQ S.pl 0 = S.pl from funext fun i => if_neg (by omega), s_pl_self]; exact hC, fun _ _ => rfl, fun _ _ => rfl⟩
  dsimp only at e0 e1 e2 p2 p3 p4
  subst e0 e1 e2
  have e15 : C1 15 1 = nI S.ns := p2.2.2.2.1.1
  have go2 : Go (oF set) (oO set) 1 (0, nI (dif S.pl Q S.ns), nI S.ns, C1) (1, nI (dif S.pl Q S.ns), nI 0, C1) := by
    rw [← li0]
    refine Go.one fun m => ?_
    dsimp only [oF, oO]
    rw [jX11_takeOverO_4, jX11_takeOverI_4, e15]
    simp (disch := omega) only [nI_leI, eq_true (Nat.le_refl S.ns), ↓reduceIte, not_true_eq_false, not_false_eq_true, true_imp_iff, false_imp_iff, implies_true, and_true, true_and, eq_self]
    first | exact id | exact ⟨id, rfl⟩
  -- what was LAID comes in
  obtain ⟨⟨tg, v2, v3, C2⟩, ⟨e0, e1, e2, r1, r2, r3, r4⟩, go3⟩ := Go.loopE (F := oF set) (O := oO set) (B := 1) (P := fun k t => t.1 = 1 ∧ t.2.1 = nI (dif S.pl Q S.ns) ∧ t.2.2.1 = nI k ∧ (S.s_pl (inQ (outQ S.pl S.ns) Q k)).ok ∧ RC T (S.s_pl (inQ (outQ S.pl S.ns) Q k)) t.2.2.2 ∧ (∀ c, 54 ≤ c → t.2.2.2 c = C c) ∧ ∀ i, i < 8 → t.2.2.2 (18 + 4 * i) = C (18 + 4 * i)) S.ns
    (fun k hk t ht => by
      obtain ⟨tg, v2, v3, I⟩ := t
      obtain ⟨e0, e1, e2, p1, p2, p3, p4⟩ := ht
      dsimp only at e0 e1 e2 p2 p3 p4
      subst e0 e1 e2
      have c0 : ¬ S.ns ≤ k := by omega
      have v8 : vp_in (nI k) 8 := (vp_nI (by omega)).mpr (by omega)
      have e15 : I 15 1 = nI S.ns := p2.2.2.2.1.1
      have ok : inQ (outQ S.pl S.ns) Q k k = 0 := by unfold inQ outQ; rw [if_neg (by omega), if_pos hk]
      have eq : inQ (outQ S.pl S.ns) Q (k + 1) = put (inQ (outQ S.pl S.ns) Q k) k (Q k) := by
        funext i
        by_cases ei : i = k
        · subst ei; rw [put_at]; unfold inQ; rw [if_pos (by omega)]
        · rw [put_ne _ _ ei]; unfold inQ
          by_cases ci : i < k
          · rw [if_pos (by omega), if_pos ci]
          · rw [if_neg (by omega), if_neg ci]
      by_cases b : set.testBit k = true
      · have qn : Q k ≠ 0 := (q3 k).mpr ⟨hk, b⟩
        have i66 : I 66 k = nI (Q k) := by rw [p3 66 (by omega)]; exact q5 k qn
        have mem : Q k ∈ (S.s_pl (inQ (outQ S.pl S.ns) Q k)).plist k := by
          rw [(core_pl (S := S) (inQ (outQ S.pl S.ns) Q k)).plist hS.1 hS.2.1 hk]
          exact (List.mem_filter.mp (q4 k qn)).1
        have hall : S.allOk (put (inQ (outQ S.pl S.ns) Q k) k (Q k)) S.does 24 := by
          refine ok_like (P := fun i => if i < k + 1 then Q i else 0) (fun i hi => ?_) (ok_part q2 (S.ns - (k + 1)) (k + 1) (by omega))
          rw [← eq]
          unfold inQ outQ
          by_cases ci : i < k + 1
          · (try dsimp only); rw [if_pos ci, if_pos ci]
          · (try dsimp only); rw [if_neg ci, if_neg ci, if_pos hi]
        obtain ⟨g1, g2, g3⟩ := comeIn_ok hT p1 p2 (s := k) hk ok mem (fun t ht => (hall t ht).1) (fun t ht => (hall t ht).2)
        have g4 := comeIn_fr p1 p2 (s := k) hk ok mem
        rw [s_pl2] at g2 g3
        have g2' : (S.s_pl (inQ (outQ S.pl S.ns) Q (k + 1))).ok := by rw [eq]; exact g2
        have g3' : RC T (S.s_pl (inQ (outQ S.pl S.ns) Q (k + 1))) (jX11_comeInM I k (nI (Q k))) := by rw [eq]; exact g3
        refine ⟨(1, nI (dif S.pl Q S.ns), nI (k + 1), jX11_comeInM I k (nI (Q k))), ⟨rfl, rfl, rfl, g2', g3', fun x hx => (g4 x (by omega) (by omega)).trans (p3 x hx), fun i hi => (g4 _ (by omega) (by omega)).trans (p4 i hi)⟩, Go.one fun m => ?_⟩
        dsimp only [oF, oO]
        rw [jX11_takeOverO_87, jX11_takeOverI_87, e15]
        unfold jX3_placeGot jX3_placeGotK
        rw [nI_clamp (n := k) (by omega), nI_1 k, i66]
        simp (disch := omega) only [nI_leI, hs_nI, eq_false c0, eq_true v8, eq_true b, eq_true g1, ↓reduceIte, not_true_eq_false, not_false_eq_true, true_imp_iff, false_imp_iff, implies_true, and_true, true_and, eq_self]
        first | exact id | exact ⟨id, rfl⟩
      · have q0 : Q k = 0 := z0 k fun q => b ((q3 k).mp q).2
        have eq' : inQ (outQ S.pl S.ns) Q (k + 1) = inQ (outQ S.pl S.ns) Q k := by
          rw [eq, q0, ← ok]; exact put_self
        refine ⟨(1, nI (dif S.pl Q S.ns), nI (k + 1), I), ⟨rfl, rfl, rfl, by rw [eq']; exact p1, by rw [eq']; exact p2, p3, p4⟩, Go.one fun m => ?_⟩
        dsimp only [oF, oO]
        rw [jX11_takeOverO_87, jX11_takeOverI_87, e15, nI_clamp (n := k) (by omega), nI_1 k]
        simp (disch := omega) only [nI_leI, hs_nI, eq_false c0, eq_true v8, eq_false b, ↓reduceIte, not_true_eq_false, not_false_eq_true, true_imp_iff, false_imp_iff, implies_true, and_true, true_and, eq_self]
        first | exact id | exact ⟨id, rfl⟩) (1, nI (dif S.pl Q S.ns), nI 0, C1) ⟨rfl, rfl, rfl, by rw [show inQ (outQ S.pl S.ns) Q 0 = outQ S.pl S.ns from funext fun i => if_neg (by omega)]; exact p1, by rw [show inQ (outQ S.pl S.ns) Q 0 = outQ S.pl S.ns from funext fun i => if_neg (by omega)]; exact p2, p3, p4⟩
  dsimp only at e0 e1 e2 r2 r3 r4
  subst e0 e1 e2
  have e15' : C2 15 1 = nI S.ns := r2.2.2.2.1.1
  have E := (go1.trans (go2.trans go3)).ends (B2 := 1) (b := (nI (dif S.pl Q S.ns), C2)) (Ends.one fun m => by
    dsimp only [oF, oO]
    rw [jX11_takeOverO_87, jX11_takeOverI_87, e15']
    simp (disch := omega) only [nI_leI, eq_true (Nat.le_refl S.ns), ↓reduceIte, not_true_eq_false, not_false_eq_true, true_imp_iff, false_imp_iff, implies_true, and_true, true_and, eq_self])
  obtain ⟨u1, u2⟩ := E.use (f := FU) (by rw [FU_eq]; omega)
  dsimp only [oF, oO] at u1 u2
  rw [← li0] at u1 u2
  exact ⟨u1, C2, u2, r3, phi_of fun i hi => by rw [r4 i hi], r1, r2⟩
end OV
end
