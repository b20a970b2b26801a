noncomputable section
/-! loops: F with fuel n from a state, O what it asks; from s it goes on to s' within B steps -/
section GO
variable {σ β : Type}
def Go (F : Nat → σ → β) (O : Nat → σ → Prop) (B : Nat) (s s' : σ) : Prop := ∃ c, c ≤ B ∧ ∀ n, (O n s' → O (n + c) s) ∧ F (n + c) s = F n s'
def Ends (F : Nat → σ → β) (O : Nat → σ → Prop) (B : Nat) (s : σ) (b : β) : Prop := ∃ c, c ≤ B ∧ ∀ n, O (n + c) s ∧ F (n + c) s = b
variable {F : Nat → σ → β} {O : Nat → σ → Prop}
theorem Go.refl {s : σ} : Go F O 0 s s := ⟨0, Nat.le_refl _, fun _ => ⟨id, rfl⟩⟩
theorem Go.one {s s' : σ} (h : ∀ n, (O n s' → O (n + 1) s) ∧ F (n + 1) s = F n s') : Go F O 1 s s' := ⟨1, Nat.le_refl _, h⟩
theorem Ends.one {s : σ} {b : β} (h : ∀ n, O (n + 1) s ∧ F (n + 1) s = b) : Ends F O 1 s b := ⟨1, Nat.le_refl _, h⟩
theorem Go.trans {B1 B2 : Nat} {s s' s'' : σ} (h1 : Go F O B1 s s') (h2 : Go F O B2 s' s'') : Go F O (B1 + B2) s s'' := by
  obtain ⟨c1, d1, e1⟩ := h1
  obtain ⟨c2, d2, e2⟩ := h2
  refine ⟨c2 + c1, by omega, fun n => ?_⟩
  rw [← Nat.add_assoc]
  exact ⟨fun q => (e1 (n + c2)).1 ((e2 n).1 q), (e1 (n + c2)).2.trans (e2 n).2⟩
theorem Go.ends {B1 B2 : Nat} {s s' : σ} {b : β} (h1 : Go F O B1 s s') (h2 : Ends F O B2 s' b) : Ends F O (B1 + B2) s b := by
  obtain ⟨c1, d1, e1⟩ := h1
  obtain ⟨c2, d2, e2⟩ := h2
  refine ⟨c2 + c1, by omega, fun n => ?_⟩
  rw [← Nat.add_assoc]
  exact ⟨(e1 (n + c2)).1 (e2 n).1, (e1 (n + c2)).2.trans (e2 n).2⟩
theorem Go.le {B B' : Nat} {s s' : σ} (h : Go F O B s s') (hB : B ≤ B') : Go F O B' s s' := by
  obtain ⟨c, d, e⟩ := h
  exact ⟨c, by omega, e⟩
theorem Ends.le {B B' : Nat} {s : σ} {b : β} (h : Ends F O B s b) (hB : B ≤ B') : Ends F O B' s b := by
  obtain ⟨c, d, e⟩ := h
  exact ⟨c, by omega, e⟩
theorem Go.loop {B : Nat} {a : Nat → σ} : ∀ N, (∀ k, k < N → Go F O B (a k) (a (k + 1))) → Go F O (N * B) (a 0) (a N)
  | 0, _ => by rw [Nat.zero_mul]; exact Go.refl
  | N + 1, h => by
    rw [Nat.add_mul, Nat.one_mul]
    exact (Go.loop N (fun k hk => h k (by omega))).trans (h N (by omega))
theorem Ends.use {B f : Nat} {s : σ} {b : β} (h : Ends F O B s b) (hf : B ≤ f) : O f s ∧ F f s = b := by
  obtain ⟨c, d, e⟩ := h
  have := e (f - c)
  rwa [show f - c + c = f by omega] at this
/-- a loop that a step may leave -/
theorem Go.loopX {B : Nat} {a : Nat → σ} {ok : Nat → Prop} {b0 b1 : β} : ∀ m N k, k + m = N → (∀ k, k < N → ok k → Go F O B (a k) (a (k + 1))) → (∀ k, k < N → ¬ ok k → Ends F O B (a k) b0) → Ends F O B (a N) b1 → ((∀ j, k ≤ j → j < N → ok j) → Ends F O ((m + 1) * B) (a k) b1) ∧ (¬ (∀ j, k ≤ j → j < N → ok j) → Ends F O ((m + 1) * B) (a k) b0)
  | 0, N, k, hk, _, _, h3 => by
    have : k = N := by omega
    subst this
    refine ⟨fun _ => h3.le (by omega), fun q => absurd (fun j h1 h2 => ?_) q⟩
    omega
  | m + 1, N, k, hk, h1, h2, h3 => by
    obtain ⟨i1, i2⟩ := Go.loopX m N (k + 1) (by omega) h1 h2 h3
    have hB : (m + 1 + 1) * B = B + (m + 1) * B := by rw [Nat.add_mul (m + 1) 1, Nat.one_mul, Nat.add_comm]
    rw [hB]
    by_cases c : ok k
    · have g := h1 k (by omega) c
      refine ⟨fun q => g.ends (i1 fun j q1 q2 => q j (by omega) q2), fun q => g.ends (i2 fun q' => q fun j q1 q2 => ?_)⟩
      by_cases e : j = k
      · subst e; exact c
      · exact q' j (by omega) q2
    · exact ⟨fun q => absurd (q k (by omega) (by omega)) c, fun _ => (h2 k (by omega) c).le (by omega)⟩
/-- the same, going on behind it -/
theorem Go.loopG {B : Nat} {a : Nat → σ} {ok : Nat → Prop} {b0 : β} : ∀ m N k, k + m = N → (∀ k, k < N → ok k → Go F O B (a k) (a (k + 1))) → (∀ k, k < N → ¬ ok k → Ends F O B (a k) b0) → ((∀ j, k ≤ j → j < N → ok j) → Go F O (m * B) (a k) (a N)) ∧ (¬ (∀ j, k ≤ j → j < N → ok j) → Ends F O (m * B) (a k) b0)
  | 0, N, k, hk, _, _ => by
    have : k = N := by omega
    subst this
    refine ⟨fun _ => Go.refl.le (by omega), fun q => absurd (fun j h1 h2 => ?_) q⟩
    omega
  | m + 1, N, k, hk, h1, h2 => by
    obtain ⟨i1, i2⟩ := Go.loopG m N (k + 1) (by omega) h1 h2
    have hB : (m + 1) * B = B + m * B := by rw [Nat.add_mul m 1, Nat.one_mul, Nat.add_comm]
    rw [hB]
    by_cases c : ok k
    · have g := h1 k (by omega) c
      refine ⟨fun q => g.trans (i1 fun j q1 q2 => q j (by omega) q2), fun q => g.ends (i2 fun q' => q fun j q1 q2 => ?_)⟩
      by_cases e : j = k
      · subst e; exact c
      · exact q' j (by omega) q2
    · exact ⟨fun q => absurd (q k (by omega) (by omega)) c, fun _ => (h2 k (by omega) c).le (by omega)⟩
end GO
/-! the reference's sums -/
/-- who COUNTS -/
def St.cn (S : St) (P : Nat → Nat) (D : Nat → Nat → Bool) (t : Nat) : Nat := bs (fun s => decide (P s ≠ 0) && D s t) S.ns
theorem cn_bit {S : St} {P : Nat → Nat} {D : Nat → Nat → Bool} {t s : Nat} : (S.cn P D t).testBit s = true ↔ s < S.ns ∧ P s ≠ 0 ∧ D s t = true := by
  unfold St.cn
  rw [bs_bit]
  simp
theorem cn_lt {S : St} (h : S.ns ≤ 8) (P : Nat → Nat) (D : Nat → Nat → Bool) (t : Nat) : S.cn P D t < 256 := Nat.lt_of_lt_of_le (bs_lt _ _) (show 2 ^ S.ns ≤ 2 ^ 8 from Nat.pow_le_pow_right (by decide) h)
theorem mod6 : ∀ t, t < 24 → nI t - nI t / 6 * 6 = nI (t % 6) := by decide +kernel
/-- net, SLICES and PLACES of the reference -/
def MB (S : St) (P : Nat → Nat) (M : IM) : Prop := S.netOk ∧ S.slOk ∧ S.plOk P ∧ mNet S M ∧ mSl S M ∧ mPl S P M
theorem does_M {S : St} {M : IM} (hsl : S.slOk) (hM : mSl S M) {s t : Nat} (h : s < S.ns) (ht : t < 24) : jX12_doesK M (nI s) (nI t) ∧ (jX12_does M (nI s) (nI t) = 0 ↔ ¬ S.does s t = true) := by
  have h8 := hsl.1
  obtain ⟨e0, -, -, -, -, -, -, -, e8, e9, e10⟩ := hM.2 s (by omega)
  obtain ⟨k1, -, -, -, -, -, -, -, -, -, -, k12, k13, k14, -⟩ := hsl.2.1 s h
  have v : vp_in (nI s) 8 := (vp_nI (by omega)).mpr (by omega)
  unfold jX12_doesK jX12_does St.does
  rw [nI_clamp (by omega), e0, e8, e9, e10, mod6 t ht, li4]
  have g1 := hs_nI (n := S.ho s) (k := t % 6) (by omega) (by omega)
  have g2 := wi_nI' (n := t) (a := S.fi s) (b := S.la s) (by omega) (by omega) (by omega)
  have g3 := nI_eq (a := S.kd s) (b := 4) (by omega) (by omega)
  simp only [g1, g2, g3]
  refine ⟨⟨v, v, fun _ => trivial, fun _ => ⟨v, fun _ => trivial, fun _ => v⟩⟩, ?_⟩
  by_cases c1 : S.fi s ≤ t ∧ t ≤ S.la s
  · rw [if_pos c1]
    by_cases c2 : S.kd s = 4
    · rw [if_pos c2]
      by_cases c3 : (S.ho s).testBit (t % 6) = true
      · rw [if_pos c3]; simp [c1, c2, c3]
      · rw [if_neg c3]; simp [c1, c2, c3]
    · rw [if_neg c2]; simp [c1, c2]
  · rw [if_neg c1]
    simp only [true_iff, Bool.and_eq_true, decide_eq_true_eq, not_and]
    intro q
    exact absurd q c1
section MBS
variable {S : St} {P : Nat → Nat} {M : IM}
theorem in_P (h : mPl S P M) {s : Nat} (hsl : s < 8) : M 106 s = 0 ↔ P s = 0 := by
  obtain ⟨h1, h2⟩ := h s hsl
  refine ⟨fun q => ?_, h1⟩
  by_cases c : P s = 0
  · exact c
  · rw [(h2 c).1] at q; cases q
theorem counting_M (h : MB S P M) {t : Nat} (ht : t < 24) : jX12_countingAtK M (nI t) ∧ jX12_countingAt M (nI t) = nI (S.cn P S.does t) := by
  obtain ⟨hn, hsl, hp, m1, m2, m3⟩ := h
  have h8 := hsl.1
  unfold jX12_countingAtK jX12_countingAt
  have E : Ends (fun n (s : Int32 × Int32) => jX12_countingAtI (nI t) n s.1 s.2 M) (fun n s => jX12_countingAtO (nI t) n s.1 s.2 M) (S.ns * 1 + 1) ((nI 0, nI 0) : Int32 × Int32) (nI (S.cn P S.does t)) := by
    refine Go.ends (Go.loop (a := fun k => (nI (bs (fun s => decide (P s ≠ 0) && S.does s t) k), nI k)) S.ns fun k hk => Go.one fun n => ?_) (Ends.one fun n => ?_)
    · have v : vp_in (nI k) 8 := (vp_nI (by omega)).mpr (by omega)
      obtain ⟨d1, d2⟩ := does_M hsl m2 hk ht
      have p := in_P m3 (s := k) (by omega)
      dsimp only
      rw [jX12_countingAtO_4, jX12_countingAtI_4, m2.1, nI_clamp (by omega), nI_1, one_nI (by omega), li0, or_nI, or_nI, ← li0, Nat.or_zero, bs]
      have c0 : ¬ S.ns ≤ k := by omega
      by_cases c1 : P k = 0
      · simp (disch := omega) only [nI_leI, eq_false c0, eq_true (p.mpr c1), eq_true c1, ↓reduceIte, ne_eq, not_true_eq_false, not_false_eq_true, true_imp_iff, false_imp_iff, implies_true, and_true, true_and, eq_self, decide_false, Bool.false_and, Nat.or_zero, eq_true v, Bool.false_eq_true]
        exact id
      · have c1' : ¬ M 106 k = 0 := fun q => c1 (p.mp q)
        by_cases c2 : S.does k t = true
        · have c2' : ¬ jX12_does M (nI k) (nI t) = 0 := fun q => d2.mp q c2
          simp (disch := omega) only [nI_leI, eq_false c0, eq_false c1', eq_false c1, eq_false c2', ↓reduceIte, ne_eq, not_true_eq_false, not_false_eq_true, true_imp_iff, false_imp_iff, implies_true, and_true, true_and, eq_self, decide_true, Bool.true_and, c2, eq_true v, eq_true d1]
          exact id
        · have c2' : jX12_does M (nI k) (nI t) = 0 := d2.mpr c2
          simp (disch := omega) only [nI_leI, eq_false c0, eq_false c1', eq_false c1, eq_true c2', ↓reduceIte, ne_eq, not_true_eq_false, not_false_eq_true, true_imp_iff, false_imp_iff, implies_true, and_true, true_and, eq_self, decide_true, Bool.true_and, c2, eq_true v, eq_true d1, Bool.false_eq_true, Nat.or_zero]
          exact id
    · dsimp only
      rw [jX12_countingAtO_4, jX12_countingAtI_4, m2.1, if_pos (nI_le (Nat.le_refl _) (by omega))]
      exact ⟨⟨fun _ => trivial, fun q => absurd (nI_le (Nat.le_refl _) (by omega)) q⟩, rfl⟩
  exact E.use (by rw [FU_eq]; omega)
theorem has_cn (h8 : S.ns ≤ 8) {t k : Nat} (hk : k < S.ns) {D : Nat → Nat → Bool} : hs (nI (S.cn P D t)) (nI k) ↔ P k ≠ 0 ∧ D k t = true := by
  have := cn_lt h8 P D t
  rw [hs_nI (by omega) (by omega), cn_bit]
  exact ⟨fun q => q.2, fun q => ⟨hk, q⟩⟩
theorem load_M (h : MB S P M) {l t : Nat} (hl : l < 9) : jX12_loadOfK M (nI l) (nI (S.cn P S.does t)) ∧ jX12_loadOf M (nI l) (nI (S.cn P S.does t)) = nI (S.ld P S.does l t) := by
  obtain ⟨hn, hsl, hp, m1, m2, m3⟩ := h
  have h8 := hsl.1
  unfold jX12_loadOfK jX12_loadOf
  have E : Ends (fun n (s : Int32 × Int32) => jX12_loadOfI (nI l) (nI (S.cn P S.does t)) n s.1 s.2 M) (fun n s => jX12_loadOfO (nI l) (nI (S.cn P S.does t)) n s.1 s.2 M) (S.ns * 1 + 1) ((nI 0, nI 0) : Int32 × Int32) (nI (S.ld P S.does l t)) := by
    refine Go.ends (Go.loop (a := fun k => (nI (sm (fun s => if P s ≠ 0 ∧ S.does s t = true ∧ (wayN (P s)).testBit l = true then S.need s else 0) k), nI k)) S.ns fun k hk => Go.one fun n => ?_) (Ends.one fun n => ?_)
    · have v : vp_in (nI k) 8 := (vp_nI (by omega)).mpr (by omega)
      have nd := need_M0 h8 (fun j hj => (hsl.2.1 j hj).1) m2 hk
      have hc := has_cn (P := P) h8 hk (t := t) (D := S.does)
      dsimp only
      rw [jX12_loadOfO_5, jX12_loadOfI_5, m2.1, nI_clamp (by omega), nI_1, nd.2, nI_add, Int32.add_zero, sm]
      have c0 : ¬ S.ns ≤ k := by omega
      by_cases c1 : P k ≠ 0 ∧ S.does k t = true
      · have c1' := hc.mpr c1
        have w : hs (M 107 k) (nI l) ↔ (wayN (P k)).testBit l = true := by
          rw [((m3 k (by omega)).2 c1.1).2.1, hs_nI (by have : wayN (P k) < 512 := Nat.mod_lt _ (by decide); omega) (by omega)]
        by_cases c2 : (wayN (P k)).testBit l = true
        · simp (disch := omega) only [nI_leI, eq_false c0, eq_true c1', eq_true (w.mpr c2), eq_true (show P k ≠ 0 ∧ S.does k t = true ∧ (wayN (P k)).testBit l = true from ⟨c1.1, c1.2, c2⟩), ↓reduceIte, not_true_eq_false, not_false_eq_true, true_imp_iff, false_imp_iff, implies_true, and_true, true_and, eq_self, eq_true v, eq_true nd.1]
          exact id
        · simp (disch := omega) only [nI_leI, eq_false c0, eq_true c1', eq_false (mt w.mp c2), eq_false (show ¬ (P k ≠ 0 ∧ S.does k t = true ∧ (wayN (P k)).testBit l = true) from fun q => c2 q.2.2), ↓reduceIte, not_true_eq_false, not_false_eq_true, true_imp_iff, false_imp_iff, implies_true, and_true, true_and, eq_self, eq_true v, Nat.add_zero]
          exact id
      · simp (disch := omega) only [nI_leI, eq_false c0, eq_false (mt hc.mp c1), eq_false (show ¬ (P k ≠ 0 ∧ S.does k t = true ∧ (wayN (P k)).testBit l = true) from fun q => c1 ⟨q.1, q.2.1⟩), ↓reduceIte, not_true_eq_false, not_false_eq_true, true_imp_iff, false_imp_iff, implies_true, and_true, true_and, eq_self, Nat.add_zero]
        exact id
    · dsimp only
      rw [jX12_loadOfO_5, jX12_loadOfI_5, m2.1, if_pos (nI_le (Nat.le_refl _) (by omega))]
      exact ⟨⟨fun _ => trivial, fun q => absurd (nI_le (Nat.le_refl _) (by omega)) q⟩, rfl⟩
  exact E.use (by rw [FU_eq]; omega)
theorem work_M (h : MB S P M) {a t : Nat} (ha : a < 6) : jX12_workOfK M (nI a) (nI (S.cn P S.does t)) ∧ jX12_workOf M (nI a) (nI (S.cn P S.does t)) = nI (S.wo' P S.does a t) := by
  obtain ⟨hn, hsl, hp, m1, m2, m3⟩ := h
  have h8 := hsl.1
  unfold jX12_workOfK jX12_workOf
  have E : Ends (fun n (s : Int32 × Int32) => jX12_workOfI (nI a) (nI (S.cn P S.does t)) n s.1 s.2 M) (fun n s => jX12_workOfO (nI a) (nI (S.cn P S.does t)) n s.1 s.2 M) (S.ns * 1 + 1) ((nI 0, nI 0) : Int32 × Int32) (nI (S.wo' P S.does a t)) := by
    refine Go.ends (Go.loop (a := fun k => (nI (sm (fun s => if P s ≠ 0 ∧ S.does s t = true ∧ hosN (P s) = a then S.wk s else 0) k), nI k)) S.ns fun k hk => Go.one fun n => ?_) (Ends.one fun n => ?_)
    · have v : vp_in (nI k) 8 := (vp_nI (by omega)).mpr (by omega)
      have hc := has_cn (P := P) h8 hk (t := t) (D := S.does)
      obtain ⟨-, -, -, -, -, -, e6, -⟩ := m2.2 k (by omega)
      dsimp only
      rw [jX12_workOfO_5, jX12_workOfI_5, m2.1, nI_clamp (by omega), nI_1, e6, nI_add, Int32.add_zero, sm]
      have c0 : ¬ S.ns ≤ k := by omega
      by_cases c1 : P k ≠ 0 ∧ S.does k t = true
      · have c1' := hc.mpr c1
        have w : M 111 k = nI a ↔ hosN (P k) = a := by
          obtain ⟨-, _, _, h, -, -, -, -, g4, -, -, -, -, g9⟩ := pl_parts hn hp (show k < 8 by omega) c1.1
          rw [((m3 k (by omega)).2 c1.1).2.2.2.1, nI_eq (by omega) (by omega)]
        by_cases c2 : hosN (P k) = a
        · simp (disch := omega) only [nI_leI, eq_false c0, eq_true c1', eq_true (w.mpr c2), eq_true (show P k ≠ 0 ∧ S.does k t = true ∧ hosN (P k) = a from ⟨c1.1, c1.2, c2⟩), ↓reduceIte, not_true_eq_false, not_false_eq_true, true_imp_iff, false_imp_iff, implies_true, and_true, true_and, eq_self, eq_true v]
          exact id
        · simp (disch := omega) only [nI_leI, eq_false c0, eq_true c1', eq_false (mt w.mp c2), eq_false (show ¬ (P k ≠ 0 ∧ S.does k t = true ∧ hosN (P k) = a) from fun q => c2 q.2.2), ↓reduceIte, not_true_eq_false, not_false_eq_true, true_imp_iff, false_imp_iff, implies_true, and_true, true_and, eq_self, eq_true v, Nat.add_zero]
          exact id
      · simp (disch := omega) only [nI_leI, eq_false c0, eq_false (mt hc.mp c1), eq_false (show ¬ (P k ≠ 0 ∧ S.does k t = true ∧ hosN (P k) = a) from fun q => c1 ⟨q.1, q.2.1⟩), ↓reduceIte, not_true_eq_false, not_false_eq_true, true_imp_iff, false_imp_iff, implies_true, and_true, true_and, eq_self, Nat.add_zero]
        exact id
    · dsimp only
      rw [jX12_workOfO_5, jX12_workOfI_5, m2.1, if_pos (nI_le (Nat.le_refl _) (by omega))]
      exact ⟨⟨fun _ => trivial, fun q => absurd (nI_le (Nat.le_refl _) (by omega)) q⟩, rfl⟩
  exact E.use (by rw [FU_eq]; omega)
end MBS
end
