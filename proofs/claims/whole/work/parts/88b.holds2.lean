noncomputable section
section MBS
variable {S : St} {P : Nat → Nat} {M : IM}
abbrev hF (M : IM) (a1 : Int32) : Nat → Nat × Int32 × Int32 × Int32 × Int32 → Int32 := fun n s => jX12_holdsI a1 n s.1 s.2.1 s.2.2.1 s.2.2.2.1 s.2.2.2.2 M
abbrev hO (M : IM) (a1 : Int32) : Nat → Nat × Int32 × Int32 × Int32 × Int32 → Prop := fun n s => jX12_holdsO a1 n s.1 s.2.1 s.2.2.1 s.2.2.2.1 s.2.2.2.2 M
theorem holds_known (h : MB S P M) (a1 : Int32) {t : Nat} (ht : t < 24) : ∀ m u, u + m = t → (∃ u', u ≤ u' ∧ u' < t ∧ S.cn P S.does u' = S.cn P S.does t) → Go (hF M a1) (hO M a1) (m + 1) (1, nI t, nI (S.cn P S.does t), 0, nI u) (0, nI (t + 1), 0, 0, 0)
  | 0, u, hu, ⟨u', h1, h2, _⟩ => by omega
  | m + 1, u, hu, hx => by
    have h8 := h.2.1.1
    have cu := counting_M h (t := u) (by omega)
    have b1 := cn_lt h8 P S.does u
    have b2 := cn_lt h8 P S.does t
    have c0 : ¬ t ≤ u := by omega
    by_cases c : S.cn P S.does u = S.cn P S.does t
    · refine Go.le (B := 1 + 1) (Go.trans (s' := (1, nI t, nI (S.cn P S.does t), 1, nI (u + 1))) (Go.one fun n => ?_) (Go.one fun n => ?_)) (by omega)
      · dsimp only [hF, hO]
        rw [jX12_holdsO_20, jX12_holdsI_20, cu.2, nI_1 u]
        simp (disch := omega) only [nI_eq, nI_leI, eq_false c0, eq_true c, eq_true cu.1, ↓reduceIte, not_true_eq_false, not_false_eq_true, true_imp_iff, false_imp_iff, implies_true, and_true, true_and, eq_self]
        first | exact id | exact ⟨id, rfl⟩
      · dsimp only [hF, hO]
        have c1 : ¬ (1 : Int32) = 0 := by decide
        rw [jX12_holdsO_20, jX12_holdsI_20, nI_1]
        simp only [eq_false c1, ↓reduceIte, not_true_eq_false, not_false_eq_true, true_imp_iff, false_imp_iff, implies_true, and_true, true_and, eq_self, ite_self]
        exact fun q => ⟨fun _ => q, fun _ => q⟩
    · have ih := holds_known h a1 ht m (u + 1) (by omega) (by
        obtain ⟨u', h1, h2, h3⟩ := hx
        refine ⟨u', ?_, h2, h3⟩
        by_cases e : u' = u
        · subst e; exact absurd h3 c
        · omega)
      refine Go.le (Go.trans (Go.one fun n => ?_) ih) (by omega)
      dsimp only [hF, hO]
      rw [jX12_holdsO_20, jX12_holdsI_20, cu.2, nI_1 u]
      simp (disch := omega) only [nI_eq, nI_leI, eq_false c0, eq_false c, eq_true cu.1, ↓reduceIte, not_true_eq_false, not_false_eq_true, true_imp_iff, false_imp_iff, implies_true, and_true, true_and, eq_self]
      first | exact id | exact ⟨id, rfl⟩
theorem holds_new (h : MB S P M) (a1 : Int32) {t : Nat} (ht : t < 24) (hx : ∀ u, u < t → S.cn P S.does u ≠ S.cn P S.does t) : Go (hF M a1) (hO M a1) (t * 1) (1, nI t, nI (S.cn P S.does t), 0, 0) (1, nI t, nI (S.cn P S.does t), 0, nI t) := by
  have h8 := h.2.1.1
  refine Go.loop (a := fun u => (1, nI t, nI (S.cn P S.does t), 0, nI u)) t fun u hu => Go.one fun n => ?_
  have cu := counting_M h (t := u) (by omega)
  have b1 := cn_lt h8 P S.does u
  have b2 := cn_lt h8 P S.does t
  have c0 : ¬ t ≤ u := by omega
  have c := hx u hu
  dsimp only [hF, hO]
  rw [jX12_holdsO_20, jX12_holdsI_20, cu.2, nI_1 u]
  simp (disch := omega) only [nI_eq, nI_leI, eq_false c0, eq_false c, eq_true cu.1, ↓reduceIte, not_true_eq_false, not_false_eq_true, true_imp_iff, false_imp_iff, implies_true, and_true, true_and, eq_self]
  first | exact id | exact ⟨id, rfl⟩
/-- HOSTS of one TICK -/
theorem holds_nodes (h : MB S P M) {t : Nat} : (S.worksOk P S.does t → Go (hF M 0) (hO M 0) 7 (2, nI t, nI (S.cn P S.does t), 0, 0) (0, nI (t + 1), 0, 0, 0)) ∧ (¬ S.worksOk P S.does t → Ends (hF M 0) (hO M 0) 7 (2, nI t, nI (S.cn P S.does t), 0, 0) 0) := by
  obtain ⟨hn, hsl, hp, m1, m2, m3⟩ := id h
  have h6 := hn.1
  obtain ⟨A, B⟩ := Go.loopG (F := hF M 0) (O := hO M 0) (B := 1) (a := fun k => (2, nI t, nI (S.cn P S.does t), 0, nI k)) (ok := fun a => S.wo' P S.does a t ≤ S.wr a) (b0 := (0 : Int32)) S.nn S.nn 0 (by omega)
    (fun a ha c => Go.one fun n => by
      have v : vp_in (nI a) 6 := (vp_nI (by omega)).mpr (by omega)
      have l1 := work_M h (a := a) (t := t) (by omega)
      have k1 := wo_le (P := P) (D := S.does) hsl a t
      have k3 := hn.2.2.1 a ha
      have e3 := m1.2.2.1 a (by omega)
      dsimp only [hF, hO]
      rw [jX12_holdsO_75, jX12_holdsI_75, m1.1, nI_clamp (by omega), nI_1, nI_1, l1.2, e3]
      have c0 : ¬ S.nn ≤ a := by omega
      simp (disch := omega) only [nI_leI, eq_false c0, eq_true c, eq_true l1.1, eq_true v, ↓reduceIte, not_true_eq_false, not_false_eq_true, true_imp_iff, false_imp_iff, implies_true, and_true, true_and, eq_self]
      first | exact id | exact ⟨id, rfl⟩)
    (fun a ha c => Ends.one fun n => by
      have v : vp_in (nI a) 6 := (vp_nI (by omega)).mpr (by omega)
      have l1 := work_M h (a := a) (t := t) (by omega)
      have k1 := wo_le (P := P) (D := S.does) hsl a t
      have k3 := hn.2.2.1 a ha
      have e3 := m1.2.2.1 a (by omega)
      dsimp only [hF, hO]
      rw [jX12_holdsO_75, jX12_holdsI_75, m1.1, nI_clamp (by omega), nI_1, nI_1, l1.2, e3]
      have c0 : ¬ S.nn ≤ a := by omega
      simp (disch := omega) only [nI_leI, eq_false c0, eq_false c, eq_true l1.1, eq_true v, ↓reduceIte, not_true_eq_false, not_false_eq_true, true_imp_iff, false_imp_iff, implies_true, and_true, true_and, eq_self])
  refine ⟨fun c => Go.le ((A fun j _ q => c j q).trans (Go.one fun n => ?_)) (by omega), fun c => (B fun q => c fun j hj => q j (Nat.zero_le _) hj).le (by omega)⟩
  dsimp only [hF, hO]
  rw [jX12_holdsO_75, jX12_holdsI_75, m1.1, nI_1]
  simp (disch := omega) only [nI_leI, eq_true (Nat.le_refl S.nn), ↓reduceIte, not_true_eq_false, not_false_eq_true, true_imp_iff, false_imp_iff, implies_true, and_true, true_and, eq_self]
  first | exact id | exact ⟨id, rfl⟩
theorem holds_tick (h : MB S P M) {a1 : Int32} (ha : a1 = 0 ∨ a1 = 1) {t : Nat} (ht : t < 24) (hx : ∀ u, u < t → S.cn P S.does u ≠ S.cn P S.does t) : (S.linesOk P S.does t ∧ (a1 = 0 → S.worksOk P S.does t) → Go (hF M a1) (hO M a1) 8 (1, nI t, nI (S.cn P S.does t), 0, nI t) (0, nI (t + 1), 0, 0, 0)) ∧ (¬ (S.linesOk P S.does t ∧ (a1 = 0 → S.worksOk P S.does t)) → Ends (hF M a1) (hO M a1) 8 (1, nI t, nI (S.cn P S.does t), 0, nI t) 0) := by
  obtain ⟨l1, l2⟩ := linesHold_M h t
  have c0 : nI t ≤ nI t := nI_le (Nat.le_refl _) (by omega)
  by_cases c : S.linesOk P S.does t
  · have c' : ¬ jX12_linesHold M (nI (S.cn P S.does t)) = 0 := fun q => l2.mp q c
    have g : Go (hF M a1) (hO M a1) 1 (1, nI t, nI (S.cn P S.does t), 0, nI t) (2, nI t, nI (S.cn P S.does t), 0, 0) := Go.one fun n => by
      dsimp only [hF, hO]
      rw [jX12_holdsO_20, jX12_holdsI_20]
      simp only [eq_true c0, eq_false c', eq_true l1, ↓reduceIte, not_true_eq_false, not_false_eq_true, true_imp_iff, false_imp_iff, implies_true, and_true, true_and, eq_self]
      first | exact id | exact ⟨id, rfl⟩
    rcases ha with ha | ha
    · subst ha
      obtain ⟨n1, n2⟩ := holds_nodes h (t := t)
      exact ⟨fun q => (g.trans (n1 (q.2 rfl))).le (by omega), fun q => (g.ends (n2 fun q' => q ⟨c, fun _ => q'⟩)).le (by omega)⟩
    · have c1 : ¬ a1 = 0 := by rw [ha]; decide
      refine ⟨fun _ => (g.trans (Go.one fun n => ?_)).le (by omega), fun q => absurd ⟨c, fun q => absurd q c1⟩ q⟩
      dsimp only [hF, hO]
      rw [jX12_holdsO_75, jX12_holdsI_75, nI_1]
      simp only [eq_false c1, ↓reduceIte, not_true_eq_false, not_false_eq_true, true_imp_iff, false_imp_iff, implies_true, and_true, true_and, eq_self, ite_self]
      exact fun q => ⟨fun _ => q, fun _ => q⟩
  · have c' : jX12_linesHold M (nI (S.cn P S.does t)) = 0 := l2.mpr c
    refine ⟨fun q => absurd q.1 c, fun _ => (Ends.one fun n => ?_).le (by omega)⟩
    dsimp only [hF, hO]
    rw [jX12_holdsO_20, jX12_holdsI_20]
    simp only [eq_true c0, eq_true c', eq_true l1, ↓reduceIte, not_true_eq_false, not_false_eq_true, true_imp_iff, false_imp_iff, implies_true, and_true, true_and, eq_self]
/-- whether ALL HOLDS (a1 = 0), or all LINES have room (a1 = 1) -/
theorem holds_M (h : MB S P M) {a1 : Int32} (ha : a1 = 0 ∨ a1 = 1) : jX12_holdsK M a1 ∧ (jX12_holds M a1 = 0 ↔ ¬ ∀ t, t < 24 → S.linesOk P S.does t ∧ (a1 = 0 → S.worksOk P S.does t)) := by
  have h8 := h.2.1.1
  unfold jX12_holdsK jX12_holds
  have st : ∀ t, t < 24 → Go (hF M a1) (hO M a1) 1 (0, nI t, 0, 0, 0) (1, nI t, nI (S.cn P S.does t), 0, 0) := fun t ht => Go.one fun n => by
    have cu := counting_M h (t := t) ht
    have c0 : ¬ (24 : Int32) ≤ nI t := by rw [li24]; exact nI_ge ht (by omega)
    dsimp only [hF, hO]
    rw [jX12_holdsO_2, jX12_holdsI_2, cu.2]
    simp only [eq_false c0, eq_true cu.1, ↓reduceIte, not_true_eq_false, not_false_eq_true, true_imp_iff, false_imp_iff, implies_true, and_true, true_and, eq_self]
    first | exact id | exact ⟨id, rfl⟩
  obtain ⟨A, B⟩ := Go.loopX (F := hF M a1) (O := hO M a1) (B := 40) (a := fun t => (0, nI t, 0, 0, 0)) (ok := fun t => (∃ u, u < t ∧ S.cn P S.does u = S.cn P S.does t) ∨ S.linesOk P S.does t ∧ (a1 = 0 → S.worksOk P S.does t)) (b0 := (0 : Int32)) (b1 := (1 : Int32)) 24 24 0 (by omega)
    (fun t ht c => by
      by_cases k : ∃ u, u < t ∧ S.cn P S.does u = S.cn P S.does t
      · obtain ⟨u, k1, k2⟩ := k
        exact ((st t ht).trans (holds_known h a1 ht t 0 (by omega) ⟨u, Nat.zero_le _, k1, k2⟩)).le (by omega)
      · have k' : ∀ u, u < t → S.cn P S.does u ≠ S.cn P S.does t := fun u q1 q2 => k ⟨u, q1, q2⟩
        exact (((st t ht).trans (holds_new h a1 ht k')).trans ((holds_tick h ha ht k').1 (c.resolve_left k))).le (by omega))
    (fun t ht c => by
      have k' : ∀ u, u < t → S.cn P S.does u ≠ S.cn P S.does t := fun u q1 q2 => c (.inl ⟨u, q1, q2⟩)
      exact (((st t ht).trans (holds_new h a1 ht k')).ends ((holds_tick h ha ht k').2 fun q => c (.inr q))).le (by omega))
    ((Ends.one fun n => by
      dsimp only [hF, hO]
      rw [jX12_holdsO_2, jX12_holdsI_2, li24]
      have c0 : nI 24 ≤ nI 24 := nI_le (Nat.le_refl _) (by omega)
      simp only [eq_true c0, ↓reduceIte, not_true_eq_false, not_false_eq_true, true_imp_iff, false_imp_iff, implies_true, and_true, true_and, eq_self]).le (by omega))
  have key : (∀ t, 0 ≤ t → t < 24 → (∃ u, u < t ∧ S.cn P S.does u = S.cn P S.does t) ∨ S.linesOk P S.does t ∧ (a1 = 0 → S.worksOk P S.does t)) ↔ ∀ t, t < 24 → S.linesOk P S.does t ∧ (a1 = 0 → S.worksOk P S.does t) := by
    refine ⟨fun q t => ?_, fun q t _ ht => .inr (q t ht)⟩
    induction t using Nat.strongRecOn with
    | ind t ih =>
      intro ht
      rcases q t (Nat.zero_le _) ht with ⟨u, q1, q2⟩ | q'
      · obtain ⟨r1, r2⟩ := ih u q1 (by omega)
        obtain ⟨l1, l2⟩ := like_ticks q2
        exact ⟨l1.mp r1, fun e => l2.mp (r2 e)⟩
      · exact q'
  by_cases c : ∀ t, t < 24 → S.linesOk P S.does t ∧ (a1 = 0 → S.worksOk P S.does t)
  · obtain ⟨r1, r2⟩ := (A (key.mpr c)).use (f := FU) (by rw [FU_eq]; omega)
    exact ⟨r1, by rw [show jX12_holdsI a1 FU 0 0 0 0 0 M = 1 from r2]; exact ⟨fun q => absurd q (by decide), fun q => absurd c q⟩⟩
  · obtain ⟨r1, r2⟩ := (B (mt key.mp c)).use (f := FU) (by rw [FU_eq]; omega)
    exact ⟨r1, by rw [show jX12_holdsI a1 FU 0 0 0 0 0 M = 0 from r2]; exact ⟨fun _ => c, fun _ => rfl⟩⟩
end MBS
end
