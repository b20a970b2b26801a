noncomputable section
section TR
variable {T : Topo} {S : St} {C : IM} {s n : Nat} {P : Nat → Nat} {wh : Nat → Nat}
theorem mems_one (set k : Nat) : S.mems set 0 (k + 1) = S.mems set 0 k ++ (if set.testBit k = true then [k] else []) := by
  unfold St.mems
  rw [List.range'_concat, List.filter_append, List.filter_cons, List.filter_nil]
  simp
theorem mems_len (set : Nat) : ∀ k, (S.mems set 0 k).length ≤ k := fun k => by
  unfold St.mems
  refine Nat.le_trans (List.length_filter_le _ _) ?_
  rw [List.length_range']; exact Nat.le_refl _
theorem members_C (hsl : S.slOk) (hX : cSl S C) {set : Nat} (hset : set < 2 ^ 31) : jX3_gatherMembersK C (nI set) ∧ FrD C (jX3_gatherMembers C (nI set)) ∧ (∀ j, 11 ≤ j → jX3_gatherMembers C (nI set) 56 j = C 56 j) ∧ (∀ k j, 58 ≤ k → k ≤ 61 → jX3_gatherMembers C (nI set) k j = C k j) ∧ ML (S.mems set 0 S.ns) (jX3_gatherMembers C (nI set)) ∧ ∀ i, i < (S.mems set 0 S.ns).length → jX3_gatherMembers C (nI set) 65 i = -1 := by
  have h8 := hsl.1
  unfold jX3_gatherMembersK jX3_gatherMembers
  obtain ⟨⟨v, C'⟩, ⟨e, p1, p2, p3⟩, go⟩ := Go.loopE (F := fun m (t : Int32 × IM) => jX3_gatherMembersI (nI set) m t.1 t.2) (O := fun m t => jX3_gatherMembersO (nI set) m t.1 t.2) (B := 1) (P := fun k t => t.1 = nI k ∧ (∀ a b, a ≠ 64 → a ≠ 65 → ¬ (a = 56 ∧ b = 10) → t.2 a b = C a b) ∧ t.2 56 10 = nI (S.mems set 0 k).length ∧ ∀ i, i < (S.mems set 0 k).length → t.2 64 i = nI ((S.mems set 0 k).getD i 0) ∧ t.2 65 i = -1) S.ns
    (fun k hk t ht => by
      obtain ⟨v, I⟩ := t
      obtain ⟨e, p1, p2, p3⟩ := ht
      dsimp only at e p1 p2 p3
      subst e
      have c0 : ¬ S.ns ≤ k := by omega
      have ml := mems_len (S := S) set k
      have e15 : I 15 1 = nI S.ns := by rw [p1 _ _ (by omega) (by omega) (by omega)]; exact hX.1
      have v8 : vp_in (nI (S.mems set 0 k).length) 8 := (vp_nI (by omega)).mpr (by omega)
      by_cases b : set.testBit k = true
      · refine ⟨(nI (k + 1), up2 (up2 (up2 I 64 (S.mems set 0 k).length (nI k)) 65 (S.mems set 0 k).length (-1)) 56 10 (nI ((S.mems set 0 k).length + 1))), ⟨rfl, fun x y q1 q2 q3 => ?_, ?_, fun i hi => ?_⟩, Go.one fun m => ?_⟩
        · dsimp only
          rw [up2_ap, if_neg (by omega), up2_ap, if_neg (by omega), up2_ap, if_neg (by omega)]; exact p1 x y q1 q2 q3
        · dsimp only
          rw [up2_at, mems_one, if_pos b, List.length_append]; rfl
        · dsimp only
          rw [mems_one, if_pos b, List.length_append] at hi
          simp at hi
          rw [up2_ap, if_neg (by omega), up2_ap, if_neg (by omega), mems_one, if_pos b]
          rw [show up2 (up2 (up2 I 64 (S.mems set 0 k).length (nI k)) 65 (S.mems set 0 k).length (-1)) 56 10 (nI ((S.mems set 0 k).length + 1)) 65 i = up2 (up2 I 64 (S.mems set 0 k).length (nI k)) 65 (S.mems set 0 k).length (-1) 65 i from by rw [up2_ap, if_neg (by omega)]]
          by_cases ei : i = (S.mems set 0 k).length
          · rw [ei, up2_at, up2_at, getD_app_eq]; exact ⟨rfl, rfl⟩
          · have hi' : i < (S.mems set 0 k).length := by omega
            rw [up2_ap, if_neg (by omega), up2_ap, if_neg (by omega), up2_ap, if_neg (by omega), getD_app_lt hi']
            exact p3 i hi'
        · dsimp only
          rw [jX3_gatherMembersO_7, jX3_gatherMembersI_7, e15, p2, nI_clamp (n := (S.mems set 0 k).length) (by omega), nI_1 k, nI_1]
          simp (disch := omega) only [nI_leI, hs_nI, eq_false c0, eq_true b, eq_true v8, ↓reduceIte, not_true_eq_false, not_false_eq_true, true_imp_iff, false_imp_iff, implies_true, and_true, true_and, eq_self]
          first | exact id | exact ⟨id, rfl⟩
      · refine ⟨(nI (k + 1), I), ⟨rfl, p1, ?_, ?_⟩, Go.one fun m => ?_⟩
        · rw [mems_one, if_neg b, List.append_nil]; exact p2
        · rw [mems_one, if_neg b, List.append_nil]; exact p3
        · dsimp only
          rw [jX3_gatherMembersO_7, jX3_gatherMembersI_7, e15, nI_1 k]
          simp (disch := omega) only [nI_leI, hs_nI, eq_false c0, eq_false b, ↓reduceIte, not_true_eq_false, not_false_eq_true, true_imp_iff, false_imp_iff, implies_true, and_true, true_and, eq_self]
          first | exact id | exact ⟨id, rfl⟩) (nI 0, up2 C 56 10 0) ⟨rfl, fun a b _ _ q => by dsimp only; rw [up2_ap, if_neg q], (by dsimp only; rw [up2_at]; rfl), fun i hi => by simp [St.mems] at hi⟩
  dsimp only at e p1 p2 p3
  subst e
  have e15 : C' 15 1 = nI S.ns := by rw [p1 _ _ (by omega) (by omega) (by omega)]; exact hX.1
  have E := go.ends (B2 := 1) (b := C') (Ends.one fun m => by
    dsimp only
    rw [jX3_gatherMembersO_7, jX3_gatherMembersI_7, e15]
    simp (disch := omega) only [nI_leI, eq_true (Nat.le_refl S.ns), ↓reduceIte, not_true_eq_false, not_false_eq_true, true_imp_iff, false_imp_iff, implies_true, and_true, true_and, eq_self])
  obtain ⟨r1, r2⟩ := E.use (f := FU) (by rw [FU_eq]; omega)
  dsimp only at r1 r2
  rw [← li0] at r1 r2
  have ml := mems_len (S := S) set S.ns
  rw [r2]
  exact ⟨r1, fun k j q1 q2 q3 => p1 k j (by omega) (by omega) (by omega), fun j hj => p1 _ _ (by omega) (by omega) (by omega), fun k j q1 q2 => p1 k j (by omega) (by omega) (by omega), ⟨p2, by omega, fun i hi => (p3 i hi).1⟩, fun i hi => (p3 i hi).2⟩
/-- the class lays a set -/
theorem laid_C (hc : TC T S n wh) {set q : Nat} (hset : set < 2 ^ 31) (hX : LX T S n wh C) (ht : cTri C) (hq : q ≤ 2000) (h11 : C 56 11 = nI q) (h12 : C 56 12 = 0) : jX3_laidK T C (nI set) ∧ ∃ C', jX3_laid T C (nI set) = ((if (S.lays set q).1 = 1 then 1 else 0), C') ∧ FrD C C' ∧ cTri C' ∧ C' 56 11 = nI (S.lays set q).2.1 ∧ C' 56 12 = (if (S.lays set q).1 = 2 then 1 else 0) ∧ ((S.lays set q).1 = 1 → ∀ i, (S.lays set q).2.2 i ≠ 0 → C' 66 i = nI ((S.lays set q).2.2 i)) := by
  have h8 := hc.2.2.1.1
  obtain ⟨g1, g2, g3, g4, g5, g6⟩ := members_C hc.2.2.1 hX.2.1 hset
  obtain ⟨A, hA⟩ : ∃ A, A = jX3_gatherMembers C (nI set) := ⟨_, rfl⟩
  unfold jX3_laidK jX3_laid
  rw [← hA] at g2 g3 g4 g5 g6 ⊢
  have xA := hX.frd hc.1 h8 g2
  have tA : cTri A := ht.of fun k q1 q2 => funext fun j => g4 k j (by omega) (by omega)
  have a11 : A 56 11 = nI q := by rw [g3 11 (by omega)]; exact h11
  have a12 : A 56 12 = 0 := by rw [g3 12 (by omega)]; exact h12
  unfold St.lays
  split
  · next e =>
    rw [e] at g5
    obtain ⟨m1, m2, m3⟩ := g5
    have E : Ends (zF T (nI set)) (zO T (nI set)) 2 (0, 0, 0, 0, A) (1, A) := by
      refine Go.ends (B1 := 1) (B2 := 1) (Go.one (s' := (1, 0, 1, 0, A)) fun m => ?_) (Ends.one fun m => ?_)
      · dsimp only [zF, zO]
        have z0 : ¬ (10000 : Int32) ≤ 0 := by decide
        have z1 : ¬ (0 : Int32) < 0 := by decide
        have z2 : (0 : Int32) ≤ 0 := by decide
        have m1' : A 56 10 = 0 := m1
        rw [jX3_laidO_9, jX3_laidI_9, m1']
        simp only [eq_false z0, eq_false z1, eq_true z2, ↓reduceIte, not_true_eq_false, not_false_eq_true, true_imp_iff, false_imp_iff, implies_true, and_true, true_and, eq_self]
        first | exact id | exact ⟨id, rfl⟩
      · dsimp only [zF, zO]
        have z2 : (0 : Int32) ≤ 0 := by decide
        rw [jX3_laidO_131, jX3_laidI_131]
        simp only [eq_true z2, or_true, ↓reduceIte, not_true_eq_false, not_false_eq_true, true_imp_iff, false_imp_iff, implies_true, and_true, true_and, eq_self]
    obtain ⟨r1, r2⟩ := E.use (f := FU) (by rw [FU_eq]; omega)
    refine ⟨⟨g1, r1⟩, A, ?_, g2, tA, a11, ?_, fun _ i hi => absurd rfl hi⟩
    · rw [if_pos rfl]; exact r2
    · rw [if_neg (by decide : ¬ (1 : Nat) = 2)]; exact a12
  · next s td e =>
    rw [e] at g5 g6
    have hS := SI.start hq e
    have hl : (mlist [] s td) = s :: td := rfl
    have g : CI T S n wh [] s (S.ups s) td (fun _ => 0) q A := by
      refine ⟨xA, tA.tb hc.2.2.2.1 fun _ _ => rfl, a11, a12, g5, ⟨0, ?_, Nat.zero_le _, rfl⟩, trivial, fun j q1 q2 => g6 j q2, fun i hi => absurd rfl hi⟩
      rw [show A 65 ([] : List (Nat × List Nat)).length = -1 from g6 0 (by simp)]; rfl
    obtain ⟨C', P', f1, f2, f3, f4, f5, f6, f7⟩ := laid_loop hc (set := set) (nI set) 4002 _ _ _ _ _ _ 0 _ (by simp; omega) (by omega) hS g _ rfl
    obtain ⟨r1, r2⟩ := f7.use (f := FU) (by rw [FU_eq]; omega)
    exact ⟨⟨g1, r1⟩, C', r2, g2.trans f1, f2.tri hc.2.2.2.1 f3, f4, f5, f6⟩
end TR
end
