noncomputable section
section CN
variable {T : Topo} {S : St} {C M : IM}
theorem set_256 (h8 : S.ns ≤ 8) {set : Nat} (h : set < 2 ^ S.ns) : set < 256 := Nat.lt_of_lt_of_le h (Nat.pow_le_pow_right (by omega) h8 : 2 ^ S.ns ≤ 2 ^ 8)
theorem FrD.fr79 {A B : IM} (h : FrD A B) : ∀ k, 79 ≤ k → k < 136 → B k = A k := fun k q1 q2 => funext fun j => h k j (by omega) (by omega) (by omega)
theorem sim_can (a1 : Int32) {I : IM} : SimR T I (jCanK T I a1) (jCan T I a1).1 (jCan T I a1).2.1 (jCan T I a1).2.2 (fun M => jX12_canK M a1) (fun M => jX12_can M a1) (fun M => jX12_canM M a1) := by
  by_cases h0 : jX9_haveAll I a1 = 0
  · unfold jCan
    rw [if_pos h0]
    refine simR_bad (fun q => absurd h0 q) fun S M hS hC hM => ?_
    have nx : ¬ ∃ set, set < 2 ^ S.ns ∧ a1 = nI set := by
      rcases have_C hS hC a1 with ⟨_, q⟩ | ⟨q, _⟩
      · rw [h0] at q; exact absurd q (by decide)
      · exact q
    have e : jX12_isOfThem M a1 = 0 := by
      rcases have_M hS hM a1 with ⟨q, _⟩ | ⟨_, q⟩
      · exact absurd q nx
      · exact q
    unfold jX12_canK jX12_can jX12_canM jX12_finds
    rw [if_pos e, if_pos e]
    exact ⟨⟨fun q => absurd e q, fun _ => trivial⟩, rfl, rfl⟩
  · intro S hL hP hT hS hC
    have h8 := hS.2.1.1
    have ex : ∃ set, set < 2 ^ S.ns ∧ a1 = nI set := by
      rcases have_C hS hC a1 with ⟨q, _⟩ | ⟨_, q⟩
      · exact q
      · exact absurd q h0
    obtain ⟨set, hset, rfl⟩ := ex
    have h256 := set_256 h8 hset
    obtain ⟨mc, ms, k1, b1, b2, b3, b4, b5, ⟨d, b6, b7, b8⟩, b9, n, wh, b10, b11⟩ := begin_spec hL hP hT hS hC
    obtain ⟨l1, C', l2, l3, l4, l5, l6, l7⟩ := lb_C b3 hS b4 b5 b10 b11 h256
    have e1 : jCan T I (nI set) = (jCanR (jBeg T I).1 (jBeg T I).2 (nI set), (jBeg T I).1, jCanRM (jBeg T I).1 (jBeg T I).2 (nI set)) := if_neg h0
    rw [e1]
    dsimp only
    unfold jCanR jCanRM
    rw [l2]
    dsimp only
    have z10 : ¬ (1 : Int32) = 0 := by decide
    have h79 : ∀ k, 79 ≤ k → k < 136 → C' k = I k := fun k q1 q2 => (l3.fr79 k q1 q2).trans (b9 k q1 q2)
    have hv := (lays_ok (S := S.s_tried 0) (set := set) (q := 0) hS.1 hS.2.1 (by omega)).1
    refine ⟨mc, ms, fun _ => ⟨k1, l1⟩, b1, b2, b3, ⟨d, b6, b7, ?_⟩, fun k q1 q2 => ?_, fun M hM => ?_⟩
    · split
      · rw [l7]; exact b8
      · rw [phi_fnd, l7]; exact b8
    · split
      · exact h79 k q1 q2
      · rw [fnd_79 _ k q1 q2]; exact h79 k q1 q2
    · have em : ¬ jX12_isOfThem M (nI set) = 0 := by
        rcases have_M hS hM (nI set) with ⟨_, q⟩ | ⟨q, _⟩
        · rw [q]; exact z10
        · exact absurd ⟨set, hset, rfl⟩ q
      obtain ⟨m1, m2, A, m3, m4, m5, m6, m7, m8, m9, m10⟩ := lb_M hS hM h256
      unfold jX12_canK jX12_can jX12_canM jX12_finds
      rw [if_neg em, if_neg em, m3]
      dsimp only
      have S2ok : (S2 S ((S.s_tried 0).lays set 0).2.1).ok := ok_tried (ok_tried hS 0) _
      refine ⟨⟨fun _ => ⟨m1, m2, m9⟩, fun q => absurd q em⟩, ?_⟩
      rcases hv with e | e | e
      · rw [e] at l4
        rw [if_neg (by decide : ¬ (0 : Nat) = 2)] at l4
        rw [e, if_pos l4, if_neg (by decide : ¬ (0 : Nat) = 1), if_pos rfl, if_pos l4, show cdR 0 = 0 from rfl, if_neg (by decide : ¬ (0 : Int32) = -1000006), if_neg (by decide : ¬ (0 : Int32) = -1000006)]
        exact ⟨rfl, _, S2ok, l6, m10⟩
      · rw [e] at l4
        rw [if_neg (by decide : ¬ (1 : Nat) = 2)] at l4
        rw [e, if_pos l4, if_pos rfl, if_neg z10, if_pos l4, show cdR 1 = 1 from rfl, if_neg (by decide : ¬ (1 : Int32) = -1000006), if_neg (by decide : ¬ (1 : Int32) = -1000006)]
        exact ⟨rfl, _, S2ok, l6, m10⟩
      · rw [e] at l4
        rw [if_pos rfl] at l4
        have l4' : ¬ C' 56 12 = 0 := by rw [l4]; exact z10
        rw [e, if_neg l4', if_neg l4', show cdR 2 = -1000006 from rfl, if_pos rfl, if_pos rfl]
        exact ⟨rfl, bad b3 S2ok l6 m10⟩
end CN
end
