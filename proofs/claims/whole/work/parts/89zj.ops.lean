noncomputable section
/-! every call, with the machine's contracts -/
theorem stp2 {k : Nat} {T : Topo} {I : IM} {c sl : Nat} (hI : Inv k T I c sl) {Mx Mm : Mth} {as : List Value} {K1 : Prop} {X : Int32} {C1 : IM} {K2 : IM → Prop} {Y : IM → Int32} {M2 : IM → IM}
    (q1 : Lay T → K1 → CtI 20 Mx (.ref 0 :: as) T I (fun x J => x = X ∧ J = C1)) (q2 : Lay T → K2 C1 → CtI 20 Mm (.ref 79 :: as) T C1 (fun x J => x = Y C1 ∧ J = M2 C1))
    (f1 : K1 → ∀ k, 79 ≤ k → k < 136 → C1 k = I k) (f2 : ∀ k, k < 79 ∨ 136 ≤ k → M2 C1 k = C1 k) (fp : K1 → ∀ k, (18 ≤ k ∧ k ≤ 46 ∧ k % 4 = 2) → C1 k = I k)
    (sim : ∀ (S : St) (M : IM), PlS T → S.ok → RC T S I → RM S M → K1 ∧ K2 M ∧ X = Y M ∧ ∃ S' : St, S'.ok ∧ RC T S' C1 ∧ RM S' (M2 M)) : StpC (Inv (k + 1)) Mx Mm as T I c sl := by
  obtain ⟨hT, hP, hPs, ⟨S, hS, hC, hM⟩, hc, hs⟩ := id hI
  obtain ⟨k1, -⟩ := sim S I hPs hS hC hM
  exact stp hI q1 q2 (fun _ => f1) f2 (fun i hi => by rw [fp k1 _ (by omega)]) sim
/-- a call that may make rows -/
theorem stpR {k : Nat} {T : Topo} {I : IM} {c sl : Nat} (hI : Inv k T I c sl) {Mx Mm : Mth} {as : List Value} {K1 : Nat → Nat → Prop} {X : Int32} {T1 : Topo} {C1 : IM} {K2 : IM → Prop} {Y : IM → Int32} {M2 : IM → IM}
    (q1 : Lay T → Pl T → ∀ C S, K1 C S → Ct 20 Mx (.ref 0 :: as) T I C S (PI fun x T' I' => x = X ∧ T' = T1 ∧ I' = C1)) (q2 : Lay T1 → K2 C1 → CtI 20 Mm (.ref 79 :: as) T1 C1 (fun x J => x = Y C1 ∧ J = M2 C1))
    (f2 : ∀ k, k < 79 ∨ 136 ≤ k → M2 C1 k = C1 k) (sim : SimR T I K1 X T1 C1 K2 Y M2) : StpC (Inv (k + 1)) Mx Mm as T I c sl := by
  obtain ⟨hT, hP, hPs, ⟨S, hS, hC, hM⟩, hc, hs⟩ := hI
  obtain ⟨mc, ms, k1, t1, t2, t3, ⟨d, d1, d2, d3⟩, f1, g⟩ := sim S hT hP hPs hS hC
  obtain ⟨k2, e, S', hS', hC', hM'⟩ := g C1 (hM.of f1)
  have h80 := phi_le hS'.1.2.1 hC'.plc
  refine ⟨mc, ms, _, q1 hT hP mc ms k1, by omega, by omega, fun x T2 I2 h1 => ?_⟩
  obtain ⟨rfl, rfl, rfl⟩ := h1
  refine ⟨t1, 0, 0, _, q2 t1 k2, by omega, by omega, fun y T3 I3 h2 => ?_⟩
  obtain ⟨rfl, rfl, rfl⟩ := h2
  have hph : phi (M2 I2) 8 = phi I2 8 := phi_of fun i hi => by rw [f2 _ (by omega)]
  refine ⟨e, t1, t2, t3, ⟨S', hS', hC'.of t3 hS'.2.1.1 f2, hM'⟩, ?_, ?_⟩
  · rw [hph]; omega
  · rw [hph]; omega
theorem CtP.asI {d : Nat} {M : Mth} {vs : List Value} {T : Topo} {I : IM} {v : Int32} (h : CtP d M vs T I v) : CtI d M vs T I (fun x J => x = v ∧ J = I) := by
  have e : (fun (x : Int32) (T' : Topo) (I' : IM) => x = v ∧ T' = T ∧ I' = I) = fun x T' I' => T' = T ∧ x = v ∧ I' = I := by
    funext x T' I'
    exact propext ⟨fun ⟨a, b, c⟩ => ⟨b, a, c⟩, fun ⟨a, b, c⟩ => ⟨b, a, c⟩⟩
  unfold CtI
  rw [← e]
  exact h
theorem bz01 (x : Int32) : bz x = 0 ∨ bz x = 1 := by
  unfold bz
  by_cases c : x = 0
  · rw [if_pos c]; exact .inl rfl
  · rw [if_neg c]; exact .inr rfl
section OPS
variable {k : Nat} {T : Topo} {I : IM} {c sl : Nat}
theorem op_node (hI : Inv k T I c sl) (a1 : Int32) : StpC (Inv (k + 1)) mX11_node mX12_node [.int a1] T I c sl :=
  stp2 hI (K1 := (jX11_nodeK I a1)) (X := (jX11_node I a1)) (C1 := (jX11_nodeM I a1)) (K2 := fun M => (jX12_nodeK M a1)) (Y := fun M => (jX12_node M a1)) (M2 := fun M => (jX12_nodeM M a1)) (fun hT hk => qX11_node 19 hT a1 hk) (fun hT hk => qX12_node 19 hT a1 hk) (fun hk k h1 h2 => frcX11_node hk h1 h2) (fun k q => frX12_node (by simp; omega)) (fun hk k h => frpX11_node hk h (by omega)) (fun S M hT hS hC hM => sim_node hT hS hC hM a1)
theorem op_line (hI : Inv k T I c sl) (a1 a2 a3 a4 a5 : Int32) : StpC (Inv (k + 1)) mX11_line mX12_line [.int a1, .int a2, .int a3, .int a4, .int a5] T I c sl :=
  stp2 hI (K1 := (jX11_lineK I a1 a2 a3 a4 a5)) (X := (jX11_line I a1 a2 a3 a4 a5)) (C1 := (jX11_lineM I a1 a2 a3 a4 a5)) (K2 := fun M => (jX12_lineK M a1 a2 a3 a4 a5)) (Y := fun M => (jX12_line M a1 a2 a3 a4 a5)) (M2 := fun M => (jX12_lineM M a1 a2 a3 a4 a5)) (fun hT hk => qX11_line 18 hT a1 a2 a3 a4 a5 hk) (fun hT hk => qX12_line 18 hT a1 a2 a3 a4 a5 hk) (fun hk k h1 h2 => frcX11_line hk h1 h2) (fun k q => frX12_line (by simp; omega)) (fun hk k h => frpX11_line hk h (by omega)) (fun S M hT hS hC hM => sim_line hT hS hC hM a1 a2 a3 a4 a5)
theorem op_up (hI : Inv k T I c sl) (a1 a2 : Int32) : StpC (Inv (k + 1)) mX11_up mX12_up [.int a1, .int (bz a2)] T I c sl :=
  stp2 hI (K1 := True) (X := (jX11_up I a1 (bz a2))) (C1 := (jX11_upM I a1 (bz a2))) (K2 := fun M => (jX12_upK M a1 (bz a2))) (Y := fun M => (jX12_up M a1 (bz a2))) (M2 := fun M => (jX12_upM M a1 (bz a2))) (fun hT hk => qX11_up 18 hT a1 (bz a2)) (fun hT hk => qX12_up 18 hT a1 (bz a2) hk) (fun hk k h1 h2 => frcX11_up h1 h2) (fun k q => frX12_up (by simp; omega)) (fun hk k h => frpX11_up h (by omega)) (fun S M hT hS hC hM => ⟨trivial, sim_up hT hS hC hM a1 (bz01 a2)⟩)
theorem op_ways (hI : Inv k T I c sl) (a1 a2 : Int32) : StpC (Inv (k + 1)) mX11_ways mX12_ways [.int a1, .int a2] T I c sl :=
  stp2 hI (K1 := (jX11_waysK I a1 a2)) (X := (jX11_ways I a1 a2)) (C1 := (jX11_waysM I a1 a2)) (K2 := fun M => (jX12_waysK M a1 a2)) (Y := fun M => (jX12_ways M a1 a2)) (M2 := fun M => (jX12_waysM M a1 a2)) (fun hT hk => qX11_ways 10 hT a1 a2 hk) (fun hT hk => qX12_ways 17 hT a1 a2 hk) (fun hk k h1 h2 => frcX11_ways hk h1 h2) (fun k q => frX12_ways (by simp; omega)) (fun hk k h => frpX11_ways hk h (by omega)) (fun S M hT hS hC hM => sim_ways hT hS hC hM a1 a2)
theorem op_way (hI : Inv k T I c sl) (a1 a2 a3 a4 : Int32) : StpC (Inv (k + 1)) mX11_way mX12_way [.int a1, .int a2, .int a3, .int a4] T I c sl :=
  stp2 hI (K1 := (jX11_wayK I a1 a2 a3 a4)) (X := (jX11_way I a1 a2 a3 a4)) (C1 := (jX11_wayM I a1 a2 a3 a4)) (K2 := fun M => (jX12_wayK M a1 a2 a3 a4)) (Y := fun M => (jX12_way M a1 a2 a3 a4)) (M2 := fun M => (jX12_wayM M a1 a2 a3 a4)) (fun hT hk => qX11_way 10 hT a1 a2 a3 a4 hk) (fun hT hk => qX12_way 17 hT a1 a2 a3 a4 hk) (fun hk k h1 h2 => frcX11_way hk h1 h2) (fun k q => frX12_way (by simp; omega)) (fun hk k h => frpX11_way hk h (by omega)) (fun S M hT hS hC hM => sim_way hT hS hC hM a1 a2 a3 a4)
theorem op_flow (hI : Inv k T I c sl) (a1 a2 a3 : Int32) : StpC (Inv (k + 1)) mX11_flow mX12_flow [.int a1, .int a2, .int a3] T I c sl :=
  stp2 hI (K1 := (jX11_flowK I a1 a2 a3)) (X := (jX11_flow I a1 a2 a3)) (C1 := (jX11_flowM I a1 a2 a3)) (K2 := fun M => (jX12_flowK M a1 a2 a3)) (Y := fun M => (jX12_flow M a1 a2 a3)) (M2 := fun M => (jX12_flowM M a1 a2 a3)) (fun hT hk => qX11_flow 17 hT a1 a2 a3 hk) (fun hT hk => qX12_flow 15 hT a1 a2 a3 hk) (fun hk k h1 h2 => frcX11_flow hk h1 h2) (fun k q => frX12_flow (by simp; omega)) (fun hk k h => frpX11_flow hk h (by omega)) (fun S M hT hS hC hM => sim_flow hT hS hC hM a1 a2 a3)
theorem op_cut (hI : Inv k T I c sl) (a1 a2 a3 : Int32) : StpC (Inv (k + 1)) mX11_cut mX12_cut [.int a1, .int a2, .int a3] T I c sl :=
  stp2 hI (K1 := (jX11_cutK I a1 a2 a3)) (X := (jX11_cut I a1 a2 a3)) (C1 := (jX11_cutM I a1 a2 a3)) (K2 := fun M => (jX12_cutK M a1 a2 a3)) (Y := fun M => (jX12_cut M a1 a2 a3)) (M2 := fun M => (jX12_cutM M a1 a2 a3)) (fun hT hk => qX11_cut 17 hT a1 a2 a3 hk) (fun hT hk => qX12_cut 15 hT a1 a2 a3 hk) (fun hk k h1 h2 => frcX11_cut hk h1 h2) (fun k q => frX12_cut (by simp; omega)) (fun hk k h => frpX11_cut hk h (by omega)) (fun S M hT hS hC hM => sim_cut hT hS hC hM a1 a2 a3)
theorem op_slice (hI : Inv k T I c sl) (a1 a2 a3 a4 a5 : Int32) : StpC (Inv (k + 1)) mX11_slice mX12_slice [.int a1, .int a2, .int a3, .int a4, .int a5] T I c sl :=
  stp2 hI (K1 := (jX11_sliceK I a1 a2 a3 a4 a5)) (X := (jX11_slice I a1 a2 a3 a4 a5)) (C1 := (jX11_sliceM I a1 a2 a3 a4 a5)) (K2 := fun M => (jX12_sliceK M a1 a2 a3 a4 a5)) (Y := fun M => (jX12_slice M a1 a2 a3 a4 a5)) (M2 := fun M => (jX12_sliceM M a1 a2 a3 a4 a5)) (fun hT hk => qX11_slice 17 hT a1 a2 a3 a4 a5 hk) (fun hT hk => qX12_slice 17 hT a1 a2 a3 a4 a5 hk) (fun hk k h1 h2 => frcX11_slice hk h1 h2) (fun k q => frX12_slice (by simp; omega)) (fun hk k h => frpX11_slice hk h (by omega)) (fun S M hT hS hC hM => sim_slice hT hS hC hM a1 a2 a3 a4 a5)
theorem op_terms (hI : Inv k T I c sl) (a1 a2 a3 a4 : Int32) : StpC (Inv (k + 1)) mX11_terms mX12_terms [.int a1, .int a2, .int a3, .int a4] T I c sl :=
  stp2 hI (K1 := (jX11_termsK I a1 a2 a3 a4)) (X := (jX11_terms I a1 a2 a3 a4)) (C1 := (jX11_termsM I a1 a2 a3 a4)) (K2 := fun M => (jX12_termsK M a1 a2 a3 a4)) (Y := fun M => (jX12_terms M a1 a2 a3 a4)) (M2 := fun M => (jX12_termsM M a1 a2 a3 a4)) (fun hT hk => qX11_terms 19 hT a1 a2 a3 a4 hk) (fun hT hk => qX12_terms 18 hT a1 a2 a3 a4 hk) (fun hk k h1 h2 => frcX11_terms hk h1 h2) (fun k q => frX12_terms (by simp; omega)) (fun hk k h => frpX11_terms hk h (by omega)) (fun S M hT hS hC hM => sim_terms hT hS hC hM a1 a2 a3 a4)
theorem op_span (hI : Inv k T I c sl) (a1 a2 a3 a4 : Int32) : StpC (Inv (k + 1)) mX11_span mX12_span [.int a1, .int a2, .int a3, .int a4] T I c sl :=
  stp2 hI (K1 := (jX11_spanK I a1 a2 a3 a4)) (X := (jX11_span I a1 a2 a3 a4)) (C1 := (jX11_spanM I a1 a2 a3 a4)) (K2 := fun M => (jX12_spanK M a1 a2 a3 a4)) (Y := fun M => (jX12_span M a1 a2 a3 a4)) (M2 := fun M => (jX12_spanM M a1 a2 a3 a4)) (fun hT hk => qX11_span 18 hT a1 a2 a3 a4 hk) (fun hT hk => qX12_span 18 hT a1 a2 a3 a4 hk) (fun hk k h1 h2 => frcX11_span hk h1 h2) (fun k q => frX12_span (by simp; omega)) (fun hk k h => frpX11_span hk h (by omega)) (fun S M hT hS hC hM => sim_span hT hS hC hM a1 a2 a3 a4)
theorem op_as (hI : Inv k T I c sl) (a1 a2 : Int32) : StpC (Inv (k + 1)) mX11_as mX12_as [.int a1, .int a2] T I c sl :=
  stp2 hI (K1 := (jX11_asK I a1 a2)) (X := (jX11_as I a1 a2)) (C1 := (jX11_asM I a1 a2)) (K2 := fun M => (jX12_asK M a1 a2)) (Y := fun M => (jX12_as M a1 a2)) (M2 := fun M => (jX12_asM M a1 a2)) (fun hT hk => qX11_as 18 hT a1 a2 hk) (fun hT hk => qX12_as 18 hT a1 a2 hk) (fun hk k h1 h2 => frcX11_as hk h1 h2) (fun k q => frX12_as (by simp; omega)) (fun hk k h => frpX11_as hk h (by omega)) (fun S M hT hS hC hM => sim_as hT hS hC hM a1 a2)
theorem op_of (hI : Inv k T I c sl) (a1 a2 : Int32) : StpC (Inv (k + 1)) mX11_of mX12_of [.int a1, .int a2] T I c sl :=
  stp2 hI (K1 := (jX11_ofK I a1 a2)) (X := (jX11_of I a1 a2)) (C1 := (jX11_ofM I a1 a2)) (K2 := fun M => (jX12_ofK M a1 a2)) (Y := fun M => (jX12_of M a1 a2)) (M2 := fun M => (jX12_ofM M a1 a2)) (fun hT hk => qX11_of 18 hT a1 a2 hk) (fun hT hk => qX12_of 18 hT a1 a2 hk) (fun hk k h1 h2 => frcX11_of hk h1 h2) (fun k q => frX12_of (by simp; omega)) (fun hk k h => frpX11_of hk h (by omega)) (fun S M hT hS hC hM => sim_of hT hS hC hM a1 a2)
theorem op_out (hI : Inv k T I c sl) (a1 : Int32) : StpC (Inv (k + 1)) mX11_out mX12_out [.int a1] T I c sl :=
  stp2 hI (K1 := (jX11_outK I a1)) (X := (jX11_out I a1)) (C1 := (jX11_outM I a1)) (K2 := fun M => (jX12_outK M a1)) (Y := fun M => (jX12_out M a1)) (M2 := fun M => (jX12_outM M a1)) (fun hT hk => qX11_out 15 hT a1 hk) (fun hT hk => qX12_out 18 hT a1 hk) (fun hk k h1 h2 => frcX11_out hk h1 h2) (fun k q => frX12_out (by simp; omega)) (fun hk k h => frpX11_out hk h (by omega)) (fun S M hT hS hC hM => sim_out hT hS hC hM a1)
theorem op_wayOf (hI : Inv k T I c sl) (a1 a2 a3 : Int32) : StpC (Inv (k + 1)) mX11_wayOf mX12_wayOf [.int a1, .int (bz a2), .int a3] T I c sl :=
  stp2 hI (K1 := (jX11_wayOfK I a1 (bz a2) a3)) (X := (jX11_wayOf I a1 (bz a2) a3)) (C1 := (jX11_wayOfM I a1 (bz a2) a3)) (K2 := fun M => (jX12_wayOfK M a1 (bz a2) a3)) (Y := fun M => (jX12_wayOf M a1 (bz a2) a3)) (M2 := fun M => (jX12_wayOfM M a1 (bz a2) a3)) (fun hT hk => qX11_wayOf 17 hT a1 (bz a2) a3 hk) (fun hT hk => qX12_wayOf 18 hT a1 (bz a2) a3 hk) (fun hk k h1 h2 => frcX11_wayOf hk h1 h2) (fun k q => frX12_wayOf (by simp; omega)) (fun hk k h => frpX11_wayOf hk h (by omega)) (fun S M hT hS hC hM => sim_wayOf hT hS hC hM a1 (bz a2) a3)
theorem op_host (hI : Inv k T I c sl) (a1 : Int32) : StpC (Inv (k + 1)) mX11_host mX12_host [.int a1] T I c sl :=
  stp2 hI (K1 := (jX11_hostK I a1)) (X := (jX11_host I a1)) (C1 := (jX11_hostM I a1)) (K2 := fun M => (jX12_hostK M a1)) (Y := fun M => (jX12_host M a1)) (M2 := fun M => (jX12_hostM M a1)) (fun hT hk => qX11_host 19 hT a1 hk) (fun hT hk => qX12_host 18 hT a1 hk) (fun hk k h1 h2 => frcX11_host hk h1 h2) (fun k q => frX12_host (by simp; omega)) (fun hk k h => frpX11_host hk h (by omega)) (fun S M hT hS hC hM => sim_host hT hS hC hM a1)
theorem op_load (hI : Inv k T I c sl) (a1 a2 : Int32) : StpC (Inv (k + 1)) mX11_load mX12_load [.int a1, .int a2] T I c sl :=
  stp2 hI (K1 := (jX11_loadK I a1 a2)) (X := (jX11_load I a1 a2)) (C1 := (jX11_loadM I a1 a2)) (K2 := fun M => (jX12_loadK M a1 a2)) (Y := fun M => (jX12_load M a1 a2)) (M2 := fun M => (jX12_loadM M a1 a2)) (fun hT hk => qX11_load 18 hT a1 a2 hk) (fun hT hk => qX12_load 17 hT a1 a2 hk) (fun hk k h1 h2 => frcX11_load hk h1 h2) (fun k q => frX12_load (by simp; omega)) (fun hk k h => frpX11_load hk h (by omega)) (fun S M hT hS hC hM => sim_load hT hS hC hM a1 a2)
theorem op_fallRoom (hI : Inv k T I c sl) (a1 a2 : Int32) : StpC (Inv (k + 1)) mX11_fallRoom mX12_fallRoom [.int a1, .int a2] T I c sl :=
  stp2 hI (K1 := (jX11_fallRoomK I a1 a2)) (X := (jX11_fallRoom I a1 a2)) (C1 := (jX11_fallRoomM I a1 a2)) (K2 := fun M => (jX12_fallRoomK M a1 a2)) (Y := fun M => (jX12_fallRoom M a1 a2)) (M2 := fun M => (jX12_fallRoomM M a1 a2)) (fun hT hk => qX11_fallRoom 18 hT a1 a2 hk) (fun hT hk => qX12_fallRoom 17 hT a1 a2 hk) (fun hk k h1 h2 => frcX11_fallRoom hk h1 h2) (fun k q => frX12_fallRoom (by simp; omega)) (fun hk k h => frpX11_fallRoom hk h (by omega)) (fun S M hT hS hC hM => sim_fallRoom hT hS hC hM a1 a2)
theorem op_work (hI : Inv k T I c sl) (a1 a2 : Int32) : StpC (Inv (k + 1)) mX11_work mX12_work [.int a1, .int a2] T I c sl :=
  stp2 hI (K1 := (jX11_workK I a1 a2)) (X := (jX11_work I a1 a2)) (C1 := (jX11_workM I a1 a2)) (K2 := fun M => (jX12_workK M a1 a2)) (Y := fun M => (jX12_work M a1 a2)) (M2 := fun M => (jX12_workM M a1 a2)) (fun hT hk => qX11_work 18 hT a1 a2 hk) (fun hT hk => qX12_work 17 hT a1 a2 hk) (fun hk k h1 h2 => frcX11_work hk h1 h2) (fun k q => frX12_work (by simp; omega)) (fun hk k h => frpX11_work hk h (by omega)) (fun S M hT hS hC hM => sim_work hT hS hC hM a1 a2)
theorem op_spare (hI : Inv k T I c sl) (a1 : Int32) : StpC (Inv (k + 1)) mX11_spare mX12_spare [.int a1] T I c sl :=
  stp2 hI (K1 := (jX11_spareK I a1)) (X := (jX11_spare I a1).1) (C1 := (jX11_spare I a1).2) (K2 := fun M => (jX12_spareK M a1)) (Y := fun M => (jX12_spare M a1).1) (M2 := fun M => (jX12_spare M a1).2) (fun hT hk => qX11_spare 18 hT a1 hk) (fun hT hk => qX12_spare 16 hT a1 hk) (fun hk k h1 h2 => frcX11_spare hk h1 h2) (fun k q => frX12_spare (by simp; omega)) (fun hk k h => frpX11_spare hk h (by omega)) (fun S M hT hS hC hM => sim_spare hT hS hC hM a1)
theorem op_took (hI : Inv k T I c sl) (a1 : Int32) : StpC (Inv (k + 1)) mX11_took mX12_took [.int a1] T I c sl :=
  stp2 hI (K1 := (jX11_tookK I a1)) (X := (jX11_took I a1).1) (C1 := (jX11_took I a1).2) (K2 := fun M => (jX12_tookK M a1)) (Y := fun M => (jX12_took M a1).1) (M2 := fun M => (jX12_took M a1).2) (fun hT hk => qX11_took 18 hT a1 hk) (fun hT hk => qX12_took 17 hT a1 hk) (fun hk k h1 h2 => frcX11_took hk h1 h2) (fun k q => frX12_took (by simp; omega)) (fun hk k h => frpX11_took hk h (by omega)) (fun S M hT hS hC hM => sim_took hT hS hC hM a1)
theorem op_offer (hI : Inv k T I c sl) (a1 a2 : Int32) : StpC (Inv (k + 1)) mX11_offer mX12_offer [.int a1, .int a2] T I c sl :=
  stp2 hI (K1 := (jX11_offerK I a1 a2)) (X := (jX11_offer I a1 a2)) (C1 := (jX11_offerM I a1 a2)) (K2 := fun M => (jX12_offerK M a1 a2)) (Y := fun M => (jX12_offer M a1 a2)) (M2 := fun M => (jX12_offerM M a1 a2)) (fun hT hk => qX11_offer 19 hT a1 a2 hk) (fun hT hk => qX12_offer 18 hT a1 a2 hk) (fun hk k h1 h2 => frcX11_offer hk h1 h2) (fun k q => frX12_offer (by simp; omega)) (fun hk k h => frpX11_offer hk h (by omega)) (fun S M hT hS hC hM => sim_offer hT hS hC hM a1 a2)
theorem op_run (hI : Inv k T I c sl) (a1 : Int32) : StpC (Inv (k + 1)) mX11_run mX12_run [.int a1] T I c sl :=
  stp2 hI (K1 := (jX11_runK I a1)) (X := (jX11_run I a1).1) (C1 := (jX11_run I a1).2) (K2 := fun M => (jX12_runK M a1)) (Y := fun M => (jX12_run M a1).1) (M2 := fun M => (jX12_run M a1).2) (fun hT hk => qX11_run 14 hT a1 hk) (fun hT hk => qX12_run 16 hT a1 hk) (fun hk k h1 h2 => frcX11_run hk h1 h2) (fun k q => frX12_run (by simp; omega)) (fun hk k h => frpX11_run hk h (by omega)) (fun S M hT hS hC hM => sim_run hT hS hC hM a1)
theorem op_about (hI : Inv k T I c sl) (a1 a2 : Int32) : StpC (Inv (k + 1)) mX11_about mX12_about [.int a1, .int a2] T I c sl :=
  stp2 hI (K1 := (jX11_aboutK I a1 a2)) (X := (jX11_about I a1 a2)) (C1 := (jX11_aboutM I a1 a2)) (K2 := fun M => (jX12_aboutK M a1 a2)) (Y := fun M => (jX12_about M a1 a2)) (M2 := fun M => (jX12_aboutM M a1 a2)) (fun hT hk => qX11_about 19 hT a1 a2 hk) (fun hT hk => qX12_about 18 hT a1 a2 hk) (fun hk k h1 h2 => frcX11_about hk h1 h2) (fun k q => frX12_about (by simp; omega)) (fun hk k h => frpX11_about hk h (by omega)) (fun S M hT hS hC hM => sim_about hT hS hC hM a1 a2)
theorem op_sheet (hI : Inv k T I c sl) (a1 a2 a3 : Int32) : StpC (Inv (k + 1)) mX11_sheet mX12_sheet [.int a1, .int a2, .int a3] T I c sl :=
  stp2 hI (K1 := (jX11_sheetK I a1 a2 a3)) (X := (jX11_sheet I a1 a2 a3)) (C1 := (jX11_sheetM I a1 a2 a3)) (K2 := fun M => (jX12_sheetK M a1 a2 a3)) (Y := fun M => (jX12_sheet M a1 a2 a3).1) (M2 := fun M => (jX12_sheet M a1 a2 a3).2) (fun hT hk => qX11_sheet 18 hT a1 a2 a3 hk) (fun hT hk => qX12_sheet 18 hT a1 a2 a3 hk) (fun hk k h1 h2 => frcX11_sheet hk h1 h2) (fun k q => frX12_sheet (by simp; omega)) (fun hk k h => frpX11_sheet hk h (by omega)) (fun S M hT hS hC hM => sim_sheet hT hS hC hM a1 a2 a3)
theorem op_write (hI : Inv k T I c sl) (a1 a2 a3 : Int32) : StpC (Inv (k + 1)) mX11_write mX12_write [.int a1, .int a2, .int a3] T I c sl :=
  stp2 hI (K1 := (jX11_writeK I a1 a2)) (X := (jX11_write I a1 a2)) (C1 := (jX11_writeM I a1 a2 a3)) (K2 := fun M => (jX12_writeK M a1 a2)) (Y := fun M => (jX12_write M a1 a2)) (M2 := fun M => (jX12_writeM M a1 a2 a3)) (fun hT hk => qX11_write 18 hT a1 a2 a3 hk) (fun hT hk => qX12_write 18 hT a1 a2 a3 hk) (fun hk k h1 h2 => frcX11_write hk h1 h2) (fun k q => frX12_write (by simp; omega)) (fun hk k h => frpX11_write hk h (by omega)) (fun S M hT hS hC hM => sim_write hT hS hC hM a1 a2 a3)
theorem op_copy (hI : Inv k T I c sl) (a1 a2 a3 a4 a5 : Int32) : StpC (Inv (k + 1)) mX11_copy mX12_copy [.int a1, .int a2, .int a3, .int a4, .int a5] T I c sl :=
  stp2 hI (K1 := (jX11_copyK I a1 a2 a3 a4 a5)) (X := (jX11_copy I a1 a2 a3 a4 a5)) (C1 := (jX11_copyM I a1 a2 a3 a4 a5)) (K2 := fun M => (jX12_copyK M a1 a2 a3 a4 a5)) (Y := fun M => (jX12_copy M a1 a2 a3 a4 a5).1) (M2 := fun M => (jX12_copy M a1 a2 a3 a4 a5).2) (fun hT hk => qX11_copy 18 hT a1 a2 a3 a4 a5 hk) (fun hT hk => qX12_copy 18 hT a1 a2 a3 a4 a5 hk) (fun hk k h1 h2 => frcX11_copy hk h1 h2) (fun k q => frX12_copy (by simp; omega)) (fun hk k h => frpX11_copy hk h (by omega)) (fun S M hT hS hC hM => sim_copy hT hS hC hM a1 a2 a3 a4 a5)
theorem op_read (hI : Inv k T I c sl) (a1 : Int32) : StpC (Inv (k + 1)) mX11_read mX12_read [.int a1] T I c sl :=
  stp2 hI (K1 := (jX11_readK I a1)) (X := (jX11_read I a1)) (C1 := (jX11_readM I a1)) (K2 := fun M => (jX12_readK M a1)) (Y := fun M => (jX12_read M a1).1) (M2 := fun M => (jX12_read M a1).2) (fun hT hk => qX11_read 17 hT a1 hk) (fun hT hk => qX12_read 18 hT a1 hk) (fun hk k h1 h2 => frcX11_read hk h1 h2) (fun k q => frX12_read (by simp; omega)) (fun hk k h => frpX11_read hk h (by omega)) (fun S M hT hS hC hM => sim_read hT hS hC hM a1)
theorem op_told (hI : Inv k T I c sl) (a1 : Int32) : StpC (Inv (k + 1)) mX11_told mX12_told [.int a1] T I c sl :=
  stp2 hI (K1 := (jX11_toldK I a1)) (X := (jX11_told I a1)) (C1 := (jX11_toldM I a1)) (K2 := fun M => (jX12_toldK M a1)) (Y := fun M => (jX12_told M a1)) (M2 := fun M => (jX12_toldM M a1)) (fun hT hk => qX11_told 18 hT a1 hk) (fun hT hk => qX12_told 19 hT a1 hk) (fun hk k h1 h2 => frcX11_told h1 h2) (fun k q => frX12_told (by simp; omega)) (fun hk k h => frpX11_told h (by omega)) (fun S M hT hS hC hM => sim_told hT hS hC hM a1)
theorem op_tries (hI : Inv k T I c sl) : StpC (Inv (k + 1)) mX11_tries mX12_tries [] T I c sl :=
  stp2 hI (K1 := True) (X := jX11_tries I) (C1 := I) (K2 := fun _ => True) (Y := fun M => jX12_tries M) (M2 := fun M => M) (fun hT _ => (qX11_tries 20 hT).asI) (fun hT _ => (qX12_tries 20 hT).asI) (fun _ _ _ _ => rfl) (fun _ _ => rfl) (fun _ _ _ => rfl) (fun S M hT hS hC hM => ⟨trivial, trivial, sim_tries hC hM, S, hS, hC, hM⟩)
theorem op_places (hI : Inv k T I c sl) (a1 : Int32) : StpC (Inv (k + 1)) mX11_places mX12_places [.int a1] T I c sl :=
  stpR hI (K1 := jPlacesK T I a1) (X := (jPlaces T I a1).1) (T1 := (jPlaces T I a1).2.1) (C1 := (jPlaces T I a1).2.2) (K2 := fun M => jX12_placesK M a1) (Y := fun M => (jX12_places M a1).1) (M2 := fun M => (jX12_places M a1).2) (fun hT hP C S hk => qX11_places 7 hT hP a1 C S hk) (fun hT hk => qX12_places 16 hT a1 hk) (fun k q => frX12_places (by simp; omega)) (sim_places a1)
theorem op_letIn (hI : Inv k T I c sl) (a1 : Int32) : StpC (Inv (k + 1)) mX11_letIn mX12_letIn [.int a1] T I c sl :=
  stpR hI (K1 := jLetInK T I a1) (X := (jLetIn T I a1).1) (T1 := (jLetIn T I a1).2.1) (C1 := (jLetIn T I a1).2.2) (K2 := fun M => jX12_letInK M a1) (Y := fun M => (jX12_letIn M a1).1) (M2 := fun M => (jX12_letIn M a1).2) (fun hT hP C S hk => qX11_letIn 7 hT hP a1 C S hk) (fun hT hk => qX12_letIn 16 hT a1 hk) (fun k q => frX12_letIn (by simp; omega)) (sim_letIn a1)
theorem op_why (hI : Inv k T I c sl) (a1 : Int32) : StpC (Inv (k + 1)) mX11_why mX12_why [.int a1] T I c sl :=
  stpR hI (K1 := jWhyK T I a1) (X := (jWhy T I a1).1) (T1 := (jWhy T I a1).2.1) (C1 := (jWhy T I a1).2.2) (K2 := fun M => jX12_whyK M a1) (Y := fun M => (jX12_why M a1).1) (M2 := fun M => (jX12_why M a1).2) (fun hT hP C S hk => qX11_why 7 hT hP a1 C S hk) (fun hT hk => qX12_why 16 hT a1 hk) (fun k q => frX12_why (by simp; omega)) (sim_why a1)
theorem op_lay (hI : Inv k T I c sl) (a1 : Int32) : StpC (Inv (k + 1)) mX11_lay mX12_lay [.int a1] T I c sl :=
  stpR hI (K1 := jLayK T I a1) (X := (jLay T I a1).1) (T1 := (jLay T I a1).2.1) (C1 := (jLay T I a1).2.2) (K2 := fun M => jX12_layK M a1) (Y := fun M => (jX12_lay M a1).1) (M2 := fun M => (jX12_lay M a1).2) (fun hT hP C S hk => qX11_lay 7 hT hP a1 C S hk) (fun hT hk => qX12_lay 14 hT a1 hk) (fun k q => frX12_lay (by simp; omega)) (sim_lay a1)
theorem op_can (hI : Inv k T I c sl) (a1 : Int32) : StpC (Inv (k + 1)) mX11_can mX12_can [.int a1] T I c sl :=
  stpR hI (K1 := jCanK T I a1) (X := (jCan T I a1).1) (T1 := (jCan T I a1).2.1) (C1 := (jCan T I a1).2.2) (K2 := fun M => jX12_canK M a1) (Y := fun M => (jX12_can M a1)) (M2 := fun M => jX12_canM M a1) (fun hT hP C S hk => qX11_can 7 hT hP a1 C S hk) (fun hT hk => qX12_can 14 hT a1 hk) (fun k q => frX12_can (by simp; omega)) (sim_can a1)
theorem op_best (hI : Inv k T I c sl) : StpC (Inv (k + 1)) mX11_best mX12_best [] T I c sl :=
  stpR hI (K1 := jBestK T I) (X := (jBest T I).1) (T1 := (jBest T I).2.1) (C1 := (jBest T I).2.2) (K2 := fun M => jX12_bestK M) (Y := fun M => (jX12_best M).1) (M2 := fun M => (jX12_best M).2) (fun hT hP C S hk => qX11_best 7 hT hP C S hk) (fun hT hk => qX12_best 14 hT hk) (fun k q => frX12_best (by simp; omega)) (sim_best)
theorem op_all (hI : Inv k T I c sl) (op : Nat) (a1 a2 a3 a4 a5 : Int32) : StpOp (Inv (k + 1)) op a1 a2 a3 a4 a5 T I c sl := by
  unfold StpOp
  split
  · exact op_node hI a1
  · exact op_line hI a1 a2 a3 a4 a5
  · exact op_up hI a1 a2
  · exact op_ways hI a1 a2
  · exact op_way hI a1 a2 a3 a4
  · exact op_flow hI a1 a2 a3
  · exact op_cut hI a1 a2 a3
  · exact op_slice hI a1 a2 a3 a4 a5
  · exact op_terms hI a1 a2 a3 a4
  · exact op_span hI a1 a2 a3 a4
  · exact op_as hI a1 a2
  · exact op_of hI a1 a2
  · exact op_places hI a1
  · exact op_letIn hI a1
  · exact op_why hI a1
  · exact op_out hI a1
  · exact op_wayOf hI a1 a2 a3
  · exact op_host hI a1
  · exact op_load hI a1 a2
  · exact op_fallRoom hI a1 a2
  · exact op_work hI a1 a2
  · exact op_spare hI a1
  · exact op_took hI a1
  · exact op_lay hI a1
  · exact op_can hI a1
  · exact op_best hI 
  · exact op_tries hI 
  · exact op_offer hI a1 a2
  · exact op_run hI a1
  · exact op_about hI a1 a2
  · exact op_sheet hI a1 a2 a3
  · exact op_write hI a1 a2 a3
  · exact op_copy hI a1 a2 a3 a4 a5
  · exact op_read hI a1
  · exact op_told hI a1
  · exact hI
end OPS
end
