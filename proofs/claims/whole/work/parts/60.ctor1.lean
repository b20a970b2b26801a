def cT0 : Topo := (0, fun _ => 0, fun _ => 0, fun _ _ => none)
def cI0 : IM := fun _ _ => 0
def cTa : Topo := newT cT0 11 0
def cIa : IM := newI cI0 0
def cT1 : Topo := newT cTa 5 0
def cI2 : IM := newI cIa 1
def cT3 : Topo := newT cT1 13 6
def cI4 : IM := newI cI2 2
def cT5 : Topo := setR cT3 1 0 2
def cT6 : Topo := newT cT5 15 9
def cI7 : IM := newI cI4 3
def cT8 : Topo := setR cT6 1 1 3
def cT9 : Topo := newT cT8 10 0
def cI10 : IM := newI cI7 4
def cT11 : Topo := newT cT9 13 27
def cI12 : IM := newI cI10 5
def cT13 : Topo := setR cT11 4 0 5
def cI14 : IM := up2 cI12 4 1 (-1)
def cI15 : IM := up2 cI14 4 2 (-1)
def cI16 : IM := up2 cI15 4 3 (-1)
set_option maxHeartbeats 4000000 in
set_option maxRecDepth 100000 in
theorem ctor1 (d : Nat) : Ct (d + 1) mX10_init [.ref 4] cT9 cI10 1 27 (PV fun T_ I_ => T_ = cT13 ∧ I_ = cI16) := by
  refine Ct.ofJ (by decide +kernel) rfl (by intro v hv; revert v hv; simp [Value.category]) rfl ?_
  show J (d + 1) mX10_init (PV _) 1 27 0 [some (.ref 4)] [] cT9 cI10 0 0
  refine J.aload_n dX10_init_0 rfl rfl ?_
  refine J.objInit dX10_init_1 oiX10_5 oi_inst oi_code rfl (by omega) ?_
  refine J.aload_n dX10_init_4 rfl rfl ?_
  refine J.bipush (v := 27) dX10_init_5 (by decide) ?_
  refine J.newarr (κ := 13) (N := 27) dX10_init_7 arc_int rfl (by decide) (by decide) (by decide) (by decide) (by decide) (by decide) ?_
  show J (d + 1) mX10_init (PV _) 1 27 9 [some (.ref 4)] [.ref 5, .ref 4] cT11 cI12 1 27
  refine J.putR dX10_init_9 fX10_11 (show tK cT11 4 = 10 from rfl) rfl (Or.inr ⟨_, rfl⟩) (fun _ => rfl) (fun _ q h => by cases h; rfl) ?_
  show J (d + 1) mX10_init (PV _) 1 27 12 [some (.ref 4)] [] cT13 cI12 1 27
  refine J.aload_n dX10_init_12 rfl rfl ?_
  refine J.iconst (v := (-1)) dX10_init_13 (by decide) ?_
  refine J.putI dX10_init_14 fX10_15 (show tK cT13 4 = 10 from rfl) rfl ?_
  show J (d + 1) mX10_init (PV _) 1 27 17 [some (.ref 4)] [] cT13 cI14 1 27
  refine J.aload_n dX10_init_17 rfl rfl ?_
  refine J.iconst (v := (-1)) dX10_init_18 (by decide) ?_
  refine J.putI dX10_init_19 fX10_19 (show tK cT13 4 = 10 from rfl) rfl ?_
  show J (d + 1) mX10_init (PV _) 1 27 22 [some (.ref 4)] [] cT13 cI15 1 27
  refine J.aload_n dX10_init_22 rfl rfl ?_
  refine J.iconst (v := (-1)) dX10_init_23 (by decide) ?_
  refine J.putI dX10_init_24 fX10_22 (show tK cT13 4 = 10 from rfl) rfl ?_
  show J (d + 1) mX10_init (PV _) 1 27 27 [some (.ref 4)] [] cT13 cI16 1 27
  exact J.vretQ dX10_init_27 rfl (by decide) (by decide) ⟨rfl, rfl⟩

def cT17 : Topo := setR cT13 1 2 4
def cT18 : Topo := newT cT17 4 0
def cI19 : IM := newI cI16 6
set_option maxHeartbeats 4000000 in
set_option maxRecDepth 100000 in
theorem ctor2 (d : Nat) : Ct (d + 1) mX4_init [.ref 6] cT18 cI19 0 0 (PV fun T_ I_ => T_ = cT18 ∧ I_ = cI19) := by
  refine Ct.ofJ (by decide +kernel) rfl (by intro v hv; revert v hv; simp [Value.category]) rfl ?_
  show J (d + 1) mX4_init (PV _) 0 0 0 [some (.ref 6)] [] cT18 cI19 0 0
  refine J.aload_n dX4_init_0 rfl rfl ?_
  refine J.objInit dX4_init_1 oiX4_1 oi_inst oi_code rfl (by omega) ?_
  exact J.vretQ dX4_init_4 rfl (by decide) (by decide) ⟨rfl, rfl⟩

def cT20 : Topo := setR cT18 3 0 6
def cT21 : Topo := newT cT20 4 0
def cI22 : IM := newI cI19 7
set_option maxHeartbeats 4000000 in
set_option maxRecDepth 100000 in
theorem ctor3 (d : Nat) : Ct (d + 1) mX4_init [.ref 7] cT21 cI22 0 0 (PV fun T_ I_ => T_ = cT21 ∧ I_ = cI22) := by
  refine Ct.ofJ (by decide +kernel) rfl (by intro v hv; revert v hv; simp [Value.category]) rfl ?_
  show J (d + 1) mX4_init (PV _) 0 0 0 [some (.ref 7)] [] cT21 cI22 0 0
  refine J.aload_n dX4_init_0 rfl rfl ?_
  refine J.objInit dX4_init_1 oiX4_1 oi_inst oi_code rfl (by omega) ?_
  exact J.vretQ dX4_init_4 rfl (by decide) (by decide) ⟨rfl, rfl⟩

def cT23 : Topo := setR cT21 3 1 7
def cT24 : Topo := newT cT23 4 0
def cI25 : IM := newI cI22 8
set_option maxHeartbeats 4000000 in
set_option maxRecDepth 100000 in
theorem ctor4 (d : Nat) : Ct (d + 1) mX4_init [.ref 8] cT24 cI25 0 0 (PV fun T_ I_ => T_ = cT24 ∧ I_ = cI25) := by
  refine Ct.ofJ (by decide +kernel) rfl (by intro v hv; revert v hv; simp [Value.category]) rfl ?_
  show J (d + 1) mX4_init (PV _) 0 0 0 [some (.ref 8)] [] cT24 cI25 0 0
  refine J.aload_n dX4_init_0 rfl rfl ?_
  refine J.objInit dX4_init_1 oiX4_1 oi_inst oi_code rfl (by omega) ?_
  exact J.vretQ dX4_init_4 rfl (by decide) (by decide) ⟨rfl, rfl⟩

def cT26 : Topo := setR cT24 3 2 8
def cT27 : Topo := newT cT26 4 0
def cI28 : IM := newI cI25 9
set_option maxHeartbeats 4000000 in
set_option maxRecDepth 100000 in
theorem ctor5 (d : Nat) : Ct (d + 1) mX4_init [.ref 9] cT27 cI28 0 0 (PV fun T_ I_ => T_ = cT27 ∧ I_ = cI28) := by
  refine Ct.ofJ (by decide +kernel) rfl (by intro v hv; revert v hv; simp [Value.category]) rfl ?_
  show J (d + 1) mX4_init (PV _) 0 0 0 [some (.ref 9)] [] cT27 cI28 0 0
  refine J.aload_n dX4_init_0 rfl rfl ?_
  refine J.objInit dX4_init_1 oiX4_1 oi_inst oi_code rfl (by omega) ?_
  exact J.vretQ dX4_init_4 rfl (by decide) (by decide) ⟨rfl, rfl⟩

def cT29 : Topo := setR cT27 3 3 9
def cT30 : Topo := newT cT29 4 0
def cI31 : IM := newI cI28 10
set_option maxHeartbeats 4000000 in
set_option maxRecDepth 100000 in
theorem ctor6 (d : Nat) : Ct (d + 1) mX4_init [.ref 10] cT30 cI31 0 0 (PV fun T_ I_ => T_ = cT30 ∧ I_ = cI31) := by
  refine Ct.ofJ (by decide +kernel) rfl (by intro v hv; revert v hv; simp [Value.category]) rfl ?_
  show J (d + 1) mX4_init (PV _) 0 0 0 [some (.ref 10)] [] cT30 cI31 0 0
  refine J.aload_n dX4_init_0 rfl rfl ?_
  refine J.objInit dX4_init_1 oiX4_1 oi_inst oi_code rfl (by omega) ?_
  exact J.vretQ dX4_init_4 rfl (by decide) (by decide) ⟨rfl, rfl⟩

def cT32 : Topo := setR cT30 3 4 10
def cT33 : Topo := newT cT32 4 0
def cI34 : IM := newI cI31 11
set_option maxHeartbeats 4000000 in
set_option maxRecDepth 100000 in
theorem ctor7 (d : Nat) : Ct (d + 1) mX4_init [.ref 11] cT33 cI34 0 0 (PV fun T_ I_ => T_ = cT33 ∧ I_ = cI34) := by
  refine Ct.ofJ (by decide +kernel) rfl (by intro v hv; revert v hv; simp [Value.category]) rfl ?_
  show J (d + 1) mX4_init (PV _) 0 0 0 [some (.ref 11)] [] cT33 cI34 0 0
  refine J.aload_n dX4_init_0 rfl rfl ?_
  refine J.objInit dX4_init_1 oiX4_1 oi_inst oi_code rfl (by omega) ?_
  exact J.vretQ dX4_init_4 rfl (by decide) (by decide) ⟨rfl, rfl⟩

def cT35 : Topo := setR cT33 3 5 11
def cT36 : Topo := newT cT35 4 0
def cI37 : IM := newI cI34 12
set_option maxHeartbeats 4000000 in
set_option maxRecDepth 100000 in
theorem ctor8 (d : Nat) : Ct (d + 1) mX4_init [.ref 12] cT36 cI37 0 0 (PV fun T_ I_ => T_ = cT36 ∧ I_ = cI37) := by
  refine Ct.ofJ (by decide +kernel) rfl (by intro v hv; revert v hv; simp [Value.category]) rfl ?_
  show J (d + 1) mX4_init (PV _) 0 0 0 [some (.ref 12)] [] cT36 cI37 0 0
  refine J.aload_n dX4_init_0 rfl rfl ?_
  refine J.objInit dX4_init_1 oiX4_1 oi_inst oi_code rfl (by omega) ?_
  exact J.vretQ dX4_init_4 rfl (by decide) (by decide) ⟨rfl, rfl⟩

def cT38 : Topo := setR cT36 3 6 12
def cT39 : Topo := newT cT38 4 0
def cI40 : IM := newI cI37 13
set_option maxHeartbeats 4000000 in
set_option maxRecDepth 100000 in
theorem ctor9 (d : Nat) : Ct (d + 1) mX4_init [.ref 13] cT39 cI40 0 0 (PV fun T_ I_ => T_ = cT39 ∧ I_ = cI40) := by
  refine Ct.ofJ (by decide +kernel) rfl (by intro v hv; revert v hv; simp [Value.category]) rfl ?_
  show J (d + 1) mX4_init (PV _) 0 0 0 [some (.ref 13)] [] cT39 cI40 0 0
  refine J.aload_n dX4_init_0 rfl rfl ?_
  refine J.objInit dX4_init_1 oiX4_1 oi_inst oi_code rfl (by omega) ?_
  exact J.vretQ dX4_init_4 rfl (by decide) (by decide) ⟨rfl, rfl⟩

def cT41 : Topo := setR cT39 3 7 13
def cT42 : Topo := newT cT41 4 0
def cI43 : IM := newI cI40 14
set_option maxHeartbeats 4000000 in
set_option maxRecDepth 100000 in
theorem ctor10 (d : Nat) : Ct (d + 1) mX4_init [.ref 14] cT42 cI43 0 0 (PV fun T_ I_ => T_ = cT42 ∧ I_ = cI43) := by
  refine Ct.ofJ (by decide +kernel) rfl (by intro v hv; revert v hv; simp [Value.category]) rfl ?_
  show J (d + 1) mX4_init (PV _) 0 0 0 [some (.ref 14)] [] cT42 cI43 0 0
  refine J.aload_n dX4_init_0 rfl rfl ?_
  refine J.objInit dX4_init_1 oiX4_1 oi_inst oi_code rfl (by omega) ?_
  exact J.vretQ dX4_init_4 rfl (by decide) (by decide) ⟨rfl, rfl⟩

def cT44 : Topo := setR cT42 3 8 14
set_option maxHeartbeats 4000000 in
set_option maxRecDepth 100000 in
theorem ctor11 (d : Nat) : Ct (d + 2) mX5_init [.ref 1] cT1 cI2 13 119 (PV fun T_ I_ => T_ = cT44 ∧ I_ = cI43) := by
  refine Ct.ofJ (by decide +kernel) rfl (by intro v hv; revert v hv; simp [Value.category]) rfl ?_
  show J (d + 2) mX5_init (PV _) 13 119 0 [some (.ref 1), none] [] cT1 cI2 0 0
  refine J.aload_n dX5_init_0 rfl rfl ?_
  refine J.objInit dX5_init_1 oiX5_3 oi_inst oi_code rfl (by omega) ?_
  refine J.aload_n dX5_init_4 rfl rfl ?_
  refine J.bipush (v := 6) dX5_init_5 (by decide) ?_
  refine J.newarr (κ := 13) (N := 6) dX5_init_7 arc_int rfl (by decide) (by decide) (by decide) (by decide) (by decide) (by decide) ?_
  show J (d + 2) mX5_init (PV _) 13 119 9 [some (.ref 1), none] [.ref 2, .ref 1] cT3 cI4 1 6
  refine J.putR dX5_init_9 fX5_9 (show tK cT3 1 = 5 from rfl) rfl (Or.inr ⟨_, rfl⟩) (fun _ => rfl) (fun _ q h => by cases h; rfl) ?_
  show J (d + 2) mX5_init (PV _) 13 119 12 [some (.ref 1), none] [] cT5 cI4 1 6
  refine J.aload_n dX5_init_12 rfl rfl ?_
  refine J.bipush (v := 9) dX5_init_13 (by decide) ?_
  refine J.anew (κ := 15) (N := 9) dX5_init_15 caX5_15 aoX4 rfl (by decide) (by decide) (by decide) (by decide) (by decide) (by decide) ?_
  show J (d + 2) mX5_init (PV _) 13 119 18 [some (.ref 1), none] [.ref 3, .ref 1] cT6 cI7 2 15
  refine J.putR dX5_init_18 fX5_17 (show tK cT6 1 = 5 from rfl) rfl (Or.inr ⟨_, rfl⟩) (fun _ => rfl) (fun _ q h => by cases h; rfl) ?_
  show J (d + 2) mX5_init (PV _) 13 119 21 [some (.ref 1), none] [] cT8 cI7 2 15
  refine J.aload_n dX5_init_21 rfl rfl ?_
  refine J.new (κ := 10) dX5_init_22 clX5_21 (by decide) (by decide) ?_
  show J (d + 2) mX5_init (PV _) 13 119 25 [some (.ref 1), none] [.ref 4, .ref 1] cT9 cI10 3 20
  refine J.dup dX5_init_25 rfl ?_
  refine J.callIgV (k := 4) (as := []) (rest := [.ref 4, .ref 1]) (mc := 1) (ms := 27) dX5_init_26 kX10_init vX10_init lX5_23 rfl rfl rfl rfl (by omega) (by decide) (by decide) (ctor1 (d + 0)) (fun T_ I_ hq_ => ?_)
  obtain ⟨hq1_, hq2_⟩ := hq_
  subst hq1_; subst hq2_
  show J (d + 2) mX5_init (PV _) 13 119 29 [some (.ref 1), none] [.ref 4, .ref 1] cT13 cI16 4 47
  refine J.putR dX5_init_29 fX5_24 (show tK cT13 1 = 5 from rfl) rfl (Or.inl ⟨_, rfl⟩) (fun _ => rfl) (fun _ q h => by cases h; rfl) ?_
  show J (d + 2) mX5_init (PV _) 13 119 32 [some (.ref 1), none] [] cT17 cI16 4 47
  refine J.iconst (v := 0) dX5_init_32 (by decide) ?_
  refine J.istore_n (ls' := [some (.ref 1), some (.int 0)]) dX5_init_33 rfl rfl rfl ?_
  refine J.iload_n dX5_init_34 rfl rfl ?_
  refine J.bipush (v := 9) dX5_init_35 (by decide) ?_
  refine J.icmp_ge (tgt := 59) dX5_init_37 (by decide) (fun hc => absurd hc (by decide)) (fun hc => ?_)
  refine J.aload_n dX5_init_40 rfl rfl ?_
  refine J.getR (r := 3) dX5_init_41 fX5_17 (show tK cT17 1 = 5 from rfl) rfl (show tR cT17 1 1 = some 3 from rfl) ?_
  refine J.iload_n dX5_init_44 rfl rfl ?_
  refine J.new (κ := 4) dX5_init_45 clX5_15 (by decide) (by decide) ?_
  show J (d + 2) mX5_init (PV _) 13 119 48 [some (.ref 1), some (.int 0)] [.ref 6, .int 0, .ref 3] cT18 cI19 5 55
  refine J.dup dX5_init_48 rfl ?_
  refine J.callIgV (k := 6) (as := []) (rest := [.ref 6, .int 0, .ref 3]) (mc := 0) (ms := 0) dX5_init_49 kX4_init vX4_init lX5_28 rfl rfl rfl rfl (by omega) (by decide) (by decide) (ctor2 (d + 0)) (fun T_ I_ hq_ => ?_)
  obtain ⟨hq1_, hq2_⟩ := hq_
  subst hq1_; subst hq2_
  show J (d + 2) mX5_init (PV _) 13 119 52 [some (.ref 1), some (.int 0)] [.ref 6, .int 0, .ref 3] cT18 cI19 5 55
  refine J.aastore (κ := 4) dX5_init_52 (show 15 ≤ tK cT18 3 by decide +kernel) rfl (show aTy (tK cT18 3) = _ from rfl) (show tK cT18 6 = 4 from rfl) (vp_in_nI (n := 0) (show 0 < tL cT18 3 by decide +kernel) (show tL cT18 3 < 2 ^ 31 by decide +kernel)) ?_
  show J (d + 2) mX5_init (PV _) 13 119 53 [some (.ref 1), some (.int 0)] [] cT20 cI19 5 55
  refine J.iinc (v := 1) (ls' := [some (.ref 1), some (.int 1)]) dX5_init_53 rfl (by decide) rfl ?_
  refine J.goto (tgt := 34) dX5_init_56 (by decide) ?_
  refine J.iload_n dX5_init_34 rfl rfl ?_
  refine J.bipush (v := 9) dX5_init_35 (by decide) ?_
  refine J.icmp_ge (tgt := 59) dX5_init_37 (by decide) (fun hc => absurd hc (by decide)) (fun hc => ?_)
  refine J.aload_n dX5_init_40 rfl rfl ?_
  refine J.getR (r := 3) dX5_init_41 fX5_17 (show tK cT20 1 = 5 from rfl) rfl (show tR cT20 1 1 = some 3 from rfl) ?_
  refine J.iload_n dX5_init_44 rfl rfl ?_
  refine J.new (κ := 4) dX5_init_45 clX5_15 (by decide) (by decide) ?_
  show J (d + 2) mX5_init (PV _) 13 119 48 [some (.ref 1), some (.int 1)] [.ref 7, .int 1, .ref 3] cT21 cI22 6 63
  refine J.dup dX5_init_48 rfl ?_
  refine J.callIgV (k := 7) (as := []) (rest := [.ref 7, .int 1, .ref 3]) (mc := 0) (ms := 0) dX5_init_49 kX4_init vX4_init lX5_28 rfl rfl rfl rfl (by omega) (by decide) (by decide) (ctor3 (d + 0)) (fun T_ I_ hq_ => ?_)
  obtain ⟨hq1_, hq2_⟩ := hq_
  subst hq1_; subst hq2_
  show J (d + 2) mX5_init (PV _) 13 119 52 [some (.ref 1), some (.int 1)] [.ref 7, .int 1, .ref 3] cT21 cI22 6 63
  refine J.aastore (κ := 4) dX5_init_52 (show 15 ≤ tK cT21 3 by decide +kernel) rfl (show aTy (tK cT21 3) = _ from rfl) (show tK cT21 7 = 4 from rfl) (vp_in_nI (n := 1) (show 1 < tL cT21 3 by decide +kernel) (show tL cT21 3 < 2 ^ 31 by decide +kernel)) ?_
  show J (d + 2) mX5_init (PV _) 13 119 53 [some (.ref 1), some (.int 1)] [] cT23 cI22 6 63
  refine J.iinc (v := 2) (ls' := [some (.ref 1), some (.int 2)]) dX5_init_53 rfl (by decide) rfl ?_
  refine J.goto (tgt := 34) dX5_init_56 (by decide) ?_
  refine J.iload_n dX5_init_34 rfl rfl ?_
  refine J.bipush (v := 9) dX5_init_35 (by decide) ?_
  refine J.icmp_ge (tgt := 59) dX5_init_37 (by decide) (fun hc => absurd hc (by decide)) (fun hc => ?_)
  refine J.aload_n dX5_init_40 rfl rfl ?_
  refine J.getR (r := 3) dX5_init_41 fX5_17 (show tK cT23 1 = 5 from rfl) rfl (show tR cT23 1 1 = some 3 from rfl) ?_
  refine J.iload_n dX5_init_44 rfl rfl ?_
  refine J.new (κ := 4) dX5_init_45 clX5_15 (by decide) (by decide) ?_
  show J (d + 2) mX5_init (PV _) 13 119 48 [some (.ref 1), some (.int 2)] [.ref 8, .int 2, .ref 3] cT24 cI25 7 71
  refine J.dup dX5_init_48 rfl ?_
  refine J.callIgV (k := 8) (as := []) (rest := [.ref 8, .int 2, .ref 3]) (mc := 0) (ms := 0) dX5_init_49 kX4_init vX4_init lX5_28 rfl rfl rfl rfl (by omega) (by decide) (by decide) (ctor4 (d + 0)) (fun T_ I_ hq_ => ?_)
  obtain ⟨hq1_, hq2_⟩ := hq_
  subst hq1_; subst hq2_
  show J (d + 2) mX5_init (PV _) 13 119 52 [some (.ref 1), some (.int 2)] [.ref 8, .int 2, .ref 3] cT24 cI25 7 71
  refine J.aastore (κ := 4) dX5_init_52 (show 15 ≤ tK cT24 3 by decide +kernel) rfl (show aTy (tK cT24 3) = _ from rfl) (show tK cT24 8 = 4 from rfl) (vp_in_nI (n := 2) (show 2 < tL cT24 3 by decide +kernel) (show tL cT24 3 < 2 ^ 31 by decide +kernel)) ?_
  show J (d + 2) mX5_init (PV _) 13 119 53 [some (.ref 1), some (.int 2)] [] cT26 cI25 7 71
  refine J.iinc (v := 3) (ls' := [some (.ref 1), some (.int 3)]) dX5_init_53 rfl (by decide) rfl ?_
  refine J.goto (tgt := 34) dX5_init_56 (by decide) ?_
  refine J.iload_n dX5_init_34 rfl rfl ?_
  refine J.bipush (v := 9) dX5_init_35 (by decide) ?_
  refine J.icmp_ge (tgt := 59) dX5_init_37 (by decide) (fun hc => absurd hc (by decide)) (fun hc => ?_)
  refine J.aload_n dX5_init_40 rfl rfl ?_
  refine J.getR (r := 3) dX5_init_41 fX5_17 (show tK cT26 1 = 5 from rfl) rfl (show tR cT26 1 1 = some 3 from rfl) ?_
  refine J.iload_n dX5_init_44 rfl rfl ?_
  refine J.new (κ := 4) dX5_init_45 clX5_15 (by decide) (by decide) ?_
  show J (d + 2) mX5_init (PV _) 13 119 48 [some (.ref 1), some (.int 3)] [.ref 9, .int 3, .ref 3] cT27 cI28 8 79
  refine J.dup dX5_init_48 rfl ?_
  refine J.callIgV (k := 9) (as := []) (rest := [.ref 9, .int 3, .ref 3]) (mc := 0) (ms := 0) dX5_init_49 kX4_init vX4_init lX5_28 rfl rfl rfl rfl (by omega) (by decide) (by decide) (ctor5 (d + 0)) (fun T_ I_ hq_ => ?_)
  obtain ⟨hq1_, hq2_⟩ := hq_
  subst hq1_; subst hq2_
  show J (d + 2) mX5_init (PV _) 13 119 52 [some (.ref 1), some (.int 3)] [.ref 9, .int 3, .ref 3] cT27 cI28 8 79
  refine J.aastore (κ := 4) dX5_init_52 (show 15 ≤ tK cT27 3 by decide +kernel) rfl (show aTy (tK cT27 3) = _ from rfl) (show tK cT27 9 = 4 from rfl) (vp_in_nI (n := 3) (show 3 < tL cT27 3 by decide +kernel) (show tL cT27 3 < 2 ^ 31 by decide +kernel)) ?_
  show J (d + 2) mX5_init (PV _) 13 119 53 [some (.ref 1), some (.int 3)] [] cT29 cI28 8 79
  refine J.iinc (v := 4) (ls' := [some (.ref 1), some (.int 4)]) dX5_init_53 rfl (by decide) rfl ?_
  refine J.goto (tgt := 34) dX5_init_56 (by decide) ?_
  refine J.iload_n dX5_init_34 rfl rfl ?_
  refine J.bipush (v := 9) dX5_init_35 (by decide) ?_
  refine J.icmp_ge (tgt := 59) dX5_init_37 (by decide) (fun hc => absurd hc (by decide)) (fun hc => ?_)
  refine J.aload_n dX5_init_40 rfl rfl ?_
  refine J.getR (r := 3) dX5_init_41 fX5_17 (show tK cT29 1 = 5 from rfl) rfl (show tR cT29 1 1 = some 3 from rfl) ?_
  refine J.iload_n dX5_init_44 rfl rfl ?_
  refine J.new (κ := 4) dX5_init_45 clX5_15 (by decide) (by decide) ?_
  show J (d + 2) mX5_init (PV _) 13 119 48 [some (.ref 1), some (.int 4)] [.ref 10, .int 4, .ref 3] cT30 cI31 9 87
  refine J.dup dX5_init_48 rfl ?_
  refine J.callIgV (k := 10) (as := []) (rest := [.ref 10, .int 4, .ref 3]) (mc := 0) (ms := 0) dX5_init_49 kX4_init vX4_init lX5_28 rfl rfl rfl rfl (by omega) (by decide) (by decide) (ctor6 (d + 0)) (fun T_ I_ hq_ => ?_)
  obtain ⟨hq1_, hq2_⟩ := hq_
  subst hq1_; subst hq2_
  show J (d + 2) mX5_init (PV _) 13 119 52 [some (.ref 1), some (.int 4)] [.ref 10, .int 4, .ref 3] cT30 cI31 9 87
  refine J.aastore (κ := 4) dX5_init_52 (show 15 ≤ tK cT30 3 by decide +kernel) rfl (show aTy (tK cT30 3) = _ from rfl) (show tK cT30 10 = 4 from rfl) (vp_in_nI (n := 4) (show 4 < tL cT30 3 by decide +kernel) (show tL cT30 3 < 2 ^ 31 by decide +kernel)) ?_
  show J (d + 2) mX5_init (PV _) 13 119 53 [some (.ref 1), some (.int 4)] [] cT32 cI31 9 87
  refine J.iinc (v := 5) (ls' := [some (.ref 1), some (.int 5)]) dX5_init_53 rfl (by decide) rfl ?_
  refine J.goto (tgt := 34) dX5_init_56 (by decide) ?_
  refine J.iload_n dX5_init_34 rfl rfl ?_
  refine J.bipush (v := 9) dX5_init_35 (by decide) ?_
  refine J.icmp_ge (tgt := 59) dX5_init_37 (by decide) (fun hc => absurd hc (by decide)) (fun hc => ?_)
  refine J.aload_n dX5_init_40 rfl rfl ?_
  refine J.getR (r := 3) dX5_init_41 fX5_17 (show tK cT32 1 = 5 from rfl) rfl (show tR cT32 1 1 = some 3 from rfl) ?_
  refine J.iload_n dX5_init_44 rfl rfl ?_
  refine J.new (κ := 4) dX5_init_45 clX5_15 (by decide) (by decide) ?_
  show J (d + 2) mX5_init (PV _) 13 119 48 [some (.ref 1), some (.int 5)] [.ref 11, .int 5, .ref 3] cT33 cI34 10 95
  refine J.dup dX5_init_48 rfl ?_
  refine J.callIgV (k := 11) (as := []) (rest := [.ref 11, .int 5, .ref 3]) (mc := 0) (ms := 0) dX5_init_49 kX4_init vX4_init lX5_28 rfl rfl rfl rfl (by omega) (by decide) (by decide) (ctor7 (d + 0)) (fun T_ I_ hq_ => ?_)
  obtain ⟨hq1_, hq2_⟩ := hq_
  subst hq1_; subst hq2_
  show J (d + 2) mX5_init (PV _) 13 119 52 [some (.ref 1), some (.int 5)] [.ref 11, .int 5, .ref 3] cT33 cI34 10 95
  refine J.aastore (κ := 4) dX5_init_52 (show 15 ≤ tK cT33 3 by decide +kernel) rfl (show aTy (tK cT33 3) = _ from rfl) (show tK cT33 11 = 4 from rfl) (vp_in_nI (n := 5) (show 5 < tL cT33 3 by decide +kernel) (show tL cT33 3 < 2 ^ 31 by decide +kernel)) ?_
  show J (d + 2) mX5_init (PV _) 13 119 53 [some (.ref 1), some (.int 5)] [] cT35 cI34 10 95
  refine J.iinc (v := 6) (ls' := [some (.ref 1), some (.int 6)]) dX5_init_53 rfl (by decide) rfl ?_
  refine J.goto (tgt := 34) dX5_init_56 (by decide) ?_
  refine J.iload_n dX5_init_34 rfl rfl ?_
  refine J.bipush (v := 9) dX5_init_35 (by decide) ?_
  refine J.icmp_ge (tgt := 59) dX5_init_37 (by decide) (fun hc => absurd hc (by decide)) (fun hc => ?_)
  refine J.aload_n dX5_init_40 rfl rfl ?_
  refine J.getR (r := 3) dX5_init_41 fX5_17 (show tK cT35 1 = 5 from rfl) rfl (show tR cT35 1 1 = some 3 from rfl) ?_
  refine J.iload_n dX5_init_44 rfl rfl ?_
  refine J.new (κ := 4) dX5_init_45 clX5_15 (by decide) (by decide) ?_
  show J (d + 2) mX5_init (PV _) 13 119 48 [some (.ref 1), some (.int 6)] [.ref 12, .int 6, .ref 3] cT36 cI37 11 103
  refine J.dup dX5_init_48 rfl ?_
  refine J.callIgV (k := 12) (as := []) (rest := [.ref 12, .int 6, .ref 3]) (mc := 0) (ms := 0) dX5_init_49 kX4_init vX4_init lX5_28 rfl rfl rfl rfl (by omega) (by decide) (by decide) (ctor8 (d + 0)) (fun T_ I_ hq_ => ?_)
  obtain ⟨hq1_, hq2_⟩ := hq_
  subst hq1_; subst hq2_
  show J (d + 2) mX5_init (PV _) 13 119 52 [some (.ref 1), some (.int 6)] [.ref 12, .int 6, .ref 3] cT36 cI37 11 103
  refine J.aastore (κ := 4) dX5_init_52 (show 15 ≤ tK cT36 3 by decide +kernel) rfl (show aTy (tK cT36 3) = _ from rfl) (show tK cT36 12 = 4 from rfl) (vp_in_nI (n := 6) (show 6 < tL cT36 3 by decide +kernel) (show tL cT36 3 < 2 ^ 31 by decide +kernel)) ?_
  show J (d + 2) mX5_init (PV _) 13 119 53 [some (.ref 1), some (.int 6)] [] cT38 cI37 11 103
  refine J.iinc (v := 7) (ls' := [some (.ref 1), some (.int 7)]) dX5_init_53 rfl (by decide) rfl ?_
  refine J.goto (tgt := 34) dX5_init_56 (by decide) ?_
  refine J.iload_n dX5_init_34 rfl rfl ?_
  refine J.bipush (v := 9) dX5_init_35 (by decide) ?_
  refine J.icmp_ge (tgt := 59) dX5_init_37 (by decide) (fun hc => absurd hc (by decide)) (fun hc => ?_)
  refine J.aload_n dX5_init_40 rfl rfl ?_
  refine J.getR (r := 3) dX5_init_41 fX5_17 (show tK cT38 1 = 5 from rfl) rfl (show tR cT38 1 1 = some 3 from rfl) ?_
  refine J.iload_n dX5_init_44 rfl rfl ?_
  refine J.new (κ := 4) dX5_init_45 clX5_15 (by decide) (by decide) ?_
  show J (d + 2) mX5_init (PV _) 13 119 48 [some (.ref 1), some (.int 7)] [.ref 13, .int 7, .ref 3] cT39 cI40 12 111
  refine J.dup dX5_init_48 rfl ?_
  refine J.callIgV (k := 13) (as := []) (rest := [.ref 13, .int 7, .ref 3]) (mc := 0) (ms := 0) dX5_init_49 kX4_init vX4_init lX5_28 rfl rfl rfl rfl (by omega) (by decide) (by decide) (ctor9 (d + 0)) (fun T_ I_ hq_ => ?_)
  obtain ⟨hq1_, hq2_⟩ := hq_
  subst hq1_; subst hq2_
  show J (d + 2) mX5_init (PV _) 13 119 52 [some (.ref 1), some (.int 7)] [.ref 13, .int 7, .ref 3] cT39 cI40 12 111
  refine J.aastore (κ := 4) dX5_init_52 (show 15 ≤ tK cT39 3 by decide +kernel) rfl (show aTy (tK cT39 3) = _ from rfl) (show tK cT39 13 = 4 from rfl) (vp_in_nI (n := 7) (show 7 < tL cT39 3 by decide +kernel) (show tL cT39 3 < 2 ^ 31 by decide +kernel)) ?_
  show J (d + 2) mX5_init (PV _) 13 119 53 [some (.ref 1), some (.int 7)] [] cT41 cI40 12 111
  refine J.iinc (v := 8) (ls' := [some (.ref 1), some (.int 8)]) dX5_init_53 rfl (by decide) rfl ?_
  refine J.goto (tgt := 34) dX5_init_56 (by decide) ?_
  refine J.iload_n dX5_init_34 rfl rfl ?_
  refine J.bipush (v := 9) dX5_init_35 (by decide) ?_
  refine J.icmp_ge (tgt := 59) dX5_init_37 (by decide) (fun hc => absurd hc (by decide)) (fun hc => ?_)
  refine J.aload_n dX5_init_40 rfl rfl ?_
  refine J.getR (r := 3) dX5_init_41 fX5_17 (show tK cT41 1 = 5 from rfl) rfl (show tR cT41 1 1 = some 3 from rfl) ?_
  refine J.iload_n dX5_init_44 rfl rfl ?_
  refine J.new (κ := 4) dX5_init_45 clX5_15 (by decide) (by decide) ?_
  show J (d + 2) mX5_init (PV _) 13 119 48 [some (.ref 1), some (.int 8)] [.ref 14, .int 8, .ref 3] cT42 cI43 13 119
  refine J.dup dX5_init_48 rfl ?_
  refine J.callIgV (k := 14) (as := []) (rest := [.ref 14, .int 8, .ref 3]) (mc := 0) (ms := 0) dX5_init_49 kX4_init vX4_init lX5_28 rfl rfl rfl rfl (by omega) (by decide) (by decide) (ctor10 (d + 0)) (fun T_ I_ hq_ => ?_)
  obtain ⟨hq1_, hq2_⟩ := hq_
  subst hq1_; subst hq2_
  show J (d + 2) mX5_init (PV _) 13 119 52 [some (.ref 1), some (.int 8)] [.ref 14, .int 8, .ref 3] cT42 cI43 13 119
  refine J.aastore (κ := 4) dX5_init_52 (show 15 ≤ tK cT42 3 by decide +kernel) rfl (show aTy (tK cT42 3) = _ from rfl) (show tK cT42 14 = 4 from rfl) (vp_in_nI (n := 8) (show 8 < tL cT42 3 by decide +kernel) (show tL cT42 3 < 2 ^ 31 by decide +kernel)) ?_
  show J (d + 2) mX5_init (PV _) 13 119 53 [some (.ref 1), some (.int 8)] [] cT44 cI43 13 119
  refine J.iinc (v := 9) (ls' := [some (.ref 1), some (.int 9)]) dX5_init_53 rfl (by decide) rfl ?_
  refine J.goto (tgt := 34) dX5_init_56 (by decide) ?_
  refine J.iload_n dX5_init_34 rfl rfl ?_
  refine J.bipush (v := 9) dX5_init_35 (by decide) ?_
  refine J.icmp_ge (tgt := 59) dX5_init_37 (by decide) (fun hc => ?_) (fun hc => absurd (by decide) hc)
  exact J.vretQ dX5_init_59 rfl (by decide) (by decide) ⟨rfl, rfl⟩

def cT45 : Topo := newT cT44 9 0
def cI46 : IM := newI cI43 15
def cT47 : Topo := newT cT45 17 8
def cI48 : IM := newI cI46 16
def cT49 : Topo := setR cT47 15 0 16
def cT50 : Topo := newT cT49 8 0
def cI51 : IM := newI cI48 17
def cT52 : Topo := newT cT50 6 0
def cI53 : IM := newI cI51 18
def cT54 : Topo := newT cT52 13 0
def cI55 : IM := newI cI53 19
def cT56 : Topo := setR cT54 18 0 19
def cT57 : Topo := newT cT56 13 0
def cI58 : IM := newI cI55 20
def cT59 : Topo := setR cT57 18 1 20
def cI60 : IM := up2 cI58 18 2 (-1)
set_option maxHeartbeats 4000000 in
set_option maxRecDepth 100000 in
theorem ctor12 (d : Nat) : Ct (d + 1) mX6_init [.ref 18] cT52 cI53 2 0 (PV fun T_ I_ => T_ = cT59 ∧ I_ = cI60) := by
  refine Ct.ofJ (by decide +kernel) rfl (by intro v hv; revert v hv; simp [Value.category]) rfl ?_
  show J (d + 1) mX6_init (PV _) 2 0 0 [some (.ref 18)] [] cT52 cI53 0 0
  refine J.aload_n dX6_init_0 rfl rfl ?_
  refine J.objInit dX6_init_1 oiX6_3 oi_inst oi_code rfl (by omega) ?_
  refine J.aload_n dX6_init_4 rfl rfl ?_
  refine J.iconst (v := 0) dX6_init_5 (by decide) ?_
  refine J.newarr (κ := 13) (N := 0) dX6_init_6 arc_int rfl (by decide) (by decide) (by decide) (by decide) (by decide) (by decide) ?_
  show J (d + 1) mX6_init (PV _) 2 0 8 [some (.ref 18)] [.ref 19, .ref 18] cT54 cI55 1 0
  refine J.putR dX6_init_8 fX6_9 (show tK cT54 18 = 6 from rfl) rfl (Or.inr ⟨_, rfl⟩) (fun _ => rfl) (fun _ q h => by cases h; rfl) ?_
  show J (d + 1) mX6_init (PV _) 2 0 11 [some (.ref 18)] [] cT56 cI55 1 0
  refine J.aload_n dX6_init_11 rfl rfl ?_
  refine J.iconst (v := 0) dX6_init_12 (by decide) ?_
  refine J.newarr (κ := 13) (N := 0) dX6_init_13 arc_int rfl (by decide) (by decide) (by decide) (by decide) (by decide) (by decide) ?_
  show J (d + 1) mX6_init (PV _) 2 0 15 [some (.ref 18)] [.ref 20, .ref 18] cT57 cI58 2 0
  refine J.putR dX6_init_15 fX6_15 (show tK cT57 18 = 6 from rfl) rfl (Or.inr ⟨_, rfl⟩) (fun _ => rfl) (fun _ q h => by cases h; rfl) ?_
  show J (d + 1) mX6_init (PV _) 2 0 18 [some (.ref 18)] [] cT59 cI58 2 0
  refine J.aload_n dX6_init_18 rfl rfl ?_
  refine J.iconst (v := (-1)) dX6_init_19 (by decide) ?_
  refine J.putI dX6_init_20 fX6_18 (show tK cT59 18 = 6 from rfl) rfl ?_
  show J (d + 1) mX6_init (PV _) 2 0 23 [some (.ref 18)] [] cT59 cI60 2 0
  exact J.vretQ dX6_init_23 rfl (by decide) (by decide) ⟨rfl, rfl⟩

def cT61 : Topo := setR cT59 17 18 18
set_option maxHeartbeats 4000000 in
set_option maxRecDepth 100000 in
theorem ctor13 (d : Nat) : Ct (d + 2) mX8_init [.ref 17] cT50 cI51 3 5 (PV fun T_ I_ => T_ = cT61 ∧ I_ = cI60) := by
  refine Ct.ofJ (by decide +kernel) rfl (by intro v hv; revert v hv; simp [Value.category]) rfl ?_
  show J (d + 2) mX8_init (PV _) 3 5 0 [some (.ref 17)] [] cT50 cI51 0 0
  refine J.aload_n dX8_init_0 rfl rfl ?_
  refine J.objInit dX8_init_1 oiX8_3 oi_inst oi_code rfl (by omega) ?_
  refine J.aload_n dX8_init_4 rfl rfl ?_
  refine J.new (κ := 6) dX8_init_5 clX8_9 (by decide) (by decide) ?_
  show J (d + 2) mX8_init (PV _) 3 5 8 [some (.ref 17)] [.ref 18, .ref 17] cT52 cI53 1 5
  refine J.dup dX8_init_8 rfl ?_
  refine J.callIgV (k := 18) (as := []) (rest := [.ref 18, .ref 17]) (mc := 2) (ms := 0) dX8_init_9 kX6_init vX6_init lX8_11 rfl rfl rfl rfl (by omega) (by decide) (by decide) (ctor12 (d + 0)) (fun T_ I_ hq_ => ?_)
  obtain ⟨hq1_, hq2_⟩ := hq_
  subst hq1_; subst hq2_
  show J (d + 2) mX8_init (PV _) 3 5 12 [some (.ref 17)] [.ref 18, .ref 17] cT59 cI60 3 5
  refine J.putR dX8_init_12 fX8_12 (show tK cT59 17 = 8 from rfl) rfl (Or.inl ⟨_, rfl⟩) (fun _ => rfl) (fun _ q h => by cases h; rfl) ?_
  show J (d + 2) mX8_init (PV _) 3 5 15 [some (.ref 17)] [] cT61 cI60 3 5
  exact J.vretQ dX8_init_15 rfl (by decide) (by decide) ⟨rfl, rfl⟩

def cT62 : Topo := setR cT61 16 0 17
def cT63 : Topo := newT cT62 8 0
def cI64 : IM := newI cI60 21
def cT65 : Topo := newT cT63 6 0
def cI66 : IM := newI cI64 22
def cT67 : Topo := newT cT65 13 0
def cI68 : IM := newI cI66 23
def cT69 : Topo := setR cT67 22 0 23
def cT70 : Topo := newT cT69 13 0
def cI71 : IM := newI cI68 24
def cT72 : Topo := setR cT70 22 1 24
def cI73 : IM := up2 cI71 22 2 (-1)
set_option maxHeartbeats 4000000 in
set_option maxRecDepth 100000 in
theorem ctor14 (d : Nat) : Ct (d + 1) mX6_init [.ref 22] cT65 cI66 2 0 (PV fun T_ I_ => T_ = cT72 ∧ I_ = cI73) := by
  refine Ct.ofJ (by decide +kernel) rfl (by intro v hv; revert v hv; simp [Value.category]) rfl ?_
  show J (d + 1) mX6_init (PV _) 2 0 0 [some (.ref 22)] [] cT65 cI66 0 0
  refine J.aload_n dX6_init_0 rfl rfl ?_
  refine J.objInit dX6_init_1 oiX6_3 oi_inst oi_code rfl (by omega) ?_
  refine J.aload_n dX6_init_4 rfl rfl ?_
  refine J.iconst (v := 0) dX6_init_5 (by decide) ?_
  refine J.newarr (κ := 13) (N := 0) dX6_init_6 arc_int rfl (by decide) (by decide) (by decide) (by decide) (by decide) (by decide) ?_
  show J (d + 1) mX6_init (PV _) 2 0 8 [some (.ref 22)] [.ref 23, .ref 22] cT67 cI68 1 0
  refine J.putR dX6_init_8 fX6_9 (show tK cT67 22 = 6 from rfl) rfl (Or.inr ⟨_, rfl⟩) (fun _ => rfl) (fun _ q h => by cases h; rfl) ?_
  show J (d + 1) mX6_init (PV _) 2 0 11 [some (.ref 22)] [] cT69 cI68 1 0
  refine J.aload_n dX6_init_11 rfl rfl ?_
  refine J.iconst (v := 0) dX6_init_12 (by decide) ?_
  refine J.newarr (κ := 13) (N := 0) dX6_init_13 arc_int rfl (by decide) (by decide) (by decide) (by decide) (by decide) (by decide) ?_
  show J (d + 1) mX6_init (PV _) 2 0 15 [some (.ref 22)] [.ref 24, .ref 22] cT70 cI71 2 0
  refine J.putR dX6_init_15 fX6_15 (show tK cT70 22 = 6 from rfl) rfl (Or.inr ⟨_, rfl⟩) (fun _ => rfl) (fun _ q h => by cases h; rfl) ?_
  show J (d + 1) mX6_init (PV _) 2 0 18 [some (.ref 22)] [] cT72 cI71 2 0
  refine J.aload_n dX6_init_18 rfl rfl ?_
  refine J.iconst (v := (-1)) dX6_init_19 (by decide) ?_
  refine J.putI dX6_init_20 fX6_18 (show tK cT72 22 = 6 from rfl) rfl ?_
  show J (d + 1) mX6_init (PV _) 2 0 23 [some (.ref 22)] [] cT72 cI73 2 0
  exact J.vretQ dX6_init_23 rfl (by decide) (by decide) ⟨rfl, rfl⟩

def cT74 : Topo := setR cT72 21 18 22
set_option maxHeartbeats 4000000 in
set_option maxRecDepth 100000 in
theorem ctor15 (d : Nat) : Ct (d + 2) mX8_init [.ref 21] cT63 cI64 3 5 (PV fun T_ I_ => T_ = cT74 ∧ I_ = cI73) := by
  refine Ct.ofJ (by decide +kernel) rfl (by intro v hv; revert v hv; simp [Value.category]) rfl ?_
  show J (d + 2) mX8_init (PV _) 3 5 0 [some (.ref 21)] [] cT63 cI64 0 0
  refine J.aload_n dX8_init_0 rfl rfl ?_
  refine J.objInit dX8_init_1 oiX8_3 oi_inst oi_code rfl (by omega) ?_
  refine J.aload_n dX8_init_4 rfl rfl ?_
  refine J.new (κ := 6) dX8_init_5 clX8_9 (by decide) (by decide) ?_
  show J (d + 2) mX8_init (PV _) 3 5 8 [some (.ref 21)] [.ref 22, .ref 21] cT65 cI66 1 5
  refine J.dup dX8_init_8 rfl ?_
  refine J.callIgV (k := 22) (as := []) (rest := [.ref 22, .ref 21]) (mc := 2) (ms := 0) dX8_init_9 kX6_init vX6_init lX8_11 rfl rfl rfl rfl (by omega) (by decide) (by decide) (ctor14 (d + 0)) (fun T_ I_ hq_ => ?_)
  obtain ⟨hq1_, hq2_⟩ := hq_
  subst hq1_; subst hq2_
  show J (d + 2) mX8_init (PV _) 3 5 12 [some (.ref 21)] [.ref 22, .ref 21] cT72 cI73 3 5
  refine J.putR dX8_init_12 fX8_12 (show tK cT72 21 = 8 from rfl) rfl (Or.inl ⟨_, rfl⟩) (fun _ => rfl) (fun _ q h => by cases h; rfl) ?_
  show J (d + 2) mX8_init (PV _) 3 5 15 [some (.ref 21)] [] cT74 cI73 3 5
  exact J.vretQ dX8_init_15 rfl (by decide) (by decide) ⟨rfl, rfl⟩

def cT75 : Topo := setR cT74 16 1 21
def cT76 : Topo := newT cT75 8 0
def cI77 : IM := newI cI73 25
def cT78 : Topo := newT cT76 6 0
def cI79 : IM := newI cI77 26
def cT80 : Topo := newT cT78 13 0
def cI81 : IM := newI cI79 27
def cT82 : Topo := setR cT80 26 0 27
def cT83 : Topo := newT cT82 13 0
def cI84 : IM := newI cI81 28
def cT85 : Topo := setR cT83 26 1 28
def cI86 : IM := up2 cI84 26 2 (-1)
set_option maxHeartbeats 4000000 in
set_option maxRecDepth 100000 in
theorem ctor16 (d : Nat) : Ct (d + 1) mX6_init [.ref 26] cT78 cI79 2 0 (PV fun T_ I_ => T_ = cT85 ∧ I_ = cI86) := by
  refine Ct.ofJ (by decide +kernel) rfl (by intro v hv; revert v hv; simp [Value.category]) rfl ?_
  show J (d + 1) mX6_init (PV _) 2 0 0 [some (.ref 26)] [] cT78 cI79 0 0
  refine J.aload_n dX6_init_0 rfl rfl ?_
  refine J.objInit dX6_init_1 oiX6_3 oi_inst oi_code rfl (by omega) ?_
  refine J.aload_n dX6_init_4 rfl rfl ?_
  refine J.iconst (v := 0) dX6_init_5 (by decide) ?_
  refine J.newarr (κ := 13) (N := 0) dX6_init_6 arc_int rfl (by decide) (by decide) (by decide) (by decide) (by decide) (by decide) ?_
  show J (d + 1) mX6_init (PV _) 2 0 8 [some (.ref 26)] [.ref 27, .ref 26] cT80 cI81 1 0
  refine J.putR dX6_init_8 fX6_9 (show tK cT80 26 = 6 from rfl) rfl (Or.inr ⟨_, rfl⟩) (fun _ => rfl) (fun _ q h => by cases h; rfl) ?_
  show J (d + 1) mX6_init (PV _) 2 0 11 [some (.ref 26)] [] cT82 cI81 1 0
  refine J.aload_n dX6_init_11 rfl rfl ?_
  refine J.iconst (v := 0) dX6_init_12 (by decide) ?_
  refine J.newarr (κ := 13) (N := 0) dX6_init_13 arc_int rfl (by decide) (by decide) (by decide) (by decide) (by decide) (by decide) ?_
  show J (d + 1) mX6_init (PV _) 2 0 15 [some (.ref 26)] [.ref 28, .ref 26] cT83 cI84 2 0
  refine J.putR dX6_init_15 fX6_15 (show tK cT83 26 = 6 from rfl) rfl (Or.inr ⟨_, rfl⟩) (fun _ => rfl) (fun _ q h => by cases h; rfl) ?_
  show J (d + 1) mX6_init (PV _) 2 0 18 [some (.ref 26)] [] cT85 cI84 2 0
  refine J.aload_n dX6_init_18 rfl rfl ?_
  refine J.iconst (v := (-1)) dX6_init_19 (by decide) ?_
  refine J.putI dX6_init_20 fX6_18 (show tK cT85 26 = 6 from rfl) rfl ?_
  show J (d + 1) mX6_init (PV _) 2 0 23 [some (.ref 26)] [] cT85 cI86 2 0
  exact J.vretQ dX6_init_23 rfl (by decide) (by decide) ⟨rfl, rfl⟩

def cT87 : Topo := setR cT85 25 18 26
set_option maxHeartbeats 4000000 in
set_option maxRecDepth 100000 in
theorem ctor17 (d : Nat) : Ct (d + 2) mX8_init [.ref 25] cT76 cI77 3 5 (PV fun T_ I_ => T_ = cT87 ∧ I_ = cI86) := by
  refine Ct.ofJ (by decide +kernel) rfl (by intro v hv; revert v hv; simp [Value.category]) rfl ?_
  show J (d + 2) mX8_init (PV _) 3 5 0 [some (.ref 25)] [] cT76 cI77 0 0
  refine J.aload_n dX8_init_0 rfl rfl ?_
  refine J.objInit dX8_init_1 oiX8_3 oi_inst oi_code rfl (by omega) ?_
  refine J.aload_n dX8_init_4 rfl rfl ?_
  refine J.new (κ := 6) dX8_init_5 clX8_9 (by decide) (by decide) ?_
  show J (d + 2) mX8_init (PV _) 3 5 8 [some (.ref 25)] [.ref 26, .ref 25] cT78 cI79 1 5
  refine J.dup dX8_init_8 rfl ?_
  refine J.callIgV (k := 26) (as := []) (rest := [.ref 26, .ref 25]) (mc := 2) (ms := 0) dX8_init_9 kX6_init vX6_init lX8_11 rfl rfl rfl rfl (by omega) (by decide) (by decide) (ctor16 (d + 0)) (fun T_ I_ hq_ => ?_)
  obtain ⟨hq1_, hq2_⟩ := hq_
  subst hq1_; subst hq2_
  show J (d + 2) mX8_init (PV _) 3 5 12 [some (.ref 25)] [.ref 26, .ref 25] cT85 cI86 3 5
  refine J.putR dX8_init_12 fX8_12 (show tK cT85 25 = 8 from rfl) rfl (Or.inl ⟨_, rfl⟩) (fun _ => rfl) (fun _ q h => by cases h; rfl) ?_
  show J (d + 2) mX8_init (PV _) 3 5 15 [some (.ref 25)] [] cT87 cI86 3 5
  exact J.vretQ dX8_init_15 rfl (by decide) (by decide) ⟨rfl, rfl⟩

def cT88 : Topo := setR cT87 16 2 25
def cT89 : Topo := newT cT88 8 0
def cI90 : IM := newI cI86 29
def cT91 : Topo := newT cT89 6 0
def cI92 : IM := newI cI90 30
def cT93 : Topo := newT cT91 13 0
def cI94 : IM := newI cI92 31
def cT95 : Topo := setR cT93 30 0 31
def cT96 : Topo := newT cT95 13 0
def cI97 : IM := newI cI94 32
def cT98 : Topo := setR cT96 30 1 32
def cI99 : IM := up2 cI97 30 2 (-1)
set_option maxHeartbeats 4000000 in
set_option maxRecDepth 100000 in
theorem ctor18 (d : Nat) : Ct (d + 1) mX6_init [.ref 30] cT91 cI92 2 0 (PV fun T_ I_ => T_ = cT98 ∧ I_ = cI99) := by
  refine Ct.ofJ (by decide +kernel) rfl (by intro v hv; revert v hv; simp [Value.category]) rfl ?_
  show J (d + 1) mX6_init (PV _) 2 0 0 [some (.ref 30)] [] cT91 cI92 0 0
  refine J.aload_n dX6_init_0 rfl rfl ?_
  refine J.objInit dX6_init_1 oiX6_3 oi_inst oi_code rfl (by omega) ?_
  refine J.aload_n dX6_init_4 rfl rfl ?_
  refine J.iconst (v := 0) dX6_init_5 (by decide) ?_
  refine J.newarr (κ := 13) (N := 0) dX6_init_6 arc_int rfl (by decide) (by decide) (by decide) (by decide) (by decide) (by decide) ?_
  show J (d + 1) mX6_init (PV _) 2 0 8 [some (.ref 30)] [.ref 31, .ref 30] cT93 cI94 1 0
  refine J.putR dX6_init_8 fX6_9 (show tK cT93 30 = 6 from rfl) rfl (Or.inr ⟨_, rfl⟩) (fun _ => rfl) (fun _ q h => by cases h; rfl) ?_
  show J (d + 1) mX6_init (PV _) 2 0 11 [some (.ref 30)] [] cT95 cI94 1 0
  refine J.aload_n dX6_init_11 rfl rfl ?_
  refine J.iconst (v := 0) dX6_init_12 (by decide) ?_
  refine J.newarr (κ := 13) (N := 0) dX6_init_13 arc_int rfl (by decide) (by decide) (by decide) (by decide) (by decide) (by decide) ?_
  show J (d + 1) mX6_init (PV _) 2 0 15 [some (.ref 30)] [.ref 32, .ref 30] cT96 cI97 2 0
  refine J.putR dX6_init_15 fX6_15 (show tK cT96 30 = 6 from rfl) rfl (Or.inr ⟨_, rfl⟩) (fun _ => rfl) (fun _ q h => by cases h; rfl) ?_
  show J (d + 1) mX6_init (PV _) 2 0 18 [some (.ref 30)] [] cT98 cI97 2 0
  refine J.aload_n dX6_init_18 rfl rfl ?_
  refine J.iconst (v := (-1)) dX6_init_19 (by decide) ?_
  refine J.putI dX6_init_20 fX6_18 (show tK cT98 30 = 6 from rfl) rfl ?_
  show J (d + 1) mX6_init (PV _) 2 0 23 [some (.ref 30)] [] cT98 cI99 2 0
  exact J.vretQ dX6_init_23 rfl (by decide) (by decide) ⟨rfl, rfl⟩

def cT100 : Topo := setR cT98 29 18 30
set_option maxHeartbeats 4000000 in
set_option maxRecDepth 100000 in
theorem ctor19 (d : Nat) : Ct (d + 2) mX8_init [.ref 29] cT89 cI90 3 5 (PV fun T_ I_ => T_ = cT100 ∧ I_ = cI99) := by
  refine Ct.ofJ (by decide +kernel) rfl (by intro v hv; revert v hv; simp [Value.category]) rfl ?_
  show J (d + 2) mX8_init (PV _) 3 5 0 [some (.ref 29)] [] cT89 cI90 0 0
  refine J.aload_n dX8_init_0 rfl rfl ?_
  refine J.objInit dX8_init_1 oiX8_3 oi_inst oi_code rfl (by omega) ?_
  refine J.aload_n dX8_init_4 rfl rfl ?_
  refine J.new (κ := 6) dX8_init_5 clX8_9 (by decide) (by decide) ?_
  show J (d + 2) mX8_init (PV _) 3 5 8 [some (.ref 29)] [.ref 30, .ref 29] cT91 cI92 1 5
  refine J.dup dX8_init_8 rfl ?_
  refine J.callIgV (k := 30) (as := []) (rest := [.ref 30, .ref 29]) (mc := 2) (ms := 0) dX8_init_9 kX6_init vX6_init lX8_11 rfl rfl rfl rfl (by omega) (by decide) (by decide) (ctor18 (d + 0)) (fun T_ I_ hq_ => ?_)
  obtain ⟨hq1_, hq2_⟩ := hq_
  subst hq1_; subst hq2_
  show J (d + 2) mX8_init (PV _) 3 5 12 [some (.ref 29)] [.ref 30, .ref 29] cT98 cI99 3 5
  refine J.putR dX8_init_12 fX8_12 (show tK cT98 29 = 8 from rfl) rfl (Or.inl ⟨_, rfl⟩) (fun _ => rfl) (fun _ q h => by cases h; rfl) ?_
  show J (d + 2) mX8_init (PV _) 3 5 15 [some (.ref 29)] [] cT100 cI99 3 5
  exact J.vretQ dX8_init_15 rfl (by decide) (by decide) ⟨rfl, rfl⟩

def cT101 : Topo := setR cT100 16 3 29
def cT102 : Topo := newT cT101 8 0
def cI103 : IM := newI cI99 33
def cT104 : Topo := newT cT102 6 0
def cI105 : IM := newI cI103 34
def cT106 : Topo := newT cT104 13 0
def cI107 : IM := newI cI105 35
def cT108 : Topo := setR cT106 34 0 35
def cT109 : Topo := newT cT108 13 0
def cI110 : IM := newI cI107 36
def cT111 : Topo := setR cT109 34 1 36
def cI112 : IM := up2 cI110 34 2 (-1)
set_option maxHeartbeats 4000000 in
set_option maxRecDepth 100000 in
theorem ctor20 (d : Nat) : Ct (d + 1) mX6_init [.ref 34] cT104 cI105 2 0 (PV fun T_ I_ => T_ = cT111 ∧ I_ = cI112) := by
  refine Ct.ofJ (by decide +kernel) rfl (by intro v hv; revert v hv; simp [Value.category]) rfl ?_
  show J (d + 1) mX6_init (PV _) 2 0 0 [some (.ref 34)] [] cT104 cI105 0 0
  refine J.aload_n dX6_init_0 rfl rfl ?_
  refine J.objInit dX6_init_1 oiX6_3 oi_inst oi_code rfl (by omega) ?_
  refine J.aload_n dX6_init_4 rfl rfl ?_
  refine J.iconst (v := 0) dX6_init_5 (by decide) ?_
  refine J.newarr (κ := 13) (N := 0) dX6_init_6 arc_int rfl (by decide) (by decide) (by decide) (by decide) (by decide) (by decide) ?_
  show J (d + 1) mX6_init (PV _) 2 0 8 [some (.ref 34)] [.ref 35, .ref 34] cT106 cI107 1 0
  refine J.putR dX6_init_8 fX6_9 (show tK cT106 34 = 6 from rfl) rfl (Or.inr ⟨_, rfl⟩) (fun _ => rfl) (fun _ q h => by cases h; rfl) ?_
  show J (d + 1) mX6_init (PV _) 2 0 11 [some (.ref 34)] [] cT108 cI107 1 0
  refine J.aload_n dX6_init_11 rfl rfl ?_
  refine J.iconst (v := 0) dX6_init_12 (by decide) ?_
  refine J.newarr (κ := 13) (N := 0) dX6_init_13 arc_int rfl (by decide) (by decide) (by decide) (by decide) (by decide) (by decide) ?_
  show J (d + 1) mX6_init (PV _) 2 0 15 [some (.ref 34)] [.ref 36, .ref 34] cT109 cI110 2 0
  refine J.putR dX6_init_15 fX6_15 (show tK cT109 34 = 6 from rfl) rfl (Or.inr ⟨_, rfl⟩) (fun _ => rfl) (fun _ q h => by cases h; rfl) ?_
  show J (d + 1) mX6_init (PV _) 2 0 18 [some (.ref 34)] [] cT111 cI110 2 0
  refine J.aload_n dX6_init_18 rfl rfl ?_
  refine J.iconst (v := (-1)) dX6_init_19 (by decide) ?_
  refine J.putI dX6_init_20 fX6_18 (show tK cT111 34 = 6 from rfl) rfl ?_
  show J (d + 1) mX6_init (PV _) 2 0 23 [some (.ref 34)] [] cT111 cI112 2 0
  exact J.vretQ dX6_init_23 rfl (by decide) (by decide) ⟨rfl, rfl⟩

def cT113 : Topo := setR cT111 33 18 34
set_option maxHeartbeats 4000000 in
set_option maxRecDepth 100000 in
theorem ctor21 (d : Nat) : Ct (d + 2) mX8_init [.ref 33] cT102 cI103 3 5 (PV fun T_ I_ => T_ = cT113 ∧ I_ = cI112) := by
  refine Ct.ofJ (by decide +kernel) rfl (by intro v hv; revert v hv; simp [Value.category]) rfl ?_
  show J (d + 2) mX8_init (PV _) 3 5 0 [some (.ref 33)] [] cT102 cI103 0 0
  refine J.aload_n dX8_init_0 rfl rfl ?_
  refine J.objInit dX8_init_1 oiX8_3 oi_inst oi_code rfl (by omega) ?_
  refine J.aload_n dX8_init_4 rfl rfl ?_
  refine J.new (κ := 6) dX8_init_5 clX8_9 (by decide) (by decide) ?_
  show J (d + 2) mX8_init (PV _) 3 5 8 [some (.ref 33)] [.ref 34, .ref 33] cT104 cI105 1 5
  refine J.dup dX8_init_8 rfl ?_
  refine J.callIgV (k := 34) (as := []) (rest := [.ref 34, .ref 33]) (mc := 2) (ms := 0) dX8_init_9 kX6_init vX6_init lX8_11 rfl rfl rfl rfl (by omega) (by decide) (by decide) (ctor20 (d + 0)) (fun T_ I_ hq_ => ?_)
  obtain ⟨hq1_, hq2_⟩ := hq_
  subst hq1_; subst hq2_
  show J (d + 2) mX8_init (PV _) 3 5 12 [some (.ref 33)] [.ref 34, .ref 33] cT111 cI112 3 5
  refine J.putR dX8_init_12 fX8_12 (show tK cT111 33 = 8 from rfl) rfl (Or.inl ⟨_, rfl⟩) (fun _ => rfl) (fun _ q h => by cases h; rfl) ?_
  show J (d + 2) mX8_init (PV _) 3 5 15 [some (.ref 33)] [] cT113 cI112 3 5
  exact J.vretQ dX8_init_15 rfl (by decide) (by decide) ⟨rfl, rfl⟩

def cT114 : Topo := setR cT113 16 4 33
def cT115 : Topo := newT cT114 8 0
def cI116 : IM := newI cI112 37
def cT117 : Topo := newT cT115 6 0
def cI118 : IM := newI cI116 38
def cT119 : Topo := newT cT117 13 0
def cI120 : IM := newI cI118 39
def cT121 : Topo := setR cT119 38 0 39
def cT122 : Topo := newT cT121 13 0
def cI123 : IM := newI cI120 40
def cT124 : Topo := setR cT122 38 1 40
def cI125 : IM := up2 cI123 38 2 (-1)
set_option maxHeartbeats 4000000 in
set_option maxRecDepth 100000 in
theorem ctor22 (d : Nat) : Ct (d + 1) mX6_init [.ref 38] cT117 cI118 2 0 (PV fun T_ I_ => T_ = cT124 ∧ I_ = cI125) := by
  refine Ct.ofJ (by decide +kernel) rfl (by intro v hv; revert v hv; simp [Value.category]) rfl ?_
  show J (d + 1) mX6_init (PV _) 2 0 0 [some (.ref 38)] [] cT117 cI118 0 0
  refine J.aload_n dX6_init_0 rfl rfl ?_
  refine J.objInit dX6_init_1 oiX6_3 oi_inst oi_code rfl (by omega) ?_
  refine J.aload_n dX6_init_4 rfl rfl ?_
  refine J.iconst (v := 0) dX6_init_5 (by decide) ?_
  refine J.newarr (κ := 13) (N := 0) dX6_init_6 arc_int rfl (by decide) (by decide) (by decide) (by decide) (by decide) (by decide) ?_
  show J (d + 1) mX6_init (PV _) 2 0 8 [some (.ref 38)] [.ref 39, .ref 38] cT119 cI120 1 0
  refine J.putR dX6_init_8 fX6_9 (show tK cT119 38 = 6 from rfl) rfl (Or.inr ⟨_, rfl⟩) (fun _ => rfl) (fun _ q h => by cases h; rfl) ?_
  show J (d + 1) mX6_init (PV _) 2 0 11 [some (.ref 38)] [] cT121 cI120 1 0
  refine J.aload_n dX6_init_11 rfl rfl ?_
  refine J.iconst (v := 0) dX6_init_12 (by decide) ?_
  refine J.newarr (κ := 13) (N := 0) dX6_init_13 arc_int rfl (by decide) (by decide) (by decide) (by decide) (by decide) (by decide) ?_
  show J (d + 1) mX6_init (PV _) 2 0 15 [some (.ref 38)] [.ref 40, .ref 38] cT122 cI123 2 0
  refine J.putR dX6_init_15 fX6_15 (show tK cT122 38 = 6 from rfl) rfl (Or.inr ⟨_, rfl⟩) (fun _ => rfl) (fun _ q h => by cases h; rfl) ?_
  show J (d + 1) mX6_init (PV _) 2 0 18 [some (.ref 38)] [] cT124 cI123 2 0
  refine J.aload_n dX6_init_18 rfl rfl ?_
  refine J.iconst (v := (-1)) dX6_init_19 (by decide) ?_
  refine J.putI dX6_init_20 fX6_18 (show tK cT124 38 = 6 from rfl) rfl ?_
  show J (d + 1) mX6_init (PV _) 2 0 23 [some (.ref 38)] [] cT124 cI125 2 0
  exact J.vretQ dX6_init_23 rfl (by decide) (by decide) ⟨rfl, rfl⟩

def cT126 : Topo := setR cT124 37 18 38
set_option maxHeartbeats 4000000 in
set_option maxRecDepth 100000 in
theorem ctor23 (d : Nat) : Ct (d + 2) mX8_init [.ref 37] cT115 cI116 3 5 (PV fun T_ I_ => T_ = cT126 ∧ I_ = cI125) := by
  refine Ct.ofJ (by decide +kernel) rfl (by intro v hv; revert v hv; simp [Value.category]) rfl ?_
  show J (d + 2) mX8_init (PV _) 3 5 0 [some (.ref 37)] [] cT115 cI116 0 0
  refine J.aload_n dX8_init_0 rfl rfl ?_
  refine J.objInit dX8_init_1 oiX8_3 oi_inst oi_code rfl (by omega) ?_
  refine J.aload_n dX8_init_4 rfl rfl ?_
  refine J.new (κ := 6) dX8_init_5 clX8_9 (by decide) (by decide) ?_
  show J (d + 2) mX8_init (PV _) 3 5 8 [some (.ref 37)] [.ref 38, .ref 37] cT117 cI118 1 5
  refine J.dup dX8_init_8 rfl ?_
  refine J.callIgV (k := 38) (as := []) (rest := [.ref 38, .ref 37]) (mc := 2) (ms := 0) dX8_init_9 kX6_init vX6_init lX8_11 rfl rfl rfl rfl (by omega) (by decide) (by decide) (ctor22 (d + 0)) (fun T_ I_ hq_ => ?_)
  obtain ⟨hq1_, hq2_⟩ := hq_
  subst hq1_; subst hq2_
  show J (d + 2) mX8_init (PV _) 3 5 12 [some (.ref 37)] [.ref 38, .ref 37] cT124 cI125 3 5
  refine J.putR dX8_init_12 fX8_12 (show tK cT124 37 = 8 from rfl) rfl (Or.inl ⟨_, rfl⟩) (fun _ => rfl) (fun _ q h => by cases h; rfl) ?_
  show J (d + 2) mX8_init (PV _) 3 5 15 [some (.ref 37)] [] cT126 cI125 3 5
  exact J.vretQ dX8_init_15 rfl (by decide) (by decide) ⟨rfl, rfl⟩

def cT127 : Topo := setR cT126 16 5 37
def cT128 : Topo := newT cT127 8 0
def cI129 : IM := newI cI125 41
def cT130 : Topo := newT cT128 6 0
def cI131 : IM := newI cI129 42
def cT132 : Topo := newT cT130 13 0
def cI133 : IM := newI cI131 43
def cT134 : Topo := setR cT132 42 0 43
def cT135 : Topo := newT cT134 13 0
def cI136 : IM := newI cI133 44
def cT137 : Topo := setR cT135 42 1 44
def cI138 : IM := up2 cI136 42 2 (-1)
set_option maxHeartbeats 4000000 in
set_option maxRecDepth 100000 in
theorem ctor24 (d : Nat) : Ct (d + 1) mX6_init [.ref 42] cT130 cI131 2 0 (PV fun T_ I_ => T_ = cT137 ∧ I_ = cI138) := by
  refine Ct.ofJ (by decide +kernel) rfl (by intro v hv; revert v hv; simp [Value.category]) rfl ?_
  show J (d + 1) mX6_init (PV _) 2 0 0 [some (.ref 42)] [] cT130 cI131 0 0
  refine J.aload_n dX6_init_0 rfl rfl ?_
  refine J.objInit dX6_init_1 oiX6_3 oi_inst oi_code rfl (by omega) ?_
  refine J.aload_n dX6_init_4 rfl rfl ?_
  refine J.iconst (v := 0) dX6_init_5 (by decide) ?_
  refine J.newarr (κ := 13) (N := 0) dX6_init_6 arc_int rfl (by decide) (by decide) (by decide) (by decide) (by decide) (by decide) ?_
  show J (d + 1) mX6_init (PV _) 2 0 8 [some (.ref 42)] [.ref 43, .ref 42] cT132 cI133 1 0
  refine J.putR dX6_init_8 fX6_9 (show tK cT132 42 = 6 from rfl) rfl (Or.inr ⟨_, rfl⟩) (fun _ => rfl) (fun _ q h => by cases h; rfl) ?_
  show J (d + 1) mX6_init (PV _) 2 0 11 [some (.ref 42)] [] cT134 cI133 1 0
  refine J.aload_n dX6_init_11 rfl rfl ?_
  refine J.iconst (v := 0) dX6_init_12 (by decide) ?_
  refine J.newarr (κ := 13) (N := 0) dX6_init_13 arc_int rfl (by decide) (by decide) (by decide) (by decide) (by decide) (by decide) ?_
  show J (d + 1) mX6_init (PV _) 2 0 15 [some (.ref 42)] [.ref 44, .ref 42] cT135 cI136 2 0
  refine J.putR dX6_init_15 fX6_15 (show tK cT135 42 = 6 from rfl) rfl (Or.inr ⟨_, rfl⟩) (fun _ => rfl) (fun _ q h => by cases h; rfl) ?_
  show J (d + 1) mX6_init (PV _) 2 0 18 [some (.ref 42)] [] cT137 cI136 2 0
  refine J.aload_n dX6_init_18 rfl rfl ?_
  refine J.iconst (v := (-1)) dX6_init_19 (by decide) ?_
  refine J.putI dX6_init_20 fX6_18 (show tK cT137 42 = 6 from rfl) rfl ?_
  show J (d + 1) mX6_init (PV _) 2 0 23 [some (.ref 42)] [] cT137 cI138 2 0
  exact J.vretQ dX6_init_23 rfl (by decide) (by decide) ⟨rfl, rfl⟩

def cT139 : Topo := setR cT137 41 18 42
set_option maxHeartbeats 4000000 in
set_option maxRecDepth 100000 in
theorem ctor25 (d : Nat) : Ct (d + 2) mX8_init [.ref 41] cT128 cI129 3 5 (PV fun T_ I_ => T_ = cT139 ∧ I_ = cI138) := by
  refine Ct.ofJ (by decide +kernel) rfl (by intro v hv; revert v hv; simp [Value.category]) rfl ?_
  show J (d + 2) mX8_init (PV _) 3 5 0 [some (.ref 41)] [] cT128 cI129 0 0
  refine J.aload_n dX8_init_0 rfl rfl ?_
  refine J.objInit dX8_init_1 oiX8_3 oi_inst oi_code rfl (by omega) ?_
  refine J.aload_n dX8_init_4 rfl rfl ?_
  refine J.new (κ := 6) dX8_init_5 clX8_9 (by decide) (by decide) ?_
  show J (d + 2) mX8_init (PV _) 3 5 8 [some (.ref 41)] [.ref 42, .ref 41] cT130 cI131 1 5
  refine J.dup dX8_init_8 rfl ?_
  refine J.callIgV (k := 42) (as := []) (rest := [.ref 42, .ref 41]) (mc := 2) (ms := 0) dX8_init_9 kX6_init vX6_init lX8_11 rfl rfl rfl rfl (by omega) (by decide) (by decide) (ctor24 (d + 0)) (fun T_ I_ hq_ => ?_)
  obtain ⟨hq1_, hq2_⟩ := hq_
  subst hq1_; subst hq2_
  show J (d + 2) mX8_init (PV _) 3 5 12 [some (.ref 41)] [.ref 42, .ref 41] cT137 cI138 3 5
  refine J.putR dX8_init_12 fX8_12 (show tK cT137 41 = 8 from rfl) rfl (Or.inl ⟨_, rfl⟩) (fun _ => rfl) (fun _ q h => by cases h; rfl) ?_
  show J (d + 2) mX8_init (PV _) 3 5 15 [some (.ref 41)] [] cT139 cI138 3 5
  exact J.vretQ dX8_init_15 rfl (by decide) (by decide) ⟨rfl, rfl⟩

def cT140 : Topo := setR cT139 16 6 41
def cT141 : Topo := newT cT140 8 0
def cI142 : IM := newI cI138 45
def cT143 : Topo := newT cT141 6 0
def cI144 : IM := newI cI142 46
def cT145 : Topo := newT cT143 13 0
def cI146 : IM := newI cI144 47
def cT147 : Topo := setR cT145 46 0 47
def cT148 : Topo := newT cT147 13 0
def cI149 : IM := newI cI146 48
def cT150 : Topo := setR cT148 46 1 48
def cI151 : IM := up2 cI149 46 2 (-1)
set_option maxHeartbeats 4000000 in
set_option maxRecDepth 100000 in
theorem ctor26 (d : Nat) : Ct (d + 1) mX6_init [.ref 46] cT143 cI144 2 0 (PV fun T_ I_ => T_ = cT150 ∧ I_ = cI151) := by
  refine Ct.ofJ (by decide +kernel) rfl (by intro v hv; revert v hv; simp [Value.category]) rfl ?_
  show J (d + 1) mX6_init (PV _) 2 0 0 [some (.ref 46)] [] cT143 cI144 0 0
  refine J.aload_n dX6_init_0 rfl rfl ?_
  refine J.objInit dX6_init_1 oiX6_3 oi_inst oi_code rfl (by omega) ?_
  refine J.aload_n dX6_init_4 rfl rfl ?_
  refine J.iconst (v := 0) dX6_init_5 (by decide) ?_
  refine J.newarr (κ := 13) (N := 0) dX6_init_6 arc_int rfl (by decide) (by decide) (by decide) (by decide) (by decide) (by decide) ?_
  show J (d + 1) mX6_init (PV _) 2 0 8 [some (.ref 46)] [.ref 47, .ref 46] cT145 cI146 1 0
  refine J.putR dX6_init_8 fX6_9 (show tK cT145 46 = 6 from rfl) rfl (Or.inr ⟨_, rfl⟩) (fun _ => rfl) (fun _ q h => by cases h; rfl) ?_
  show J (d + 1) mX6_init (PV _) 2 0 11 [some (.ref 46)] [] cT147 cI146 1 0
  refine J.aload_n dX6_init_11 rfl rfl ?_
  refine J.iconst (v := 0) dX6_init_12 (by decide) ?_
  refine J.newarr (κ := 13) (N := 0) dX6_init_13 arc_int rfl (by decide) (by decide) (by decide) (by decide) (by decide) (by decide) ?_
  show J (d + 1) mX6_init (PV _) 2 0 15 [some (.ref 46)] [.ref 48, .ref 46] cT148 cI149 2 0
  refine J.putR dX6_init_15 fX6_15 (show tK cT148 46 = 6 from rfl) rfl (Or.inr ⟨_, rfl⟩) (fun _ => rfl) (fun _ q h => by cases h; rfl) ?_
  show J (d + 1) mX6_init (PV _) 2 0 18 [some (.ref 46)] [] cT150 cI149 2 0
  refine J.aload_n dX6_init_18 rfl rfl ?_
  refine J.iconst (v := (-1)) dX6_init_19 (by decide) ?_
  refine J.putI dX6_init_20 fX6_18 (show tK cT150 46 = 6 from rfl) rfl ?_
  show J (d + 1) mX6_init (PV _) 2 0 23 [some (.ref 46)] [] cT150 cI151 2 0
  exact J.vretQ dX6_init_23 rfl (by decide) (by decide) ⟨rfl, rfl⟩

def cT152 : Topo := setR cT150 45 18 46
set_option maxHeartbeats 4000000 in
set_option maxRecDepth 100000 in
theorem ctor27 (d : Nat) : Ct (d + 2) mX8_init [.ref 45] cT141 cI142 3 5 (PV fun T_ I_ => T_ = cT152 ∧ I_ = cI151) := by
  refine Ct.ofJ (by decide +kernel) rfl (by intro v hv; revert v hv; simp [Value.category]) rfl ?_
  show J (d + 2) mX8_init (PV _) 3 5 0 [some (.ref 45)] [] cT141 cI142 0 0
  refine J.aload_n dX8_init_0 rfl rfl ?_
  refine J.objInit dX8_init_1 oiX8_3 oi_inst oi_code rfl (by omega) ?_
  refine J.aload_n dX8_init_4 rfl rfl ?_
  refine J.new (κ := 6) dX8_init_5 clX8_9 (by decide) (by decide) ?_
  show J (d + 2) mX8_init (PV _) 3 5 8 [some (.ref 45)] [.ref 46, .ref 45] cT143 cI144 1 5
  refine J.dup dX8_init_8 rfl ?_
  refine J.callIgV (k := 46) (as := []) (rest := [.ref 46, .ref 45]) (mc := 2) (ms := 0) dX8_init_9 kX6_init vX6_init lX8_11 rfl rfl rfl rfl (by omega) (by decide) (by decide) (ctor26 (d + 0)) (fun T_ I_ hq_ => ?_)
  obtain ⟨hq1_, hq2_⟩ := hq_
  subst hq1_; subst hq2_
  show J (d + 2) mX8_init (PV _) 3 5 12 [some (.ref 45)] [.ref 46, .ref 45] cT150 cI151 3 5
  refine J.putR dX8_init_12 fX8_12 (show tK cT150 45 = 8 from rfl) rfl (Or.inl ⟨_, rfl⟩) (fun _ => rfl) (fun _ q h => by cases h; rfl) ?_
  show J (d + 2) mX8_init (PV _) 3 5 15 [some (.ref 45)] [] cT152 cI151 3 5
  exact J.vretQ dX8_init_15 rfl (by decide) (by decide) ⟨rfl, rfl⟩

def cT153 : Topo := setR cT152 16 7 45
set_option maxHeartbeats 4000000 in
set_option maxRecDepth 100000 in
theorem ctor28 (d : Nat) : Ct (d + 3) mX9_init [.ref 15] cT45 cI46 33 200 (PV fun T_ I_ => T_ = cT153 ∧ I_ = cI151) := by
  refine Ct.ofJ (by decide +kernel) rfl (by intro v hv; revert v hv; simp [Value.category]) rfl ?_
  show J (d + 3) mX9_init (PV _) 33 200 0 [some (.ref 15), none] [] cT45 cI46 0 0
  refine J.aload_n dX9_init_0 rfl rfl ?_
  refine J.objInit dX9_init_1 oiX9_3 oi_inst oi_code rfl (by omega) ?_
  refine J.aload_n dX9_init_4 rfl rfl ?_
  refine J.bipush (v := 8) dX9_init_5 (by decide) ?_
  refine J.anew (κ := 17) (N := 8) dX9_init_7 caX9_9 aoX8 rfl (by decide) (by decide) (by decide) (by decide) (by decide) (by decide) ?_
  show J (d + 3) mX9_init (PV _) 33 200 10 [some (.ref 15), none] [.ref 16, .ref 15] cT47 cI48 1 8
  refine J.putR dX9_init_10 fX9_11 (show tK cT47 15 = 9 from rfl) rfl (Or.inr ⟨_, rfl⟩) (fun _ => rfl) (fun _ q h => by cases h; rfl) ?_
  show J (d + 3) mX9_init (PV _) 33 200 13 [some (.ref 15), none] [] cT49 cI48 1 8
  refine J.iconst (v := 0) dX9_init_13 (by decide) ?_
  refine J.istore_n (ls' := [some (.ref 15), some (.int 0)]) dX9_init_14 rfl rfl rfl ?_
  refine J.iload_n dX9_init_15 rfl rfl ?_
  refine J.bipush (v := 8) dX9_init_16 (by decide) ?_
  refine J.icmp_ge (tgt := 40) dX9_init_18 (by decide) (fun hc => absurd hc (by decide)) (fun hc => ?_)
  refine J.aload_n dX9_init_21 rfl rfl ?_
  refine J.getR (r := 16) dX9_init_22 fX9_11 (show tK cT49 15 = 9 from rfl) rfl (show tR cT49 15 0 = some 16 from rfl) ?_
  refine J.iload_n dX9_init_25 rfl rfl ?_
  refine J.new (κ := 8) dX9_init_26 clX9_9 (by decide) (by decide) ?_
  show J (d + 3) mX9_init (PV _) 33 200 29 [some (.ref 15), some (.int 0)] [.ref 17, .int 0, .ref 16] cT50 cI51 2 27
  refine J.dup dX9_init_29 rfl ?_
  refine J.callIgV (k := 17) (as := []) (rest := [.ref 17, .int 0, .ref 16]) (mc := 3) (ms := 5) dX9_init_30 kX8_init vX8_init lX9_17 rfl rfl rfl rfl (by omega) (by decide) (by decide) (ctor13 (d + 0)) (fun T_ I_ hq_ => ?_)
  obtain ⟨hq1_, hq2_⟩ := hq_
  subst hq1_; subst hq2_
  show J (d + 3) mX9_init (PV _) 33 200 33 [some (.ref 15), some (.int 0)] [.ref 17, .int 0, .ref 16] cT61 cI60 5 32
  refine J.aastore (κ := 8) dX9_init_33 (show 15 ≤ tK cT61 16 by decide +kernel) rfl (show aTy (tK cT61 16) = _ from rfl) (show tK cT61 17 = 8 from rfl) (vp_in_nI (n := 0) (show 0 < tL cT61 16 by decide +kernel) (show tL cT61 16 < 2 ^ 31 by decide +kernel)) ?_
  show J (d + 3) mX9_init (PV _) 33 200 34 [some (.ref 15), some (.int 0)] [] cT62 cI60 5 32
  refine J.iinc (v := 1) (ls' := [some (.ref 15), some (.int 1)]) dX9_init_34 rfl (by decide) rfl ?_
  refine J.goto (tgt := 15) dX9_init_37 (by decide) ?_
  refine J.iload_n dX9_init_15 rfl rfl ?_
  refine J.bipush (v := 8) dX9_init_16 (by decide) ?_
  refine J.icmp_ge (tgt := 40) dX9_init_18 (by decide) (fun hc => absurd hc (by decide)) (fun hc => ?_)
  refine J.aload_n dX9_init_21 rfl rfl ?_
  refine J.getR (r := 16) dX9_init_22 fX9_11 (show tK cT62 15 = 9 from rfl) rfl (show tR cT62 15 0 = some 16 from rfl) ?_
  refine J.iload_n dX9_init_25 rfl rfl ?_
  refine J.new (κ := 8) dX9_init_26 clX9_9 (by decide) (by decide) ?_
  show J (d + 3) mX9_init (PV _) 33 200 29 [some (.ref 15), some (.int 1)] [.ref 21, .int 1, .ref 16] cT63 cI64 6 51
  refine J.dup dX9_init_29 rfl ?_
  refine J.callIgV (k := 21) (as := []) (rest := [.ref 21, .int 1, .ref 16]) (mc := 3) (ms := 5) dX9_init_30 kX8_init vX8_init lX9_17 rfl rfl rfl rfl (by omega) (by decide) (by decide) (ctor15 (d + 0)) (fun T_ I_ hq_ => ?_)
  obtain ⟨hq1_, hq2_⟩ := hq_
  subst hq1_; subst hq2_
  show J (d + 3) mX9_init (PV _) 33 200 33 [some (.ref 15), some (.int 1)] [.ref 21, .int 1, .ref 16] cT74 cI73 9 56
  refine J.aastore (κ := 8) dX9_init_33 (show 15 ≤ tK cT74 16 by decide +kernel) rfl (show aTy (tK cT74 16) = _ from rfl) (show tK cT74 21 = 8 from rfl) (vp_in_nI (n := 1) (show 1 < tL cT74 16 by decide +kernel) (show tL cT74 16 < 2 ^ 31 by decide +kernel)) ?_
  show J (d + 3) mX9_init (PV _) 33 200 34 [some (.ref 15), some (.int 1)] [] cT75 cI73 9 56
  refine J.iinc (v := 2) (ls' := [some (.ref 15), some (.int 2)]) dX9_init_34 rfl (by decide) rfl ?_
  refine J.goto (tgt := 15) dX9_init_37 (by decide) ?_
  refine J.iload_n dX9_init_15 rfl rfl ?_
  refine J.bipush (v := 8) dX9_init_16 (by decide) ?_
  refine J.icmp_ge (tgt := 40) dX9_init_18 (by decide) (fun hc => absurd hc (by decide)) (fun hc => ?_)
  refine J.aload_n dX9_init_21 rfl rfl ?_
  refine J.getR (r := 16) dX9_init_22 fX9_11 (show tK cT75 15 = 9 from rfl) rfl (show tR cT75 15 0 = some 16 from rfl) ?_
  refine J.iload_n dX9_init_25 rfl rfl ?_
  refine J.new (κ := 8) dX9_init_26 clX9_9 (by decide) (by decide) ?_
  show J (d + 3) mX9_init (PV _) 33 200 29 [some (.ref 15), some (.int 2)] [.ref 25, .int 2, .ref 16] cT76 cI77 10 75
  refine J.dup dX9_init_29 rfl ?_
  refine J.callIgV (k := 25) (as := []) (rest := [.ref 25, .int 2, .ref 16]) (mc := 3) (ms := 5) dX9_init_30 kX8_init vX8_init lX9_17 rfl rfl rfl rfl (by omega) (by decide) (by decide) (ctor17 (d + 0)) (fun T_ I_ hq_ => ?_)
  obtain ⟨hq1_, hq2_⟩ := hq_
  subst hq1_; subst hq2_
  show J (d + 3) mX9_init (PV _) 33 200 33 [some (.ref 15), some (.int 2)] [.ref 25, .int 2, .ref 16] cT87 cI86 13 80
  refine J.aastore (κ := 8) dX9_init_33 (show 15 ≤ tK cT87 16 by decide +kernel) rfl (show aTy (tK cT87 16) = _ from rfl) (show tK cT87 25 = 8 from rfl) (vp_in_nI (n := 2) (show 2 < tL cT87 16 by decide +kernel) (show tL cT87 16 < 2 ^ 31 by decide +kernel)) ?_
  show J (d + 3) mX9_init (PV _) 33 200 34 [some (.ref 15), some (.int 2)] [] cT88 cI86 13 80
  refine J.iinc (v := 3) (ls' := [some (.ref 15), some (.int 3)]) dX9_init_34 rfl (by decide) rfl ?_
  refine J.goto (tgt := 15) dX9_init_37 (by decide) ?_
  refine J.iload_n dX9_init_15 rfl rfl ?_
  refine J.bipush (v := 8) dX9_init_16 (by decide) ?_
  refine J.icmp_ge (tgt := 40) dX9_init_18 (by decide) (fun hc => absurd hc (by decide)) (fun hc => ?_)
  refine J.aload_n dX9_init_21 rfl rfl ?_
  refine J.getR (r := 16) dX9_init_22 fX9_11 (show tK cT88 15 = 9 from rfl) rfl (show tR cT88 15 0 = some 16 from rfl) ?_
  refine J.iload_n dX9_init_25 rfl rfl ?_
  refine J.new (κ := 8) dX9_init_26 clX9_9 (by decide) (by decide) ?_
  show J (d + 3) mX9_init (PV _) 33 200 29 [some (.ref 15), some (.int 3)] [.ref 29, .int 3, .ref 16] cT89 cI90 14 99
  refine J.dup dX9_init_29 rfl ?_
  refine J.callIgV (k := 29) (as := []) (rest := [.ref 29, .int 3, .ref 16]) (mc := 3) (ms := 5) dX9_init_30 kX8_init vX8_init lX9_17 rfl rfl rfl rfl (by omega) (by decide) (by decide) (ctor19 (d + 0)) (fun T_ I_ hq_ => ?_)
  obtain ⟨hq1_, hq2_⟩ := hq_
  subst hq1_; subst hq2_
  show J (d + 3) mX9_init (PV _) 33 200 33 [some (.ref 15), some (.int 3)] [.ref 29, .int 3, .ref 16] cT100 cI99 17 104
  refine J.aastore (κ := 8) dX9_init_33 (show 15 ≤ tK cT100 16 by decide +kernel) rfl (show aTy (tK cT100 16) = _ from rfl) (show tK cT100 29 = 8 from rfl) (vp_in_nI (n := 3) (show 3 < tL cT100 16 by decide +kernel) (show tL cT100 16 < 2 ^ 31 by decide +kernel)) ?_
  show J (d + 3) mX9_init (PV _) 33 200 34 [some (.ref 15), some (.int 3)] [] cT101 cI99 17 104
  refine J.iinc (v := 4) (ls' := [some (.ref 15), some (.int 4)]) dX9_init_34 rfl (by decide) rfl ?_
  refine J.goto (tgt := 15) dX9_init_37 (by decide) ?_
  refine J.iload_n dX9_init_15 rfl rfl ?_
  refine J.bipush (v := 8) dX9_init_16 (by decide) ?_
  refine J.icmp_ge (tgt := 40) dX9_init_18 (by decide) (fun hc => absurd hc (by decide)) (fun hc => ?_)
  refine J.aload_n dX9_init_21 rfl rfl ?_
  refine J.getR (r := 16) dX9_init_22 fX9_11 (show tK cT101 15 = 9 from rfl) rfl (show tR cT101 15 0 = some 16 from rfl) ?_
  refine J.iload_n dX9_init_25 rfl rfl ?_
  refine J.new (κ := 8) dX9_init_26 clX9_9 (by decide) (by decide) ?_
  show J (d + 3) mX9_init (PV _) 33 200 29 [some (.ref 15), some (.int 4)] [.ref 33, .int 4, .ref 16] cT102 cI103 18 123
  refine J.dup dX9_init_29 rfl ?_
  refine J.callIgV (k := 33) (as := []) (rest := [.ref 33, .int 4, .ref 16]) (mc := 3) (ms := 5) dX9_init_30 kX8_init vX8_init lX9_17 rfl rfl rfl rfl (by omega) (by decide) (by decide) (ctor21 (d + 0)) (fun T_ I_ hq_ => ?_)
  obtain ⟨hq1_, hq2_⟩ := hq_
  subst hq1_; subst hq2_
  show J (d + 3) mX9_init (PV _) 33 200 33 [some (.ref 15), some (.int 4)] [.ref 33, .int 4, .ref 16] cT113 cI112 21 128
  refine J.aastore (κ := 8) dX9_init_33 (show 15 ≤ tK cT113 16 by decide +kernel) rfl (show aTy (tK cT113 16) = _ from rfl) (show tK cT113 33 = 8 from rfl) (vp_in_nI (n := 4) (show 4 < tL cT113 16 by decide +kernel) (show tL cT113 16 < 2 ^ 31 by decide +kernel)) ?_
  show J (d + 3) mX9_init (PV _) 33 200 34 [some (.ref 15), some (.int 4)] [] cT114 cI112 21 128
  refine J.iinc (v := 5) (ls' := [some (.ref 15), some (.int 5)]) dX9_init_34 rfl (by decide) rfl ?_
  refine J.goto (tgt := 15) dX9_init_37 (by decide) ?_
  refine J.iload_n dX9_init_15 rfl rfl ?_
  refine J.bipush (v := 8) dX9_init_16 (by decide) ?_
  refine J.icmp_ge (tgt := 40) dX9_init_18 (by decide) (fun hc => absurd hc (by decide)) (fun hc => ?_)
  refine J.aload_n dX9_init_21 rfl rfl ?_
  refine J.getR (r := 16) dX9_init_22 fX9_11 (show tK cT114 15 = 9 from rfl) rfl (show tR cT114 15 0 = some 16 from rfl) ?_
  refine J.iload_n dX9_init_25 rfl rfl ?_
  refine J.new (κ := 8) dX9_init_26 clX9_9 (by decide) (by decide) ?_
  show J (d + 3) mX9_init (PV _) 33 200 29 [some (.ref 15), some (.int 5)] [.ref 37, .int 5, .ref 16] cT115 cI116 22 147
  refine J.dup dX9_init_29 rfl ?_
  refine J.callIgV (k := 37) (as := []) (rest := [.ref 37, .int 5, .ref 16]) (mc := 3) (ms := 5) dX9_init_30 kX8_init vX8_init lX9_17 rfl rfl rfl rfl (by omega) (by decide) (by decide) (ctor23 (d + 0)) (fun T_ I_ hq_ => ?_)
  obtain ⟨hq1_, hq2_⟩ := hq_
  subst hq1_; subst hq2_
  show J (d + 3) mX9_init (PV _) 33 200 33 [some (.ref 15), some (.int 5)] [.ref 37, .int 5, .ref 16] cT126 cI125 25 152
  refine J.aastore (κ := 8) dX9_init_33 (show 15 ≤ tK cT126 16 by decide +kernel) rfl (show aTy (tK cT126 16) = _ from rfl) (show tK cT126 37 = 8 from rfl) (vp_in_nI (n := 5) (show 5 < tL cT126 16 by decide +kernel) (show tL cT126 16 < 2 ^ 31 by decide +kernel)) ?_
  show J (d + 3) mX9_init (PV _) 33 200 34 [some (.ref 15), some (.int 5)] [] cT127 cI125 25 152
  refine J.iinc (v := 6) (ls' := [some (.ref 15), some (.int 6)]) dX9_init_34 rfl (by decide) rfl ?_
  refine J.goto (tgt := 15) dX9_init_37 (by decide) ?_
  refine J.iload_n dX9_init_15 rfl rfl ?_
  refine J.bipush (v := 8) dX9_init_16 (by decide) ?_
  refine J.icmp_ge (tgt := 40) dX9_init_18 (by decide) (fun hc => absurd hc (by decide)) (fun hc => ?_)
  refine J.aload_n dX9_init_21 rfl rfl ?_
  refine J.getR (r := 16) dX9_init_22 fX9_11 (show tK cT127 15 = 9 from rfl) rfl (show tR cT127 15 0 = some 16 from rfl) ?_
  refine J.iload_n dX9_init_25 rfl rfl ?_
  refine J.new (κ := 8) dX9_init_26 clX9_9 (by decide) (by decide) ?_
  show J (d + 3) mX9_init (PV _) 33 200 29 [some (.ref 15), some (.int 6)] [.ref 41, .int 6, .ref 16] cT128 cI129 26 171
  refine J.dup dX9_init_29 rfl ?_
  refine J.callIgV (k := 41) (as := []) (rest := [.ref 41, .int 6, .ref 16]) (mc := 3) (ms := 5) dX9_init_30 kX8_init vX8_init lX9_17 rfl rfl rfl rfl (by omega) (by decide) (by decide) (ctor25 (d + 0)) (fun T_ I_ hq_ => ?_)
  obtain ⟨hq1_, hq2_⟩ := hq_
  subst hq1_; subst hq2_
  show J (d + 3) mX9_init (PV _) 33 200 33 [some (.ref 15), some (.int 6)] [.ref 41, .int 6, .ref 16] cT139 cI138 29 176
  refine J.aastore (κ := 8) dX9_init_33 (show 15 ≤ tK cT139 16 by decide +kernel) rfl (show aTy (tK cT139 16) = _ from rfl) (show tK cT139 41 = 8 from rfl) (vp_in_nI (n := 6) (show 6 < tL cT139 16 by decide +kernel) (show tL cT139 16 < 2 ^ 31 by decide +kernel)) ?_
  show J (d + 3) mX9_init (PV _) 33 200 34 [some (.ref 15), some (.int 6)] [] cT140 cI138 29 176
  refine J.iinc (v := 7) (ls' := [some (.ref 15), some (.int 7)]) dX9_init_34 rfl (by decide) rfl ?_
  refine J.goto (tgt := 15) dX9_init_37 (by decide) ?_
  refine J.iload_n dX9_init_15 rfl rfl ?_
  refine J.bipush (v := 8) dX9_init_16 (by decide) ?_
  refine J.icmp_ge (tgt := 40) dX9_init_18 (by decide) (fun hc => absurd hc (by decide)) (fun hc => ?_)
  refine J.aload_n dX9_init_21 rfl rfl ?_
  refine J.getR (r := 16) dX9_init_22 fX9_11 (show tK cT140 15 = 9 from rfl) rfl (show tR cT140 15 0 = some 16 from rfl) ?_
  refine J.iload_n dX9_init_25 rfl rfl ?_
  refine J.new (κ := 8) dX9_init_26 clX9_9 (by decide) (by decide) ?_
  show J (d + 3) mX9_init (PV _) 33 200 29 [some (.ref 15), some (.int 7)] [.ref 45, .int 7, .ref 16] cT141 cI142 30 195
  refine J.dup dX9_init_29 rfl ?_
  refine J.callIgV (k := 45) (as := []) (rest := [.ref 45, .int 7, .ref 16]) (mc := 3) (ms := 5) dX9_init_30 kX8_init vX8_init lX9_17 rfl rfl rfl rfl (by omega) (by decide) (by decide) (ctor27 (d + 0)) (fun T_ I_ hq_ => ?_)
  obtain ⟨hq1_, hq2_⟩ := hq_
  subst hq1_; subst hq2_
  show J (d + 3) mX9_init (PV _) 33 200 33 [some (.ref 15), some (.int 7)] [.ref 45, .int 7, .ref 16] cT152 cI151 33 200
  refine J.aastore (κ := 8) dX9_init_33 (show 15 ≤ tK cT152 16 by decide +kernel) rfl (show aTy (tK cT152 16) = _ from rfl) (show tK cT152 45 = 8 from rfl) (vp_in_nI (n := 7) (show 7 < tL cT152 16 by decide +kernel) (show tL cT152 16 < 2 ^ 31 by decide +kernel)) ?_
  show J (d + 3) mX9_init (PV _) 33 200 34 [some (.ref 15), some (.int 7)] [] cT153 cI151 33 200
  refine J.iinc (v := 8) (ls' := [some (.ref 15), some (.int 8)]) dX9_init_34 rfl (by decide) rfl ?_
  refine J.goto (tgt := 15) dX9_init_37 (by decide) ?_
  refine J.iload_n dX9_init_15 rfl rfl ?_
  refine J.bipush (v := 8) dX9_init_16 (by decide) ?_
  refine J.icmp_ge (tgt := 40) dX9_init_18 (by decide) (fun hc => ?_) (fun hc => absurd (by decide) hc)
  exact J.vretQ dX9_init_40 rfl (by decide) (by decide) ⟨rfl, rfl⟩

def cT154 : Topo := setR cT153 0 0 1
def cT155 : Topo := setR cT154 0 1 15
def cT156 : Topo := newT cT155 0 0
def cI157 : IM := newI cI151 49
def cT158 : Topo := newT cT156 13 216
def cI159 : IM := newI cI157 50
def cT160 : Topo := setR cT158 49 0 50
def cT161 : Topo := newT cT160 13 216
def cI162 : IM := newI cI159 51
def cT163 : Topo := setR cT161 49 1 51
def cT164 : Topo := newT cT163 13 1944
def cI165 : IM := newI cI162 52
def cT166 : Topo := setR cT164 49 2 52
def cT167 : Topo := newT cT166 13 144
def cI168 : IM := newI cI165 53
def cT169 : Topo := setR cT167 49 3 53
def cI170 : IM := up2 cI168 49 4 24
set_option maxHeartbeats 4000000 in
set_option maxRecDepth 100000 in
theorem ctor29 (d : Nat) : Ct (d + 1) mX0_init [.ref 49] cT156 cI157 4 2520 (PV fun T_ I_ => T_ = cT169 ∧ I_ = cI170) := by
  refine Ct.ofJ (by decide +kernel) rfl (by intro v hv; revert v hv; simp [Value.category]) rfl ?_
  show J (d + 1) mX0_init (PV _) 4 2520 0 [some (.ref 49)] [] cT156 cI157 0 0
  refine J.aload_n dX0_init_0 rfl rfl ?_
  refine J.objInit dX0_init_1 oiX0_3 oi_inst oi_code rfl (by omega) ?_
  refine J.aload_n dX0_init_4 rfl rfl ?_
  refine J.sipush (v := 216) dX0_init_5 (by decide) ?_
  refine J.newarr (κ := 13) (N := 216) dX0_init_8 arc_int rfl (by decide) (by decide) (by decide) (by decide) (by decide) (by decide) ?_
  show J (d + 1) mX0_init (PV _) 4 2520 10 [some (.ref 49)] [.ref 50, .ref 49] cT158 cI159 1 216
  refine J.putR dX0_init_10 fX0_9 (show tK cT158 49 = 0 from rfl) rfl (Or.inr ⟨_, rfl⟩) (fun _ => rfl) (fun _ q h => by cases h; rfl) ?_
  show J (d + 1) mX0_init (PV _) 4 2520 13 [some (.ref 49)] [] cT160 cI159 1 216
  refine J.aload_n dX0_init_13 rfl rfl ?_
  refine J.sipush (v := 216) dX0_init_14 (by decide) ?_
  refine J.newarr (κ := 13) (N := 216) dX0_init_17 arc_int rfl (by decide) (by decide) (by decide) (by decide) (by decide) (by decide) ?_
  show J (d + 1) mX0_init (PV _) 4 2520 19 [some (.ref 49)] [.ref 51, .ref 49] cT161 cI162 2 432
  refine J.putR dX0_init_19 fX0_15 (show tK cT161 49 = 0 from rfl) rfl (Or.inr ⟨_, rfl⟩) (fun _ => rfl) (fun _ q h => by cases h; rfl) ?_
  show J (d + 1) mX0_init (PV _) 4 2520 22 [some (.ref 49)] [] cT163 cI162 2 432
  refine J.aload_n dX0_init_22 rfl rfl ?_
  refine J.sipush (v := 1944) dX0_init_23 (by decide) ?_
  refine J.newarr (κ := 13) (N := 1944) dX0_init_26 arc_int rfl (by decide) (by decide) (by decide) (by decide) (by decide) (by decide) ?_
  show J (d + 1) mX0_init (PV _) 4 2520 28 [some (.ref 49)] [.ref 52, .ref 49] cT164 cI165 3 2376
  refine J.putR dX0_init_28 fX0_18 (show tK cT164 49 = 0 from rfl) rfl (Or.inr ⟨_, rfl⟩) (fun _ => rfl) (fun _ q h => by cases h; rfl) ?_
  show J (d + 1) mX0_init (PV _) 4 2520 31 [some (.ref 49)] [] cT166 cI165 3 2376
  refine J.aload_n dX0_init_31 rfl rfl ?_
  refine J.sipush (v := 144) dX0_init_32 (by decide) ?_
  refine J.newarr (κ := 13) (N := 144) dX0_init_35 arc_int rfl (by decide) (by decide) (by decide) (by decide) (by decide) (by decide) ?_
  show J (d + 1) mX0_init (PV _) 4 2520 37 [some (.ref 49)] [.ref 53, .ref 49] cT167 cI168 4 2520
  refine J.putR dX0_init_37 fX0_21 (show tK cT167 49 = 0 from rfl) rfl (Or.inr ⟨_, rfl⟩) (fun _ => rfl) (fun _ q h => by cases h; rfl) ?_
  show J (d + 1) mX0_init (PV _) 4 2520 40 [some (.ref 49)] [] cT169 cI168 4 2520
  refine J.aload_n dX0_init_40 rfl rfl ?_
  refine J.bipush (v := 24) dX0_init_41 (by decide) ?_
  refine J.putI dX0_init_43 fX0_24 (show tK cT169 49 = 0 from rfl) rfl ?_
  show J (d + 1) mX0_init (PV _) 4 2520 46 [some (.ref 49)] [] cT169 cI170 4 2520
  exact J.vretQ dX0_init_46 rfl (by decide) (by decide) ⟨rfl, rfl⟩

def cT171 : Topo := setR cT169 0 2 49
def cT172 : Topo := newT cT171 1 0
def cI173 : IM := newI cI170 54
def cT174 : Topo := newT cT172 13 9
def cI175 : IM := newI cI173 55
def cT176 : Topo := setR cT174 54 0 55
set_option maxHeartbeats 4000000 in
set_option maxRecDepth 100000 in
theorem ctor30 (d : Nat) : Ct (d + 1) mX1_init [.ref 54] cT172 cI173 1 9 (PV fun T_ I_ => T_ = cT176 ∧ I_ = cI175) := by
  refine Ct.ofJ (by decide +kernel) rfl (by intro v hv; revert v hv; simp [Value.category]) rfl ?_
  show J (d + 1) mX1_init (PV _) 1 9 0 [some (.ref 54)] [] cT172 cI173 0 0
  refine J.aload_n dX1_init_0 rfl rfl ?_
  refine J.objInit dX1_init_1 oiX1_3 oi_inst oi_code rfl (by omega) ?_
  refine J.aload_n dX1_init_4 rfl rfl ?_
  refine J.bipush (v := 9) dX1_init_5 (by decide) ?_
  refine J.newarr (κ := 13) (N := 9) dX1_init_7 arc_int rfl (by decide) (by decide) (by decide) (by decide) (by decide) (by decide) ?_
  show J (d + 1) mX1_init (PV _) 1 9 9 [some (.ref 54)] [.ref 55, .ref 54] cT174 cI175 1 9
  refine J.putR dX1_init_9 fX1_9 (show tK cT174 54 = 1 from rfl) rfl (Or.inr ⟨_, rfl⟩) (fun _ => rfl) (fun _ q h => by cases h; rfl) ?_
  show J (d + 1) mX1_init (PV _) 1 9 12 [some (.ref 54)] [] cT176 cI175 1 9
  exact J.vretQ dX1_init_12 rfl (by decide) (by decide) ⟨rfl, rfl⟩

def cT177 : Topo := setR cT176 0 3 54
def cT178 : Topo := newT cT177 3 0
def cI179 : IM := newI cI175 56
def cT180 : Topo := newT cT178 0 0
def cI181 : IM := newI cI179 57
def cT182 : Topo := newT cT180 13 216
def cI183 : IM := newI cI181 58
def cT184 : Topo := setR cT182 57 0 58
def cT185 : Topo := newT cT184 13 216
def cI186 : IM := newI cI183 59
def cT187 : Topo := setR cT185 57 1 59
def cT188 : Topo := newT cT187 13 1944
def cI189 : IM := newI cI186 60
def cT190 : Topo := setR cT188 57 2 60
def cT191 : Topo := newT cT190 13 144
def cI192 : IM := newI cI189 61
def cT193 : Topo := setR cT191 57 3 61
def cI194 : IM := up2 cI192 57 4 24
set_option maxHeartbeats 4000000 in
set_option maxRecDepth 100000 in
theorem ctor31 (d : Nat) : Ct (d + 1) mX0_init [.ref 57] cT180 cI181 4 2520 (PV fun T_ I_ => T_ = cT193 ∧ I_ = cI194) := by
  refine Ct.ofJ (by decide +kernel) rfl (by intro v hv; revert v hv; simp [Value.category]) rfl ?_
  show J (d + 1) mX0_init (PV _) 4 2520 0 [some (.ref 57)] [] cT180 cI181 0 0
  refine J.aload_n dX0_init_0 rfl rfl ?_
  refine J.objInit dX0_init_1 oiX0_3 oi_inst oi_code rfl (by omega) ?_
  refine J.aload_n dX0_init_4 rfl rfl ?_
  refine J.sipush (v := 216) dX0_init_5 (by decide) ?_
  refine J.newarr (κ := 13) (N := 216) dX0_init_8 arc_int rfl (by decide) (by decide) (by decide) (by decide) (by decide) (by decide) ?_
  show J (d + 1) mX0_init (PV _) 4 2520 10 [some (.ref 57)] [.ref 58, .ref 57] cT182 cI183 1 216
  refine J.putR dX0_init_10 fX0_9 (show tK cT182 57 = 0 from rfl) rfl (Or.inr ⟨_, rfl⟩) (fun _ => rfl) (fun _ q h => by cases h; rfl) ?_
  show J (d + 1) mX0_init (PV _) 4 2520 13 [some (.ref 57)] [] cT184 cI183 1 216
  refine J.aload_n dX0_init_13 rfl rfl ?_
  refine J.sipush (v := 216) dX0_init_14 (by decide) ?_
  refine J.newarr (κ := 13) (N := 216) dX0_init_17 arc_int rfl (by decide) (by decide) (by decide) (by decide) (by decide) (by decide) ?_
  show J (d + 1) mX0_init (PV _) 4 2520 19 [some (.ref 57)] [.ref 59, .ref 57] cT185 cI186 2 432
  refine J.putR dX0_init_19 fX0_15 (show tK cT185 57 = 0 from rfl) rfl (Or.inr ⟨_, rfl⟩) (fun _ => rfl) (fun _ q h => by cases h; rfl) ?_
  show J (d + 1) mX0_init (PV _) 4 2520 22 [some (.ref 57)] [] cT187 cI186 2 432
  refine J.aload_n dX0_init_22 rfl rfl ?_
  refine J.sipush (v := 1944) dX0_init_23 (by decide) ?_
  refine J.newarr (κ := 13) (N := 1944) dX0_init_26 arc_int rfl (by decide) (by decide) (by decide) (by decide) (by decide) (by decide) ?_
  show J (d + 1) mX0_init (PV _) 4 2520 28 [some (.ref 57)] [.ref 60, .ref 57] cT188 cI189 3 2376
  refine J.putR dX0_init_28 fX0_18 (show tK cT188 57 = 0 from rfl) rfl (Or.inr ⟨_, rfl⟩) (fun _ => rfl) (fun _ q h => by cases h; rfl) ?_
  show J (d + 1) mX0_init (PV _) 4 2520 31 [some (.ref 57)] [] cT190 cI189 3 2376
  refine J.aload_n dX0_init_31 rfl rfl ?_
  refine J.sipush (v := 144) dX0_init_32 (by decide) ?_
  refine J.newarr (κ := 13) (N := 144) dX0_init_35 arc_int rfl (by decide) (by decide) (by decide) (by decide) (by decide) (by decide) ?_
  show J (d + 1) mX0_init (PV _) 4 2520 37 [some (.ref 57)] [.ref 61, .ref 57] cT191 cI192 4 2520
  refine J.putR dX0_init_37 fX0_21 (show tK cT191 57 = 0 from rfl) rfl (Or.inr ⟨_, rfl⟩) (fun _ => rfl) (fun _ q h => by cases h; rfl) ?_
  show J (d + 1) mX0_init (PV _) 4 2520 40 [some (.ref 57)] [] cT193 cI192 4 2520
  refine J.aload_n dX0_init_40 rfl rfl ?_
  refine J.bipush (v := 24) dX0_init_41 (by decide) ?_
  refine J.putI dX0_init_43 fX0_24 (show tK cT193 57 = 0 from rfl) rfl ?_
  show J (d + 1) mX0_init (PV _) 4 2520 46 [some (.ref 57)] [] cT193 cI194 4 2520
  exact J.vretQ dX0_init_46 rfl (by decide) (by decide) ⟨rfl, rfl⟩

def cT195 : Topo := setR cT193 56 2 57
def cT196 : Topo := newT cT195 13 24
def cI197 : IM := newI cI194 62
def cT198 : Topo := setR cT196 56 3 62
def cT199 : Topo := newT cT198 13 8
def cI200 : IM := newI cI197 63
def cT201 : Topo := setR cT199 56 4 63
def cT202 : Topo := newT cT201 13 8
def cI203 : IM := newI cI200 64
def cT204 : Topo := setR cT202 56 5 64
def cT205 : Topo := newT cT204 13 8
def cI206 : IM := newI cI203 65
def cT207 : Topo := setR cT205 56 6 65
def cT208 : Topo := newT cT207 13 8
def cI209 : IM := newI cI206 66
def cT210 : Topo := setR cT208 56 7 66
def cT211 : Topo := newT cT210 13 256
def cI212 : IM := newI cI209 67
def cT213 : Topo := setR cT211 56 8 67
def cT214 : Topo := newT cT213 13 256
def cI215 : IM := newI cI212 68
def cT216 : Topo := setR cT214 56 9 68
def cT217 : Topo := setR cT216 56 0 1
def cT218 : Topo := setR cT217 56 1 15
set_option maxHeartbeats 4000000 in
set_option maxRecDepth 100000 in
theorem ctor32 (d : Nat) : Ct (d + 2) mX3_init [.ref 56, .ref 1, .ref 15] cT178 cI179 12 3093 (PV fun T_ I_ => T_ = cT218 ∧ I_ = cI215) := by
  refine Ct.ofJ (by decide +kernel) rfl (by intro v hv; revert v hv; simp [Value.category]) rfl ?_
  show J (d + 2) mX3_init (PV _) 12 3093 0 [some (.ref 56), some (.ref 1), some (.ref 15)] [] cT178 cI179 0 0
  refine J.aload_n dX3_init_0 rfl rfl ?_
  refine J.objInit dX3_init_1 oiX3_3 oi_inst oi_code rfl (by omega) ?_
  refine J.aload_n dX3_init_4 rfl rfl ?_
  refine J.new (κ := 0) dX3_init_5 clX3_9 (by decide) (by decide) ?_
  show J (d + 2) mX3_init (PV _) 12 3093 8 [some (.ref 56), some (.ref 1), some (.ref 15)] [.ref 57, .ref 56] cT180 cI181 1 5
  refine J.dup dX3_init_8 rfl ?_
  refine J.callIgV (k := 57) (as := []) (rest := [.ref 57, .ref 56]) (mc := 4) (ms := 2520) dX3_init_9 kX0_init vX0_init lX3_11 rfl rfl rfl rfl (by omega) (by decide) (by decide) (ctor31 (d + 0)) (fun T_ I_ hq_ => ?_)
  obtain ⟨hq1_, hq2_⟩ := hq_
  subst hq1_; subst hq2_
  show J (d + 2) mX3_init (PV _) 12 3093 12 [some (.ref 56), some (.ref 1), some (.ref 15)] [.ref 57, .ref 56] cT193 cI194 5 2525
  refine J.putR dX3_init_12 fX3_12 (show tK cT193 56 = 3 from rfl) rfl (Or.inl ⟨_, rfl⟩) (fun _ => rfl) (fun _ q h => by cases h; rfl) ?_
  show J (d + 2) mX3_init (PV _) 12 3093 15 [some (.ref 56), some (.ref 1), some (.ref 15)] [] cT195 cI194 5 2525
  refine J.aload_n dX3_init_15 rfl rfl ?_
  refine J.bipush (v := 24) dX3_init_16 (by decide) ?_
  refine J.newarr (κ := 13) (N := 24) dX3_init_18 arc_int rfl (by decide) (by decide) (by decide) (by decide) (by decide) (by decide) ?_
  show J (d + 2) mX3_init (PV _) 12 3093 20 [some (.ref 56), some (.ref 1), some (.ref 15)] [.ref 62, .ref 56] cT196 cI197 6 2549
  refine J.putR dX3_init_20 fX3_18 (show tK cT196 56 = 3 from rfl) rfl (Or.inr ⟨_, rfl⟩) (fun _ => rfl) (fun _ q h => by cases h; rfl) ?_
  show J (d + 2) mX3_init (PV _) 12 3093 23 [some (.ref 56), some (.ref 1), some (.ref 15)] [] cT198 cI197 6 2549
  refine J.aload_n dX3_init_23 rfl rfl ?_
  refine J.bipush (v := 8) dX3_init_24 (by decide) ?_
  refine J.newarr (κ := 13) (N := 8) dX3_init_26 arc_int rfl (by decide) (by decide) (by decide) (by decide) (by decide) (by decide) ?_
  show J (d + 2) mX3_init (PV _) 12 3093 28 [some (.ref 56), some (.ref 1), some (.ref 15)] [.ref 63, .ref 56] cT199 cI200 7 2557
  refine J.putR dX3_init_28 fX3_22 (show tK cT199 56 = 3 from rfl) rfl (Or.inr ⟨_, rfl⟩) (fun _ => rfl) (fun _ q h => by cases h; rfl) ?_
  show J (d + 2) mX3_init (PV _) 12 3093 31 [some (.ref 56), some (.ref 1), some (.ref 15)] [] cT201 cI200 7 2557
  refine J.aload_n dX3_init_31 rfl rfl ?_
  refine J.bipush (v := 8) dX3_init_32 (by decide) ?_
  refine J.newarr (κ := 13) (N := 8) dX3_init_34 arc_int rfl (by decide) (by decide) (by decide) (by decide) (by decide) (by decide) ?_
  show J (d + 2) mX3_init (PV _) 12 3093 36 [some (.ref 56), some (.ref 1), some (.ref 15)] [.ref 64, .ref 56] cT202 cI203 8 2565
  refine J.putR dX3_init_36 fX3_25 (show tK cT202 56 = 3 from rfl) rfl (Or.inr ⟨_, rfl⟩) (fun _ => rfl) (fun _ q h => by cases h; rfl) ?_
  show J (d + 2) mX3_init (PV _) 12 3093 39 [some (.ref 56), some (.ref 1), some (.ref 15)] [] cT204 cI203 8 2565
  refine J.aload_n dX3_init_39 rfl rfl ?_
  refine J.bipush (v := 8) dX3_init_40 (by decide) ?_
  refine J.newarr (κ := 13) (N := 8) dX3_init_42 arc_int rfl (by decide) (by decide) (by decide) (by decide) (by decide) (by decide) ?_
  show J (d + 2) mX3_init (PV _) 12 3093 44 [some (.ref 56), some (.ref 1), some (.ref 15)] [.ref 65, .ref 56] cT205 cI206 9 2573
  refine J.putR dX3_init_44 fX3_28 (show tK cT205 56 = 3 from rfl) rfl (Or.inr ⟨_, rfl⟩) (fun _ => rfl) (fun _ q h => by cases h; rfl) ?_
  show J (d + 2) mX3_init (PV _) 12 3093 47 [some (.ref 56), some (.ref 1), some (.ref 15)] [] cT207 cI206 9 2573
  refine J.aload_n dX3_init_47 rfl rfl ?_
  refine J.bipush (v := 8) dX3_init_48 (by decide) ?_
  refine J.newarr (κ := 13) (N := 8) dX3_init_50 arc_int rfl (by decide) (by decide) (by decide) (by decide) (by decide) (by decide) ?_
  show J (d + 2) mX3_init (PV _) 12 3093 52 [some (.ref 56), some (.ref 1), some (.ref 15)] [.ref 66, .ref 56] cT208 cI209 10 2581
  refine J.putR dX3_init_52 fX3_31 (show tK cT208 56 = 3 from rfl) rfl (Or.inr ⟨_, rfl⟩) (fun _ => rfl) (fun _ q h => by cases h; rfl) ?_
  show J (d + 2) mX3_init (PV _) 12 3093 55 [some (.ref 56), some (.ref 1), some (.ref 15)] [] cT210 cI209 10 2581
  refine J.aload_n dX3_init_55 rfl rfl ?_
  refine J.sipush (v := 256) dX3_init_56 (by decide) ?_
  refine J.newarr (κ := 13) (N := 256) dX3_init_59 arc_int rfl (by decide) (by decide) (by decide) (by decide) (by decide) (by decide) ?_
  show J (d + 2) mX3_init (PV _) 12 3093 61 [some (.ref 56), some (.ref 1), some (.ref 15)] [.ref 67, .ref 56] cT211 cI212 11 2837
  refine J.putR dX3_init_61 fX3_34 (show tK cT211 56 = 3 from rfl) rfl (Or.inr ⟨_, rfl⟩) (fun _ => rfl) (fun _ q h => by cases h; rfl) ?_
  show J (d + 2) mX3_init (PV _) 12 3093 64 [some (.ref 56), some (.ref 1), some (.ref 15)] [] cT213 cI212 11 2837
  refine J.aload_n dX3_init_64 rfl rfl ?_
  refine J.sipush (v := 256) dX3_init_65 (by decide) ?_
  refine J.newarr (κ := 13) (N := 256) dX3_init_68 arc_int rfl (by decide) (by decide) (by decide) (by decide) (by decide) (by decide) ?_
  show J (d + 2) mX3_init (PV _) 12 3093 70 [some (.ref 56), some (.ref 1), some (.ref 15)] [.ref 68, .ref 56] cT214 cI215 12 3093
  refine J.putR dX3_init_70 fX3_37 (show tK cT214 56 = 3 from rfl) rfl (Or.inr ⟨_, rfl⟩) (fun _ => rfl) (fun _ q h => by cases h; rfl) ?_
  show J (d + 2) mX3_init (PV _) 12 3093 73 [some (.ref 56), some (.ref 1), some (.ref 15)] [] cT216 cI215 12 3093
  refine J.aload_n dX3_init_73 rfl rfl ?_
  refine J.aload_n dX3_init_74 rfl rfl ?_
  refine J.putR dX3_init_75 fX3_40 (show tK cT216 56 = 3 from rfl) rfl (Or.inl ⟨_, rfl⟩) (fun _ => rfl) (fun _ q h => by cases h; rfl) ?_
  show J (d + 2) mX3_init (PV _) 12 3093 78 [some (.ref 56), some (.ref 1), some (.ref 15)] [] cT217 cI215 12 3093
  refine J.aload_n dX3_init_78 rfl rfl ?_
  refine J.aload_n dX3_init_79 rfl rfl ?_
  refine J.putR dX3_init_80 fX3_44 (show tK cT217 56 = 3 from rfl) rfl (Or.inl ⟨_, rfl⟩) (fun _ => rfl) (fun _ q h => by cases h; rfl) ?_
  show J (d + 2) mX3_init (PV _) 12 3093 83 [some (.ref 56), some (.ref 1), some (.ref 15)] [] cT218 cI215 12 3093
  exact J.vretQ dX3_init_83 rfl (by decide) (by decide) ⟨rfl, rfl⟩

def cT219 : Topo := setR cT218 0 4 56
def cT220 : Topo := newT cT219 2 0
def cI221 : IM := newI cI215 69
def cI222 : IM := up2 cI221 69 2 (-1)
def cT223 : Topo := setR cT220 69 0 1
def cT224 : Topo := setR cT223 69 1 15
set_option maxHeartbeats 4000000 in
set_option maxRecDepth 100000 in
theorem ctor33 (d : Nat) : Ct (d + 1) mX2_init [.ref 69, .ref 1, .ref 15] cT220 cI221 0 0 (PV fun T_ I_ => T_ = cT224 ∧ I_ = cI222) := by
  refine Ct.ofJ (by decide +kernel) rfl (by intro v hv; revert v hv; simp [Value.category]) rfl ?_
  show J (d + 1) mX2_init (PV _) 0 0 0 [some (.ref 69), some (.ref 1), some (.ref 15)] [] cT220 cI221 0 0
  refine J.aload_n dX2_init_0 rfl rfl ?_
  refine J.objInit dX2_init_1 oiX2_3 oi_inst oi_code rfl (by omega) ?_
  refine J.aload_n dX2_init_4 rfl rfl ?_
  refine J.iconst (v := (-1)) dX2_init_5 (by decide) ?_
  refine J.putI dX2_init_6 fX2_9 (show tK cT220 69 = 2 from rfl) rfl ?_
  show J (d + 1) mX2_init (PV _) 0 0 9 [some (.ref 69), some (.ref 1), some (.ref 15)] [] cT220 cI222 0 0
  refine J.aload_n dX2_init_9 rfl rfl ?_
  refine J.aload_n dX2_init_10 rfl rfl ?_
  refine J.putR dX2_init_11 fX2_15 (show tK cT220 69 = 2 from rfl) rfl (Or.inl ⟨_, rfl⟩) (fun _ => rfl) (fun _ q h => by cases h; rfl) ?_
  show J (d + 1) mX2_init (PV _) 0 0 14 [some (.ref 69), some (.ref 1), some (.ref 15)] [] cT223 cI222 0 0
  refine J.aload_n dX2_init_14 rfl rfl ?_
  refine J.aload_n dX2_init_15 rfl rfl ?_
  refine J.putR dX2_init_16 fX2_19 (show tK cT223 69 = 2 from rfl) rfl (Or.inl ⟨_, rfl⟩) (fun _ => rfl) (fun _ q h => by cases h; rfl) ?_
  show J (d + 1) mX2_init (PV _) 0 0 19 [some (.ref 69), some (.ref 1), some (.ref 15)] [] cT224 cI222 0 0
  exact J.vretQ dX2_init_19 rfl (by decide) (by decide) ⟨rfl, rfl⟩

def cT225 : Topo := setR cT224 0 5 69
def cT226 : Topo := newT cT225 16 4
def cI227 : IM := newI cI222 70
def cT228 : Topo := newT cT226 7 0
def cI229 : IM := newI cI227 71
def cT230 : Topo := newT cT228 13 8
def cI231 : IM := newI cI229 72
def cT232 : Topo := setR cT230 71 0 72
set_option maxHeartbeats 4000000 in
set_option maxRecDepth 100000 in
theorem ctor34 (d : Nat) : Ct (d + 1) mX7_init [.ref 71] cT228 cI229 1 8 (PV fun T_ I_ => T_ = cT232 ∧ I_ = cI231) := by
  refine Ct.ofJ (by decide +kernel) rfl (by intro v hv; revert v hv; simp [Value.category]) rfl ?_
  show J (d + 1) mX7_init (PV _) 1 8 0 [some (.ref 71)] [] cT228 cI229 0 0
  refine J.aload_n dX7_init_0 rfl rfl ?_
  refine J.objInit dX7_init_1 oiX7_3 oi_inst oi_code rfl (by omega) ?_
  refine J.aload_n dX7_init_4 rfl rfl ?_
  refine J.bipush (v := 8) dX7_init_5 (by decide) ?_
  refine J.newarr (κ := 13) (N := 8) dX7_init_7 arc_int rfl (by decide) (by decide) (by decide) (by decide) (by decide) (by decide) ?_
  show J (d + 1) mX7_init (PV _) 1 8 9 [some (.ref 71)] [.ref 72, .ref 71] cT230 cI231 1 8
  refine J.putR dX7_init_9 fX7_9 (show tK cT230 71 = 7 from rfl) rfl (Or.inr ⟨_, rfl⟩) (fun _ => rfl) (fun _ q h => by cases h; rfl) ?_
  show J (d + 1) mX7_init (PV _) 1 8 12 [some (.ref 71)] [] cT232 cI231 1 8
  exact J.vretQ dX7_init_12 rfl (by decide) (by decide) ⟨rfl, rfl⟩

def cT233 : Topo := setR cT232 70 0 71
def cT234 : Topo := newT cT233 7 0
def cI235 : IM := newI cI231 73
def cT236 : Topo := newT cT234 13 8
def cI237 : IM := newI cI235 74
def cT238 : Topo := setR cT236 73 0 74
set_option maxHeartbeats 4000000 in
set_option maxRecDepth 100000 in
theorem ctor35 (d : Nat) : Ct (d + 1) mX7_init [.ref 73] cT234 cI235 1 8 (PV fun T_ I_ => T_ = cT238 ∧ I_ = cI237) := by
  refine Ct.ofJ (by decide +kernel) rfl (by intro v hv; revert v hv; simp [Value.category]) rfl ?_
  show J (d + 1) mX7_init (PV _) 1 8 0 [some (.ref 73)] [] cT234 cI235 0 0
  refine J.aload_n dX7_init_0 rfl rfl ?_
  refine J.objInit dX7_init_1 oiX7_3 oi_inst oi_code rfl (by omega) ?_
  refine J.aload_n dX7_init_4 rfl rfl ?_
  refine J.bipush (v := 8) dX7_init_5 (by decide) ?_
  refine J.newarr (κ := 13) (N := 8) dX7_init_7 arc_int rfl (by decide) (by decide) (by decide) (by decide) (by decide) (by decide) ?_
  show J (d + 1) mX7_init (PV _) 1 8 9 [some (.ref 73)] [.ref 74, .ref 73] cT236 cI237 1 8
  refine J.putR dX7_init_9 fX7_9 (show tK cT236 73 = 7 from rfl) rfl (Or.inr ⟨_, rfl⟩) (fun _ => rfl) (fun _ q h => by cases h; rfl) ?_
  show J (d + 1) mX7_init (PV _) 1 8 12 [some (.ref 73)] [] cT238 cI237 1 8
  exact J.vretQ dX7_init_12 rfl (by decide) (by decide) ⟨rfl, rfl⟩

def cT239 : Topo := setR cT238 70 1 73
def cT240 : Topo := newT cT239 7 0
def cI241 : IM := newI cI237 75
def cT242 : Topo := newT cT240 13 8
def cI243 : IM := newI cI241 76
def cT244 : Topo := setR cT242 75 0 76
set_option maxHeartbeats 4000000 in
set_option maxRecDepth 100000 in
theorem ctor36 (d : Nat) : Ct (d + 1) mX7_init [.ref 75] cT240 cI241 1 8 (PV fun T_ I_ => T_ = cT244 ∧ I_ = cI243) := by
  refine Ct.ofJ (by decide +kernel) rfl (by intro v hv; revert v hv; simp [Value.category]) rfl ?_
  show J (d + 1) mX7_init (PV _) 1 8 0 [some (.ref 75)] [] cT240 cI241 0 0
  refine J.aload_n dX7_init_0 rfl rfl ?_
  refine J.objInit dX7_init_1 oiX7_3 oi_inst oi_code rfl (by omega) ?_
  refine J.aload_n dX7_init_4 rfl rfl ?_
  refine J.bipush (v := 8) dX7_init_5 (by decide) ?_
  refine J.newarr (κ := 13) (N := 8) dX7_init_7 arc_int rfl (by decide) (by decide) (by decide) (by decide) (by decide) (by decide) ?_
  show J (d + 1) mX7_init (PV _) 1 8 9 [some (.ref 75)] [.ref 76, .ref 75] cT242 cI243 1 8
  refine J.putR dX7_init_9 fX7_9 (show tK cT242 75 = 7 from rfl) rfl (Or.inr ⟨_, rfl⟩) (fun _ => rfl) (fun _ q h => by cases h; rfl) ?_
  show J (d + 1) mX7_init (PV _) 1 8 12 [some (.ref 75)] [] cT244 cI243 1 8
  exact J.vretQ dX7_init_12 rfl (by decide) (by decide) ⟨rfl, rfl⟩

def cT245 : Topo := setR cT244 70 2 75
def cT246 : Topo := newT cT245 7 0
def cI247 : IM := newI cI243 77
def cT248 : Topo := newT cT246 13 8
def cI249 : IM := newI cI247 78
def cT250 : Topo := setR cT248 77 0 78
set_option maxHeartbeats 4000000 in
set_option maxRecDepth 100000 in
theorem ctor37 (d : Nat) : Ct (d + 1) mX7_init [.ref 77] cT246 cI247 1 8 (PV fun T_ I_ => T_ = cT250 ∧ I_ = cI249) := by
  refine Ct.ofJ (by decide +kernel) rfl (by intro v hv; revert v hv; simp [Value.category]) rfl ?_
  show J (d + 1) mX7_init (PV _) 1 8 0 [some (.ref 77)] [] cT246 cI247 0 0
  refine J.aload_n dX7_init_0 rfl rfl ?_
  refine J.objInit dX7_init_1 oiX7_3 oi_inst oi_code rfl (by omega) ?_
  refine J.aload_n dX7_init_4 rfl rfl ?_
  refine J.bipush (v := 8) dX7_init_5 (by decide) ?_
  refine J.newarr (κ := 13) (N := 8) dX7_init_7 arc_int rfl (by decide) (by decide) (by decide) (by decide) (by decide) (by decide) ?_
  show J (d + 1) mX7_init (PV _) 1 8 9 [some (.ref 77)] [.ref 78, .ref 77] cT248 cI249 1 8
  refine J.putR dX7_init_9 fX7_9 (show tK cT248 77 = 7 from rfl) rfl (Or.inr ⟨_, rfl⟩) (fun _ => rfl) (fun _ q h => by cases h; rfl) ?_
  show J (d + 1) mX7_init (PV _) 1 8 12 [some (.ref 77)] [] cT250 cI249 1 8
  exact J.vretQ dX7_init_12 rfl (by decide) (by decide) ⟨rfl, rfl⟩

def cT251 : Topo := setR cT250 70 3 77
def cT252 : Topo := setR cT251 0 6 70
set_option maxHeartbeats 4000000 in
set_option maxRecDepth 100000 in
theorem ctor38 (d : Nat) : Ct (d + 4) mX11_init [.ref 0] cTa cIa 78 6024 (PV fun T_ I_ => T_ = cT252 ∧ I_ = cI249) := by
  refine Ct.ofJ (by decide +kernel) rfl (by intro v hv; revert v hv; simp [Value.category]) rfl ?_
  show J (d + 4) mX11_init (PV _) 78 6024 0 [some (.ref 0), none, none, none, none] [] cTa cIa 0 0
  refine J.aload_n dX11_init_0 rfl rfl ?_
  refine J.objInit dX11_init_1 oiX11_3 oi_inst oi_code rfl (by omega) ?_
  refine J.new (κ := 5) dX11_init_4 clX11_9 (by decide) (by decide) ?_
  show J (d + 4) mX11_init (PV _) 78 6024 7 [some (.ref 0), none, none, none, none] [.ref 1] cT1 cI2 1 6
  refine J.dup dX11_init_7 rfl ?_
  refine J.callIgV (k := 1) (as := []) (rest := [.ref 1]) (mc := 13) (ms := 119) dX11_init_8 kX5_init vX5_init lX11_11 rfl rfl rfl rfl (by omega) (by decide) (by decide) (ctor11 (d + 1)) (fun T_ I_ hq_ => ?_)
  obtain ⟨hq1_, hq2_⟩ := hq_
  subst hq1_; subst hq2_
  show J (d + 4) mX11_init (PV _) 78 6024 11 [some (.ref 0), none, none, none, none] [.ref 1] cT44 cI43 14 125
  refine J.astore_n (ls' := [some (.ref 0), some (.ref 1), none, none, none]) dX11_init_11 rfl rfl rfl ?_
  refine J.new (κ := 9) dX11_init_12 clX11_12 (by decide) (by decide) ?_
  show J (d + 4) mX11_init (PV _) 78 6024 15 [some (.ref 0), some (.ref 1), none, none, none] [.ref 15] cT45 cI46 15 127
  refine J.dup dX11_init_15 rfl ?_
  refine J.callIgV (k := 15) (as := []) (rest := [.ref 15]) (mc := 33) (ms := 200) dX11_init_16 kX9_init vX9_init lX11_14 rfl rfl rfl rfl (by omega) (by decide) (by decide) (ctor28 (d + 0)) (fun T_ I_ hq_ => ?_)
  obtain ⟨hq1_, hq2_⟩ := hq_
  subst hq1_; subst hq2_
  show J (d + 4) mX11_init (PV _) 78 6024 19 [some (.ref 0), some (.ref 1), none, none, none] [.ref 15] cT153 cI151 48 327
  refine J.astore_n (ls' := [some (.ref 0), some (.ref 1), some (.ref 15), none, none]) dX11_init_19 rfl rfl rfl ?_
  refine J.aload_n dX11_init_20 rfl rfl ?_
  refine J.aload_n dX11_init_21 rfl rfl ?_
  refine J.putR dX11_init_22 fX11_15 (show tK cT153 0 = 11 from rfl) rfl (Or.inl ⟨_, rfl⟩) (fun _ => rfl) (fun _ q h => by cases h; rfl) ?_
  show J (d + 4) mX11_init (PV _) 78 6024 25 [some (.ref 0), some (.ref 1), some (.ref 15), none, none] [] cT154 cI151 48 327
  refine J.aload_n dX11_init_25 rfl rfl ?_
  refine J.aload_n dX11_init_26 rfl rfl ?_
  refine J.putR dX11_init_27 fX11_19 (show tK cT154 0 = 11 from rfl) rfl (Or.inl ⟨_, rfl⟩) (fun _ => rfl) (fun _ q h => by cases h; rfl) ?_
  show J (d + 4) mX11_init (PV _) 78 6024 30 [some (.ref 0), some (.ref 1), some (.ref 15), none, none] [] cT155 cI151 48 327
  refine J.aload_n dX11_init_30 rfl rfl ?_
  refine J.new (κ := 0) dX11_init_31 clX11_23 (by decide) (by decide) ?_
  show J (d + 4) mX11_init (PV _) 78 6024 34 [some (.ref 0), some (.ref 1), some (.ref 15), none, none] [.ref 49, .ref 0] cT156 cI157 49 332
  refine J.dup dX11_init_34 rfl ?_
  refine J.callIgV (k := 49) (as := []) (rest := [.ref 49, .ref 0]) (mc := 4) (ms := 2520) dX11_init_35 kX0_init vX0_init lX11_25 rfl rfl rfl rfl (by omega) (by decide) (by decide) (ctor29 (d + 2)) (fun T_ I_ hq_ => ?_)
  obtain ⟨hq1_, hq2_⟩ := hq_
  subst hq1_; subst hq2_
  show J (d + 4) mX11_init (PV _) 78 6024 38 [some (.ref 0), some (.ref 1), some (.ref 15), none, none] [.ref 49, .ref 0] cT169 cI170 53 2852
  refine J.putR dX11_init_38 fX11_26 (show tK cT169 0 = 11 from rfl) rfl (Or.inl ⟨_, rfl⟩) (fun _ => rfl) (fun _ q h => by cases h; rfl) ?_
  show J (d + 4) mX11_init (PV _) 78 6024 41 [some (.ref 0), some (.ref 1), some (.ref 15), none, none] [] cT171 cI170 53 2852
  refine J.aload_n dX11_init_41 rfl rfl ?_
  refine J.new (κ := 1) dX11_init_42 clX11_30 (by decide) (by decide) ?_
  show J (d + 4) mX11_init (PV _) 78 6024 45 [some (.ref 0), some (.ref 1), some (.ref 15), none, none] [.ref 54, .ref 0] cT172 cI173 54 2855
  refine J.dup dX11_init_45 rfl ?_
  refine J.callIgV (k := 54) (as := []) (rest := [.ref 54, .ref 0]) (mc := 1) (ms := 9) dX11_init_46 kX1_init vX1_init lX11_32 rfl rfl rfl rfl (by omega) (by decide) (by decide) (ctor30 (d + 2)) (fun T_ I_ hq_ => ?_)
  obtain ⟨hq1_, hq2_⟩ := hq_
  subst hq1_; subst hq2_
  show J (d + 4) mX11_init (PV _) 78 6024 49 [some (.ref 0), some (.ref 1), some (.ref 15), none, none] [.ref 54, .ref 0] cT176 cI175 55 2864
  refine J.putR dX11_init_49 fX11_33 (show tK cT176 0 = 11 from rfl) rfl (Or.inl ⟨_, rfl⟩) (fun _ => rfl) (fun _ q h => by cases h; rfl) ?_
  show J (d + 4) mX11_init (PV _) 78 6024 52 [some (.ref 0), some (.ref 1), some (.ref 15), none, none] [] cT177 cI175 55 2864
  refine J.aload_n dX11_init_52 rfl rfl ?_
  refine J.new (κ := 3) dX11_init_53 clX11_37 (by decide) (by decide) ?_
  show J (d + 4) mX11_init (PV _) 78 6024 56 [some (.ref 0), some (.ref 1), some (.ref 15), none, none] [.ref 56, .ref 0] cT178 cI179 56 2877
  refine J.dup dX11_init_56 rfl ?_
  refine J.aload_n dX11_init_57 rfl rfl ?_
  refine J.aload_n dX11_init_58 rfl rfl ?_
  refine J.callIgV (k := 56) (as := [.ref 1, .ref 15]) (rest := [.ref 56, .ref 0]) (mc := 12) (ms := 3093) dX11_init_59 kX3_init vX3_init lX11_39 rfl rfl rfl rfl (by omega) (by decide) (by decide) (ctor32 (d + 1)) (fun T_ I_ hq_ => ?_)
  obtain ⟨hq1_, hq2_⟩ := hq_
  subst hq1_; subst hq2_
  show J (d + 4) mX11_init (PV _) 78 6024 62 [some (.ref 0), some (.ref 1), some (.ref 15), none, none] [.ref 56, .ref 0] cT218 cI215 68 5970
  refine J.putR dX11_init_62 fX11_42 (show tK cT218 0 = 11 from rfl) rfl (Or.inl ⟨_, rfl⟩) (fun _ => rfl) (fun _ q h => by cases h; rfl) ?_
  show J (d + 4) mX11_init (PV _) 78 6024 65 [some (.ref 0), some (.ref 1), some (.ref 15), none, none] [] cT219 cI215 68 5970
  refine J.aload_n dX11_init_65 rfl rfl ?_
  refine J.new (κ := 2) dX11_init_66 clX11_46 (by decide) (by decide) ?_
  show J (d + 4) mX11_init (PV _) 78 6024 69 [some (.ref 0), some (.ref 1), some (.ref 15), none, none] [.ref 69, .ref 0] cT220 cI221 69 5976
  refine J.dup dX11_init_69 rfl ?_
  refine J.aload_n dX11_init_70 rfl rfl ?_
  refine J.aload_n dX11_init_71 rfl rfl ?_
  refine J.callIgV (k := 69) (as := [.ref 1, .ref 15]) (rest := [.ref 69, .ref 0]) (mc := 0) (ms := 0) dX11_init_72 kX2_init vX2_init lX11_48 rfl rfl rfl rfl (by omega) (by decide) (by decide) (ctor33 (d + 2)) (fun T_ I_ hq_ => ?_)
  obtain ⟨hq1_, hq2_⟩ := hq_
  subst hq1_; subst hq2_
  show J (d + 4) mX11_init (PV _) 78 6024 75 [some (.ref 0), some (.ref 1), some (.ref 15), none, none] [.ref 69, .ref 0] cT224 cI222 69 5976
  refine J.putR dX11_init_75 fX11_49 (show tK cT224 0 = 11 from rfl) rfl (Or.inl ⟨_, rfl⟩) (fun _ => rfl) (fun _ q h => by cases h; rfl) ?_
  show J (d + 4) mX11_init (PV _) 78 6024 78 [some (.ref 0), some (.ref 1), some (.ref 15), none, none] [] cT225 cI222 69 5976
  refine J.iconst (v := 4) dX11_init_78 (by decide) ?_
  refine J.anew (κ := 16) (N := 4) dX11_init_79 caX11_53 aoX7 rfl (by decide) (by decide) (by decide) (by decide) (by decide) (by decide) ?_
  show J (d + 4) mX11_init (PV _) 78 6024 82 [some (.ref 0), some (.ref 1), some (.ref 15), none, none] [.ref 70] cT226 cI227 70 5980
  refine J.astore_n (ls' := [some (.ref 0), some (.ref 1), some (.ref 15), some (.ref 70), none]) dX11_init_82 rfl rfl rfl ?_
  refine J.iconst (v := 0) dX11_init_83 (by decide) ?_
  refine J.istore (ls' := [some (.ref 0), some (.ref 1), some (.ref 15), some (.ref 70), some (.int 0)]) dX11_init_84 rfl rfl ?_
  refine J.iload dX11_init_86 rfl ?_
  refine J.iconst (v := 4) dX11_init_88 (by decide) ?_
  refine J.icmp_ge (tgt := 109) dX11_init_89 (by decide) (fun hc => absurd hc (by decide)) (fun hc => ?_)
  refine J.aload_n dX11_init_92 rfl rfl ?_
  refine J.iload dX11_init_93 rfl ?_
  refine J.new (κ := 7) dX11_init_95 clX11_53 (by decide) (by decide) ?_
  show J (d + 4) mX11_init (PV _) 78 6024 98 [some (.ref 0), some (.ref 1), some (.ref 15), some (.ref 70), some (.int 0)] [.ref 71, .int 0, .ref 70] cT228 cI229 71 5983
  refine J.dup dX11_init_98 rfl ?_
  refine J.callIgV (k := 71) (as := []) (rest := [.ref 71, .int 0, .ref 70]) (mc := 1) (ms := 8) dX11_init_99 kX7_init vX7_init lX11_55 rfl rfl rfl rfl (by omega) (by decide) (by decide) (ctor34 (d + 2)) (fun T_ I_ hq_ => ?_)
  obtain ⟨hq1_, hq2_⟩ := hq_
  subst hq1_; subst hq2_
  show J (d + 4) mX11_init (PV _) 78 6024 102 [some (.ref 0), some (.ref 1), some (.ref 15), some (.ref 70), some (.int 0)] [.ref 71, .int 0, .ref 70] cT232 cI231 72 5991
  refine J.aastore (κ := 7) dX11_init_102 (show 15 ≤ tK cT232 70 by decide +kernel) rfl (show aTy (tK cT232 70) = _ from rfl) (show tK cT232 71 = 7 from rfl) (vp_in_nI (n := 0) (show 0 < tL cT232 70 by decide +kernel) (show tL cT232 70 < 2 ^ 31 by decide +kernel)) ?_
  show J (d + 4) mX11_init (PV _) 78 6024 103 [some (.ref 0), some (.ref 1), some (.ref 15), some (.ref 70), some (.int 0)] [] cT233 cI231 72 5991
  refine J.iinc (v := 1) (ls' := [some (.ref 0), some (.ref 1), some (.ref 15), some (.ref 70), some (.int 1)]) dX11_init_103 rfl (by decide) rfl ?_
  refine J.goto (tgt := 86) dX11_init_106 (by decide) ?_
  refine J.iload dX11_init_86 rfl ?_
  refine J.iconst (v := 4) dX11_init_88 (by decide) ?_
  refine J.icmp_ge (tgt := 109) dX11_init_89 (by decide) (fun hc => absurd hc (by decide)) (fun hc => ?_)
  refine J.aload_n dX11_init_92 rfl rfl ?_
  refine J.iload dX11_init_93 rfl ?_
  refine J.new (κ := 7) dX11_init_95 clX11_53 (by decide) (by decide) ?_
  show J (d + 4) mX11_init (PV _) 78 6024 98 [some (.ref 0), some (.ref 1), some (.ref 15), some (.ref 70), some (.int 1)] [.ref 73, .int 1, .ref 70] cT234 cI235 73 5994
  refine J.dup dX11_init_98 rfl ?_
  refine J.callIgV (k := 73) (as := []) (rest := [.ref 73, .int 1, .ref 70]) (mc := 1) (ms := 8) dX11_init_99 kX7_init vX7_init lX11_55 rfl rfl rfl rfl (by omega) (by decide) (by decide) (ctor35 (d + 2)) (fun T_ I_ hq_ => ?_)
  obtain ⟨hq1_, hq2_⟩ := hq_
  subst hq1_; subst hq2_
  show J (d + 4) mX11_init (PV _) 78 6024 102 [some (.ref 0), some (.ref 1), some (.ref 15), some (.ref 70), some (.int 1)] [.ref 73, .int 1, .ref 70] cT238 cI237 74 6002
  refine J.aastore (κ := 7) dX11_init_102 (show 15 ≤ tK cT238 70 by decide +kernel) rfl (show aTy (tK cT238 70) = _ from rfl) (show tK cT238 73 = 7 from rfl) (vp_in_nI (n := 1) (show 1 < tL cT238 70 by decide +kernel) (show tL cT238 70 < 2 ^ 31 by decide +kernel)) ?_
  show J (d + 4) mX11_init (PV _) 78 6024 103 [some (.ref 0), some (.ref 1), some (.ref 15), some (.ref 70), some (.int 1)] [] cT239 cI237 74 6002
  refine J.iinc (v := 2) (ls' := [some (.ref 0), some (.ref 1), some (.ref 15), some (.ref 70), some (.int 2)]) dX11_init_103 rfl (by decide) rfl ?_
  refine J.goto (tgt := 86) dX11_init_106 (by decide) ?_
  refine J.iload dX11_init_86 rfl ?_
  refine J.iconst (v := 4) dX11_init_88 (by decide) ?_
  refine J.icmp_ge (tgt := 109) dX11_init_89 (by decide) (fun hc => absurd hc (by decide)) (fun hc => ?_)
  refine J.aload_n dX11_init_92 rfl rfl ?_
  refine J.iload dX11_init_93 rfl ?_
  refine J.new (κ := 7) dX11_init_95 clX11_53 (by decide) (by decide) ?_
  show J (d + 4) mX11_init (PV _) 78 6024 98 [some (.ref 0), some (.ref 1), some (.ref 15), some (.ref 70), some (.int 2)] [.ref 75, .int 2, .ref 70] cT240 cI241 75 6005
  refine J.dup dX11_init_98 rfl ?_
  refine J.callIgV (k := 75) (as := []) (rest := [.ref 75, .int 2, .ref 70]) (mc := 1) (ms := 8) dX11_init_99 kX7_init vX7_init lX11_55 rfl rfl rfl rfl (by omega) (by decide) (by decide) (ctor36 (d + 2)) (fun T_ I_ hq_ => ?_)
  obtain ⟨hq1_, hq2_⟩ := hq_
  subst hq1_; subst hq2_
  show J (d + 4) mX11_init (PV _) 78 6024 102 [some (.ref 0), some (.ref 1), some (.ref 15), some (.ref 70), some (.int 2)] [.ref 75, .int 2, .ref 70] cT244 cI243 76 6013
  refine J.aastore (κ := 7) dX11_init_102 (show 15 ≤ tK cT244 70 by decide +kernel) rfl (show aTy (tK cT244 70) = _ from rfl) (show tK cT244 75 = 7 from rfl) (vp_in_nI (n := 2) (show 2 < tL cT244 70 by decide +kernel) (show tL cT244 70 < 2 ^ 31 by decide +kernel)) ?_
  show J (d + 4) mX11_init (PV _) 78 6024 103 [some (.ref 0), some (.ref 1), some (.ref 15), some (.ref 70), some (.int 2)] [] cT245 cI243 76 6013
  refine J.iinc (v := 3) (ls' := [some (.ref 0), some (.ref 1), some (.ref 15), some (.ref 70), some (.int 3)]) dX11_init_103 rfl (by decide) rfl ?_
  refine J.goto (tgt := 86) dX11_init_106 (by decide) ?_
  refine J.iload dX11_init_86 rfl ?_
  refine J.iconst (v := 4) dX11_init_88 (by decide) ?_
  refine J.icmp_ge (tgt := 109) dX11_init_89 (by decide) (fun hc => absurd hc (by decide)) (fun hc => ?_)
  refine J.aload_n dX11_init_92 rfl rfl ?_
  refine J.iload dX11_init_93 rfl ?_
  refine J.new (κ := 7) dX11_init_95 clX11_53 (by decide) (by decide) ?_
  show J (d + 4) mX11_init (PV _) 78 6024 98 [some (.ref 0), some (.ref 1), some (.ref 15), some (.ref 70), some (.int 3)] [.ref 77, .int 3, .ref 70] cT246 cI247 77 6016
  refine J.dup dX11_init_98 rfl ?_
  refine J.callIgV (k := 77) (as := []) (rest := [.ref 77, .int 3, .ref 70]) (mc := 1) (ms := 8) dX11_init_99 kX7_init vX7_init lX11_55 rfl rfl rfl rfl (by omega) (by decide) (by decide) (ctor37 (d + 2)) (fun T_ I_ hq_ => ?_)
  obtain ⟨hq1_, hq2_⟩ := hq_
  subst hq1_; subst hq2_
  show J (d + 4) mX11_init (PV _) 78 6024 102 [some (.ref 0), some (.ref 1), some (.ref 15), some (.ref 70), some (.int 3)] [.ref 77, .int 3, .ref 70] cT250 cI249 78 6024
  refine J.aastore (κ := 7) dX11_init_102 (show 15 ≤ tK cT250 70 by decide +kernel) rfl (show aTy (tK cT250 70) = _ from rfl) (show tK cT250 77 = 7 from rfl) (vp_in_nI (n := 3) (show 3 < tL cT250 70 by decide +kernel) (show tL cT250 70 < 2 ^ 31 by decide +kernel)) ?_
  show J (d + 4) mX11_init (PV _) 78 6024 103 [some (.ref 0), some (.ref 1), some (.ref 15), some (.ref 70), some (.int 3)] [] cT251 cI249 78 6024
  refine J.iinc (v := 4) (ls' := [some (.ref 0), some (.ref 1), some (.ref 15), some (.ref 70), some (.int 4)]) dX11_init_103 rfl (by decide) rfl ?_
  refine J.goto (tgt := 86) dX11_init_106 (by decide) ?_
  refine J.iload dX11_init_86 rfl ?_
  refine J.iconst (v := 4) dX11_init_88 (by decide) ?_
  refine J.icmp_ge (tgt := 109) dX11_init_89 (by decide) (fun hc => ?_) (fun hc => absurd (by decide) hc)
  refine J.aload_n dX11_init_109 rfl rfl ?_
  refine J.aload_n dX11_init_110 rfl rfl ?_
  refine J.putR dX11_init_111 fX11_56 (show tK cT251 0 = 11 from rfl) rfl (Or.inr ⟨_, rfl⟩) (fun _ => rfl) (fun _ q h => by cases h; rfl) ?_
  show J (d + 4) mX11_init (PV _) 78 6024 114 [some (.ref 0), some (.ref 1), some (.ref 15), some (.ref 70), some (.int 4)] [] cT252 cI249 78 6024
  exact J.vretQ dX11_init_114 rfl (by decide) (by decide) ⟨rfl, rfl⟩

