noncomputable section
/-! the cells of the PLACES stay as they are in calls that find none -/
theorem frpX11_finding {I : IM} {k : Nat} (h1 : 18 ≤ k ∧ k ≤ 46 ∧ k % 4 = 2) (h2 : k < 136) : fnd I k = I k := up2_ne (by omega)
set_option maxRecDepth 10000 in
theorem frpX4_pass {I : IM} {i : Nat} {a1 : Int32} (hi : i < 9) {k : Nat} (h1 : 18 ≤ k ∧ k ≤ 46 ∧ k % 4 = 2) (h2 : k < 136) : jPassM I i a1 k = I k := by
  unfold jPassM
  try dsimp only
  rw [up2_ne (by omega)]
  try dsimp only
  rw [up2_ne (by omega)]
  try dsimp only
  rw [up2_ne (by omega)]
set_option maxRecDepth 10000 in
theorem frpX7_put {I : IM} {i : Nat} {a1 : Int32} {a2 : Int32} (hi : i < 4) (hp : (jPutK a1)) {k : Nat} (h1 : 18 ≤ k ∧ k ≤ 46 ∧ k % 4 = 2) (h2 : k < 136) : jPutM I i a1 a2 k = I k := by
  unfold jPutK at hp
  unfold jPutM
  all_goals have hs1 := (hp).1
  all_goals have hb1 := vp_lt hs1
  all_goals have hs2 := (hp).2
  all_goals have hb2 := vp_lt hs2
  try dsimp only
  rw [up2_ne (by omega)]
set_option maxRecDepth 10000 in
set_option maxHeartbeats 1000000 in
theorem frpX10_insertI {a1 : Int32} {k : Nat} (h1 : 18 ≤ k ∧ k ≤ 46 ∧ k % 4 = 2) (h2 : k < 136) : ∀ (n : Nat) (v2 : Int32) (I : IM), jInsertO a1 n v2 I → (jInsertI a1 n v2 I) k = I k := by
  intro n
  induction n with
  | zero => intros; rfl
  | succ n ih =>
    intro v2 I hok
    rw [jInsertO_15] at hok
    rw [jInsertI_15]
    by_cases hc1 : v2 ≤ 0
    · rw [if_pos hc1]
      all_goals have hs2 := (hok).1 hc1
      all_goals have hb2 := vp_lt hs2
      try dsimp only
      rw [up2_ne (by omega)]
      try dsimp only
      rw [up2_ne (by omega)]
    · rw [if_neg hc1]
      all_goals have hs3 := ((hok).2 hc1).1
      all_goals have hb3 := vp_lt hs3
      by_cases hc4 : (I 5 (v2 - 1).toNatClampNeg) ≤ a1
      · rw [if_pos hc4]
        all_goals have hs5 := (((hok).2 hc1).2).1 hc4
        all_goals have hb5 := vp_lt hs5
        try dsimp only
        rw [up2_ne (by omega)]
        try dsimp only
        rw [up2_ne (by omega)]
      · rw [if_neg hc4]
        all_goals have hs6 := ((((hok).2 hc1).2).2 hc4).1
        all_goals have hb6 := vp_lt hs6
        all_goals have hs7 := (((((hok).2 hc1).2).2 hc4).2).1
        all_goals have hb7 := vp_lt hs7
        rw [ih _ _ ((((((hok).2 hc1).2).2 hc4).2).2)]
        try dsimp only
        rw [up2_ne (by omega)]
set_option maxRecDepth 10000 in
theorem frpX10_insert {I : IM} {a1 : Int32} (hp : jInsertK I a1) {k : Nat} (h1 : 18 ≤ k ∧ k ≤ 46 ∧ k % 4 = 2) (h2 : k < 136) : (jInsert I a1) k = I k := by
  unfold jInsertK at hp
  unfold jInsert
  by_cases hc1 : (I 4 4) < 27
  · rw [if_pos hc1]
    rw [frpX10_insertI h1 h2 FU _ _ ((hp).1 hc1)]
  · rw [if_neg hc1]
    all_goals rfl
set_option maxRecDepth 10000 in
set_option maxHeartbeats 1000000 in
theorem frpX7_beginI {i : Nat} {a1 : Int32} {a2 : Int32} (hi : i < 4) {k : Nat} (h1 : 18 ≤ k ∧ k ≤ 46 ∧ k % 4 = 2) (h2 : k < 136) : ∀ (n : Nat) (v3 : Int32) (I : IM), jBeginO i a1 a2 n v3 I → (jBeginI i a1 a2 n v3 I).2 k = I k := by
  intro n
  induction n with
  | zero => intros; rfl
  | succ n ih =>
    intro v3 I hok
    rw [jBeginO_20] at hok
    rw [jBeginI_20]
    by_cases hc1 : 8 ≤ v3
    · rw [if_pos hc1]
      all_goals rfl
    · rw [if_neg hc1]
      all_goals have hs2 := ((hok).2 hc1).1
      all_goals have hb2 := vp_lt hs2
      rw [ih _ _ (((hok).2 hc1).2)]
      try dsimp only
      rw [up2_ne (by omega)]
set_option maxRecDepth 10000 in
theorem frpX7_begin {I : IM} {i : Nat} {a1 : Int32} {a2 : Int32} (hi : i < 4) (hp : jBeginK I i a1 a2) {k : Nat} (h1 : 18 ≤ k ∧ k ≤ 46 ∧ k % 4 = 2) (h2 : k < 136) : (jBegin I i a1 a2).2 k = I k := by
  unfold jBeginK at hp
  unfold jBegin
  by_cases hc1 : a1 = 0
  · rw [if_pos hc1]
    rw [frpX7_beginI hi h1 h2 FU _ _ ((hp).2 hc1)]
    try dsimp only
    rw [up2_ne (by omega)]
    try dsimp only
    rw [up2_ne (by omega)]
  · rw [if_neg hc1]
    rw [frpX7_beginI hi h1 h2 FU _ _ ((hp).1 hc1)]
    try dsimp only
    rw [up2_ne (by omega)]
    try dsimp only
    rw [up2_ne (by omega)]
set_option maxRecDepth 10000 in
theorem frpX5_addNode {I : IM} {a1 : Int32} (hp : (jX5_addNodeK I)) {k : Nat} (h1 : 18 ≤ k ∧ k ≤ 46 ∧ k % 4 = 2) (h2 : k < 136) : jX5_addNodeM I a1 k = I k := by
  unfold jX5_addNodeK at hp
  unfold jX5_addNodeM
  all_goals have hs1 := hp
  all_goals have hb1 := vp_lt hs1
  try dsimp only
  rw [up2_ne (by omega)]
  try dsimp only
  rw [up2_ne (by omega)]
set_option maxRecDepth 10000 in
theorem frpX5_addLine {I : IM} {a1 : Int32} {a2 : Int32} {a3 : Int32} {a4 : Int32} {a5 : Int32} (hp : (jX5_addLineK I)) {k : Nat} (h1 : 18 ≤ k ∧ k ≤ 46 ∧ k % 4 = 2) (h2 : k < 136) : jX5_addLineM I a1 a2 a3 a4 a5 k = I k := by
  unfold jX5_addLineK at hp
  unfold jX5_addLineM
  all_goals have hs1 := hp
  all_goals have hb1 := vp_lt hs1
  try dsimp only
  rw [up2_ne (by omega)]
  try dsimp only
  rw [up2_ne (by omega)]
  try dsimp only
  rw [up2_ne (by omega)]
  try dsimp only
  rw [up2_ne (by omega)]
  try dsimp only
  rw [up2_ne (by omega)]
  try dsimp only
  rw [up2_ne (by omega)]
set_option maxRecDepth 10000 in
theorem frpX5_setUp {I : IM} {a1 : Int32} {a2 : Int32} {k : Nat} (h1 : 18 ≤ k ∧ k ≤ 46 ∧ k % 4 = 2) (h2 : k < 136) : jX5_setUpM I a1 a2 k = I k := by
  unfold jX5_setUpM
  by_cases hc1 : (bI ((((1 : Int32) <<< (a1 &&& 31)) &&& I 1 5) = 0)) = a2
  · skip
    by_cases hc2 : a2 = 0
    · rw [if_pos hc2]
      try dsimp only
      rw [up2_ne (by omega)]
    · rw [if_neg hc2]
      try dsimp only
      rw [up2_ne (by omega)]
  · skip
    by_cases hc3 : a2 = 0
    · rw [if_pos hc3]
      try dsimp only
      rw [up2_ne (by omega)]
    · rw [if_neg hc3]
      try dsimp only
      rw [up2_ne (by omega)]
set_option maxRecDepth 10000 in
set_option maxHeartbeats 1000000 in
theorem frpX8_setSpanI {i : Nat} {a1 : Int32} {a2 : Int32} {a3 : Int32} (hi : i < 8) {k : Nat} (h1 : 18 ≤ k ∧ k ≤ 46 ∧ k % 4 = 2) (h2 : k < 136) : ∀ (n : Nat) (v4 : Int32) (I : IM), jX8_setSpanO i a1 a2 a3 n v4 I → (jX8_setSpanI i a1 a2 a3 n v4 I) k = I k := by
  intro n
  induction n with
  | zero => intros; rfl
  | succ n ih =>
    intro v4 I hok
    rw [jX8_setSpanO_26] at hok
    rw [jX8_setSpanI_26]
    by_cases hc1 : (I (17 + 4 * i) 9) < v4
    · rw [if_pos hc1]
      all_goals rfl
    · rw [if_neg hc1]
      by_cases hc2 : 24 ≤ v4
      · rw [if_pos hc2]
        all_goals rfl
      · rw [if_neg hc2]
        by_cases hc3 : (I (17 + 4 * i) 0) = 4
        · rw [if_pos hc3]
          by_cases hc4 : hs (I (17 + 4 * i) 10) (v4 - v4 / 6 * 6)
          · rw [if_pos hc4]
            rw [ih _ _ (((((hok).2 hc1).2 hc2).2 hc3).2 hc4)]
            try dsimp only
            rw [up2_ne (by omega)]
          · rw [if_neg hc4]
            rw [ih _ _ (((((hok).2 hc1).2 hc2).2 hc3).1 hc4)]
        · rw [if_neg hc3]
          rw [ih _ _ ((((hok).2 hc1).2 hc2).1 hc3)]
          try dsimp only
          rw [up2_ne (by omega)]
set_option maxRecDepth 10000 in
theorem frpX8_setSpan {I : IM} {i : Nat} {a1 : Int32} {a2 : Int32} {a3 : Int32} (hi : i < 8) (hp : jX8_setSpanK I i a1 a2 a3) {k : Nat} (h1 : 18 ≤ k ∧ k ≤ 46 ∧ k % 4 = 2) (h2 : k < 136) : (jX8_setSpan I i a1 a2 a3) k = I k := by
  unfold jX8_setSpanK at hp
  unfold jX8_setSpan
  rw [frpX8_setSpanI hi h1 h2 FU _ _ (hp)]
  try dsimp only
  rw [up2_ne (by omega)]
  try dsimp only
  rw [up2_ne (by omega)]
  try dsimp only
  rw [up2_ne (by omega)]
  try dsimp only
  rw [up2_ne (by omega)]
set_option maxRecDepth 10000 in
theorem frpX8_setTerms {I : IM} {i : Nat} {a1 : Int32} {a2 : Int32} {a3 : Int32} (hi : i < 8) {k : Nat} (h1 : 18 ≤ k ∧ k ≤ 46 ∧ k % 4 = 2) (h2 : k < 136) : jX8_setTermsM I i a1 a2 a3 k = I k := by
  unfold jX8_setTermsM
  try dsimp only
  rw [up2_ne (by omega)]
  try dsimp only
  rw [up2_ne (by omega)]
  try dsimp only
  rw [up2_ne (by omega)]
set_option maxRecDepth 10000 in
set_option maxHeartbeats 1000000 in
theorem frpX9_offerAllI {i1 : Nat} (hi1 : i1 < 4) {k : Nat} (h1 : 18 ≤ k ∧ k ≤ 46 ∧ k % 4 = 2) (h2 : k < 136) : ∀ (n : Nat) (v2 v3 : Int32) (I : IM), jX9_offerAllO i1 n v2 v3 I → (jX9_offerAllI i1 n v2 v3 I).2 k = I k := by
  intro n
  induction n with
  | zero => intros; rfl
  | succ n ih =>
    intro v2 v3 I hok
    rw [jX9_offerAllO_4] at hok
    rw [jX9_offerAllI_4]
    by_cases hc1 : (I (71 + 2 * i1) 2) ≤ v3
    · rw [if_pos hc1]
      all_goals rfl
    · rw [if_neg hc1]
      by_cases hc2 : (I 15 1) ≤ v3
      · rw [if_pos hc2]
        all_goals rfl
      · rw [if_neg hc2]
        all_goals have hs3 := (((hok).2 hc1).2 hc2).1
        all_goals have hb3 := vp_lt hs3
        all_goals have hs4 := ((((hok).2 hc1).2 hc2).2).1
        all_goals have hs5 := (((((hok).2 hc1).2 hc2).2).2).1
        rw [ih _ _ _ ((((((hok).2 hc1).2 hc2).2).2).2)]
        try dsimp only
        rw [up2_ne (by omega)]
set_option maxRecDepth 10000 in
theorem frpX9_offerAll {I : IM} {i1 : Nat} (hi1 : i1 < 4) (hp : jX9_offerAllK I i1) {k : Nat} (h1 : 18 ≤ k ∧ k ≤ 46 ∧ k % 4 = 2) (h2 : k < 136) : (jX9_offerAll I i1).2 k = I k := by
  unfold jX9_offerAllK at hp
  unfold jX9_offerAll
  rw [frpX9_offerAllI hi1 h1 h2 FU _ _ _ (hp)]
set_option maxRecDepth 10000 in
theorem frpX9_add {I : IM} {a1 : Int32} {a2 : Int32} {a3 : Int32} {a4 : Int32} {a5 : Int32} (hp : (jX9_addK I a1 a2 a3 a4 a5)) {k : Nat} (h1 : 18 ≤ k ∧ k ≤ 46 ∧ k % 4 = 2) (h2 : k < 136) : jX9_addM I a1 a2 a3 a4 a5 k = I k := by
  unfold jX9_addK at hp
  unfold jX9_addM
  all_goals have hs1 := (hp).1
  all_goals have hb1 := vp_lt hs1
  all_goals have hs2 := (hp).2
  try dsimp only
  rw [up2_ne (by omega)]
  rw [frpX8_setSpan (by first | assumption | exact vp_lt (by assumption) | omega | exact Or.inl rfl | exact Or.inr rfl) hs2 h1 h2]
  try dsimp only
  rw [up2_ne (by omega)]
  try dsimp only
  rw [up2_ne (by omega)]
  try dsimp only
  rw [up2_ne (by omega)]
  try dsimp only
  rw [up2_ne (by omega)]
  try dsimp only
  rw [up2_ne (by omega)]
set_option maxRecDepth 10000 in
set_option maxHeartbeats 1000000 in
theorem frpExtSI {a2 : Int32} {a3 : Int32} {a4 : Int32} {a5 : Int32} {E : IM → Int32 → Int32 → Int32 → Int32 → IM} {EK : IM → Int32 → Int32 → Int32 → Int32 → Prop} (hEf : ∀ (I : IM) (b2 b3 b4 b5 : Int32), EK I b2 b3 b4 b5 → ∀ k : Nat, (18 ≤ k ∧ k ≤ 46 ∧ k % 4 = 2) → k < 136 → E I b2 b3 b4 b5 k = I k) {k : Nat} (h1 : 18 ≤ k ∧ k ≤ 46 ∧ k % 4 = 2) (h2 : k < 136) : ∀ (n : Nat) (v6 : Int32) (I : IM), jExtSO a2 a3 a4 a5 E EK n v6 I → (jExtSI a2 a3 a4 a5 E EK n v6 I) k = I k := by
  intro n
  induction n with
  | zero => intros; rfl
  | succ n ih =>
    intro v6 I hok
    rw [jExtSO_25] at hok
    rw [jExtSI_25]
    by_cases hc1 : (I 1 4) ≤ v6
    · rw [if_pos hc1]
      all_goals rfl
    · rw [if_neg hc1]
      all_goals have hs2 := ((hok).2 hc1).1
      all_goals have hb2 := vp_lt hs2
      by_cases hc3 : (jOther I (v6).toNatClampNeg a2) < 0
      · rw [if_pos hc3]
        rw [ih _ _ ((((hok).2 hc1).2).1 hc3)]
      · rw [if_neg hc3]
        by_cases hc4 : hs a3 (jOther I (v6).toNatClampNeg a2)
        · rw [if_pos hc4]
          rw [ih _ _ (((((hok).2 hc1).2).2 hc3).1 hc4)]
        · rw [if_neg hc4]
          all_goals have hs5 := (((((hok).2 hc1).2).2 hc3).2 hc4).1
          rw [ih _ _ ((((((hok).2 hc1).2).2 hc3).2 hc4).2)]
          rw [hEf _ _ _ _ _ hs5 _ h1 h2]
set_option maxRecDepth 10000 in
theorem frpExtS {I : IM} {a2 : Int32} {a3 : Int32} {a4 : Int32} {a5 : Int32} {E : IM → Int32 → Int32 → Int32 → Int32 → IM} {EK : IM → Int32 → Int32 → Int32 → Int32 → Prop} (hEf : ∀ (I : IM) (b2 b3 b4 b5 : Int32), EK I b2 b3 b4 b5 → ∀ k : Nat, (18 ≤ k ∧ k ≤ 46 ∧ k % 4 = 2) → k < 136 → E I b2 b3 b4 b5 k = I k) (hp : jExtSK I a2 a3 a4 a5 E EK) {k : Nat} (h1 : 18 ≤ k ∧ k ≤ 46 ∧ k % 4 = 2) (h2 : k < 136) : (jExtS I a2 a3 a4 a5 E EK) k = I k := by
  unfold jExtSK at hp
  unfold jExtS
  by_cases hc1 : a2 = (I 4 2)
  · rw [if_pos hc1]
    all_goals have hs2 := (hp).2 hc1
    rw [frpX10_insert hs2 h1 h2]
  · rw [if_neg hc1]
    by_cases hc3 : a5 < 5
    · rw [if_pos hc3]
      rw [frpExtSI hEf h1 h2 FU _ _ (((hp).1 hc1).1 hc3)]
    · rw [if_neg hc3]
      all_goals rfl
theorem frpExt : ∀ (r : Nat) (I : IM) (b2 b3 b4 b5 : Int32), (jExtP r).2 I b2 b3 b4 b5 → ∀ k : Nat, (18 ≤ k ∧ k ≤ 46 ∧ k % 4 = 2) → k < 136 → (jExtP r).1 I b2 b3 b4 b5 k = I k := by
  intro r
  induction r with
  | zero => intro I b2 b3 b4 b5 h; exact h.elim
  | succ r ih =>
    intro I b2 b3 b4 b5 h k h1 h2
    exact frpExtS (fun I c2 c3 c4 c5 hh k2 g1 g2 => ih I c2 c3 c4 c5 hh k2 g1 g2) h h1 h2
theorem frpX10_extend {I : IM} {b2 b3 b4 b5 : Int32} (hp : (jExtP 6).2 I b2 b3 b4 b5) {k : Nat} (h1 : 18 ≤ k ∧ k ≤ 46 ∧ k % 4 = 2) (h2 : k < 136) : (jExtP 6).1 I b2 b3 b4 b5 k = I k := frpExt 6 I b2 b3 b4 b5 hp k h1 h2
set_option maxRecDepth 10000 in
theorem frpX10_find {I : IM} {a2 : Int32} {a3 : Int32} (hp : (jFindK I a2 a3)) {k : Nat} (h1 : 18 ≤ k ∧ k ≤ 46 ∧ k % 4 = 2) (h2 : k < 136) : jFindM I a2 a3 k = I k := by
  unfold jFindK at hp
  unfold jFindM
  by_cases hc1 : a2 = (I 4 1)
  · rw [if_pos hc1]
    by_cases hc2 : a3 = (I 4 2)
    · rw [if_pos hc2]
      by_cases hc3 : (I 1 4) = (I 4 3)
      · rw [if_pos hc3]
        all_goals rfl
      · rw [if_neg hc3]
        all_goals have hs4 := (((hp).2 hc1).2 hc2).1 hc3
        rw [frpX10_extend hs4 h1 h2]
        try dsimp only
        rw [up2_ne (by omega)]
        try dsimp only
        rw [up2_ne (by omega)]
        try dsimp only
        rw [up2_ne (by omega)]
        try dsimp only
        rw [up2_ne (by omega)]
    · rw [if_neg hc2]
      all_goals have hs5 := ((hp).2 hc1).1 hc2
      rw [frpX10_extend hs5 h1 h2]
      try dsimp only
      rw [up2_ne (by omega)]
      try dsimp only
      rw [up2_ne (by omega)]
      try dsimp only
      rw [up2_ne (by omega)]
      try dsimp only
      rw [up2_ne (by omega)]
  · rw [if_neg hc1]
    all_goals have hs6 := (hp).1 hc1
    rw [frpX10_extend hs6 h1 h2]
    try dsimp only
    rw [up2_ne (by omega)]
    try dsimp only
    rw [up2_ne (by omega)]
    try dsimp only
    rw [up2_ne (by omega)]
    try dsimp only
    rw [up2_ne (by omega)]
set_option maxRecDepth 10000 in
set_option maxHeartbeats 1000000 in
theorem frpX0_enterFallsI {b : Nat} {a1 : Int32} {a2 : Int32} {a3 : Int32} {a4 : Int32} (hb : isBk b) {k : Nat} (h1 : 18 ≤ k ∧ k ≤ 46 ∧ k % 4 = 2) (h2 : k < 136) : ∀ (n : Nat) (v5 v6 v7 : Int32) (I : IM), jX0_enterFallsO b a1 a2 a3 a4 n v5 v6 v7 I → (jX0_enterFallsI b a1 a2 a3 a4 n v5 v6 v7 I) k = I k := by
  intro n
  induction n with
  | zero => intros; rfl
  | succ n ih =>
    intro v5 v6 v7 I hok
    rw [jX0_enterFallsO_15] at hok
    rw [jX0_enterFallsI_15]
    by_cases hc1 : 9 ≤ v7
    · rw [if_pos hc1]
      all_goals have hs2 := (hok).1 hc1
      all_goals have hb2 := vp_lt hs2
      try dsimp only
      rw [up2_ne (by rcases hb with hbk | hbk <;> (try simp only [hbk]) <;> omega)]
    · rw [if_neg hc1]
      by_cases hc3 : hs a2 v7
      · rw [if_pos hc3]
        all_goals have hs4 := (((hok).2 hc1).2 hc3).1
        all_goals have hb4 := vp_lt hs4
        all_goals have hs5 := ((((hok).2 hc1).2 hc3).2).1
        all_goals have hb5 := vp_lt hs5
        all_goals have hs6 := (((((hok).2 hc1).2 hc3).2).2).1
        all_goals have hb6 := vp_lt hs6
        rw [ih _ _ _ _ ((((((hok).2 hc1).2 hc3).2).2).2)]
        try dsimp only
        rw [up2_ne (by rcases hb with hbk | hbk <;> (try simp only [hbk]) <;> omega)]
      · rw [if_neg hc3]
        all_goals have hs7 := (((hok).2 hc1).1 hc3).1
        all_goals have hb7 := vp_lt hs7
        rw [ih _ _ _ _ ((((hok).2 hc1).1 hc3).2)]
set_option maxRecDepth 10000 in
theorem frpX0_enterFalls {I : IM} {b : Nat} {a1 : Int32} {a2 : Int32} {a3 : Int32} {a4 : Int32} (hb : isBk b) (hp : jX0_enterFallsK I b a1 a2 a3 a4) {k : Nat} (h1 : 18 ≤ k ∧ k ≤ 46 ∧ k % 4 = 2) (h2 : k < 136) : (jX0_enterFalls I b a1 a2 a3 a4) k = I k := by
  unfold jX0_enterFallsK at hp
  unfold jX0_enterFalls
  rw [frpX0_enterFallsI hb h1 h2 FU _ _ _ _ (hp)]
set_option maxRecDepth 10000 in
set_option maxHeartbeats 1000000 in
theorem frpX0_enterLinesI {b : Nat} {a2 : Int32} {a3 : Int32} {a4 : Int32} (hb : isBk b) {k : Nat} (h1 : 18 ≤ k ∧ k ≤ 46 ∧ k % 4 = 2) (h2 : k < 136) : ∀ (n : Nat) (v5 v6 v7 : Int32) (I : IM), jX0_enterLinesO b a2 a3 a4 n v5 v6 v7 I → (jX0_enterLinesI b a2 a3 a4 n v5 v6 v7 I) k = I k := by
  intro n
  induction n with
  | zero => intros; rfl
  | succ n ih =>
    intro v5 v6 v7 I hok
    rw [jX0_enterLinesO_15] at hok
    rw [jX0_enterLinesI_15]
    by_cases hc1 : (I 1 4) ≤ v7
    · rw [if_pos hc1]
      all_goals rfl
    · rw [if_neg hc1]
      by_cases hc2 : hs v5 v7
      · rw [if_pos hc2]
        all_goals have hs3 := (((hok).2 hc1).2 hc2).1
        all_goals have hb3 := vp_lt hs3
        all_goals have hs4 := ((((hok).2 hc1).2 hc2).2).1
        all_goals have hb4 := vp_lt hs4
        by_cases hc5 : hs v6 v7
        · rw [if_pos hc5]
          all_goals have hs6 := ((((((hok).2 hc1).2 hc2).2).2).2 hc5).1
          rw [ih _ _ _ _ (((((((hok).2 hc1).2 hc2).2).2).2 hc5).2)]
          rw [frpX0_enterFalls (by first | assumption | exact vp_lt (by assumption) | omega | exact Or.inl rfl | exact Or.inr rfl) hs6 h1 h2]
          try dsimp only
          rw [up2_ne (by rcases hb with hbk | hbk <;> (try simp only [hbk]) <;> omega)]
        · rw [if_neg hc5]
          rw [ih _ _ _ _ ((((((hok).2 hc1).2 hc2).2).2).1 hc5)]
          try dsimp only
          rw [up2_ne (by rcases hb with hbk | hbk <;> (try simp only [hbk]) <;> omega)]
      · rw [if_neg hc2]
        by_cases hc7 : hs v6 v7
        · rw [if_pos hc7]
          all_goals have hs8 := ((((hok).2 hc1).1 hc2).2 hc7).1
          rw [ih _ _ _ _ (((((hok).2 hc1).1 hc2).2 hc7).2)]
          rw [frpX0_enterFalls (by first | assumption | exact vp_lt (by assumption) | omega | exact Or.inl rfl | exact Or.inr rfl) hs8 h1 h2]
        · rw [if_neg hc7]
          rw [ih _ _ _ _ ((((hok).2 hc1).1 hc2).1 hc7)]
set_option maxRecDepth 10000 in
theorem frpX0_enterLines {I : IM} {b : Nat} {a2 : Int32} {a3 : Int32} {a4 : Int32} (hb : isBk b) (hp : jX0_enterLinesK I b a2 a3 a4) {k : Nat} (h1 : 18 ≤ k ∧ k ≤ 46 ∧ k % 4 = 2) (h2 : k < 136) : (jX0_enterLines I b a2 a3 a4) k = I k := by
  unfold jX0_enterLinesK at hp
  unfold jX0_enterLines
  rw [frpX0_enterLinesI hb h1 h2 FU _ _ _ _ (hp)]
set_option maxRecDepth 10000 in
set_option maxHeartbeats 1000000 in
theorem frpX0_enterI {b : Nat} {i2 : Nat} {a3 : Int32} {a4 : Int32} {a5 : Int32} (hb : isBk b) (hi2 : i2 < 8) {k : Nat} (h1 : 18 ≤ k ∧ k ≤ 46 ∧ k % 4 = 2) (h2 : k < 136) : ∀ (n : Nat) (v6 v7 v8 : Int32) (I : IM), jX0_enterO b i2 a3 a4 a5 n v6 v7 v8 I → (jX0_enterI b i2 a3 a4 a5 n v6 v7 v8 I) k = I k := by
  intro n
  induction n with
  | zero => intros; rfl
  | succ n ih =>
    intro v6 v7 v8 I hok
    rw [jX0_enterO_18] at hok
    rw [jX0_enterI_18]
    by_cases hc1 : (I b 4) ≤ v8
    · rw [if_pos hc1]
      all_goals rfl
    · rw [if_neg hc1]
      by_cases hc2 : hs a4 v8
      · rw [if_pos hc2]
        all_goals have hs3 := (((hok).2 hc1).2 hc2).1
        all_goals have hs4 := ((((hok).2 hc1).2 hc2).2).1
        all_goals have hb4 := vp_lt hs4
        all_goals have hs5 := (((((hok).2 hc1).2 hc2).2).2).1
        all_goals have hb5 := vp_lt hs5
        rw [ih _ _ _ _ ((((((hok).2 hc1).2 hc2).2).2).2)]
        try dsimp only
        rw [up2_ne (by rcases hb with hbk | hbk <;> (try simp only [hbk]) <;> omega)]
        rw [frpX0_enterLines (by first | assumption | exact vp_lt (by assumption) | omega | exact Or.inl rfl | exact Or.inr rfl) hs3 h1 h2]
      · rw [if_neg hc2]
        rw [ih _ _ _ _ (((hok).2 hc1).1 hc2)]
set_option maxRecDepth 10000 in
theorem frpX0_enter {I : IM} {b : Nat} {i2 : Nat} {a3 : Int32} {a4 : Int32} {a5 : Int32} (hb : isBk b) (hi2 : i2 < 8) (hp : jX0_enterK I b i2 a3 a4 a5) {k : Nat} (h1 : 18 ≤ k ∧ k ≤ 46 ∧ k % 4 = 2) (h2 : k < 136) : (jX0_enter I b i2 a3 a4 a5) k = I k := by
  unfold jX0_enterK at hp
  unfold jX0_enter
  rw [frpX0_enterI hb hi2 h1 h2 FU _ _ _ _ (hp)]
set_option maxRecDepth 10000 in
theorem frpX1_weigh {I : IM} {a1 : Int32} {a2 : Int32} {k : Nat} (h1 : 18 ≤ k ∧ k ≤ 46 ∧ k % 4 = 2) (h2 : k < 136) : jX1_weighM I a1 a2 k = I k := by
  unfold jX1_weighM
  by_cases hc1 : (I 54 2) = 0
  · rw [if_pos hc1]
    try dsimp only
    rw [up2_ne (by omega)]
    try dsimp only
    rw [up2_ne (by omega)]
  · rw [if_neg hc1]
    by_cases hc2 : a2 < (I 54 1)
    · rw [if_pos hc2]
      try dsimp only
      rw [up2_ne (by omega)]
      try dsimp only
      rw [up2_ne (by omega)]
    · rw [if_neg hc2]
      by_cases hc3 : a2 = (I 54 1)
      · rw [if_pos hc3]
        by_cases hc4 : (jBits (I 54 2)) ≤ (jBits a1)
        · rw [if_pos hc4]
          all_goals rfl
        · rw [if_neg hc4]
          try dsimp only
          rw [up2_ne (by omega)]
          try dsimp only
          rw [up2_ne (by omega)]
      · rw [if_neg hc3]
        all_goals rfl
set_option maxRecDepth 10000 in
set_option maxHeartbeats 1000000 in
theorem frpX2_forgetLatestI  {k : Nat} (h1 : 18 ≤ k ∧ k ≤ 46 ∧ k % 4 = 2) (h2 : k < 136) : ∀ (n : Nat) (tg : Nat) (v1 : Int32) (I : IM), jX2_forgetLatestO  n tg v1 I → (jX2_forgetLatestI  n tg v1 I) k = I k := by
  intro n
  induction n with
  | zero => intros; rfl
  | succ n ih =>
    intro tg v1 I hok
    by_cases ht0 : tg = 0
    · subst ht0
      rw [jX2_forgetLatestO_2] at hok
      rw [jX2_forgetLatestI_2]
      by_cases hc1 : (I 1 4) ≤ v1
      · rw [if_pos hc1]
        rw [ih _ _ _ ((hok).1 hc1)]
      · rw [if_neg hc1]
        all_goals have hs2 := ((hok).2 hc1).1
        all_goals have hb2 := vp_lt hs2
        rw [ih _ _ _ (((hok).2 hc1).2)]
        try dsimp only
        rw [up2_ne (by omega)]
    · skip
      by_cases ht1 : tg = 1
      · subst ht1
        rw [jX2_forgetLatestO_33] at hok
        rw [jX2_forgetLatestI_33]
        by_cases hc3 : (I 15 1) ≤ v1
        · rw [if_pos hc3]
          all_goals rfl
        · rw [if_neg hc3]
          all_goals have hs4 := ((hok).2 hc3).1
          all_goals have hb4 := vp_lt hs4
          rw [ih _ _ _ (((hok).2 hc3).2)]
          try dsimp only
          rw [up2_ne (by omega)]
      · skip
        show ((if tg = 0 then jX2_forgetLatestB2  (jX2_forgetLatestI  n) v1 I else (if tg = 1 then jX2_forgetLatestB33  (jX2_forgetLatestI  n) v1 I else I))) k = I k
        rw [if_neg ht0, if_neg ht1]
set_option maxRecDepth 10000 in
theorem frpX2_forgetLatest {I : IM}  (hp : jX2_forgetLatestK I ) {k : Nat} (h1 : 18 ≤ k ∧ k ≤ 46 ∧ k % 4 = 2) (h2 : k < 136) : (jX2_forgetLatest I ) k = I k := by
  unfold jX2_forgetLatestK at hp
  unfold jX2_forgetLatest
  rw [frpX2_forgetLatestI h1 h2 FU _ _ _ (hp)]
set_option maxRecDepth 10000 in
set_option maxHeartbeats 1000000 in
theorem frpX2_passI {i1 : Nat} {a2 : Int32} {a3 : Int32} (hi1 : i1 < 8) {k : Nat} (h1 : 18 ≤ k ∧ k ≤ 46 ∧ k % 4 = 2) (h2 : k < 136) : ∀ (n : Nat) (v4 v5 : Int32) (I : IM), jX2_passO i1 a2 a3 n v4 v5 I → (jX2_passI i1 a2 a3 n v4 v5 I) k = I k := by
  intro n
  induction n with
  | zero => intros; rfl
  | succ n ih =>
    intro v4 v5 I hok
    rw [jX2_passO_6] at hok
    rw [jX2_passI_6]
    by_cases hc1 : (I 1 4) ≤ v5
    · rw [if_pos hc1]
      try dsimp only
      rw [up2_ne (by omega)]
      try dsimp only
      rw [up2_ne (by omega)]
      try dsimp only
      rw [up2_ne (by omega)]
      try dsimp only
      rw [up2_ne (by omega)]
      try dsimp only
      rw [up2_ne (by omega)]
      try dsimp only
      rw [up2_ne (by omega)]
    · rw [if_neg hc1]
      by_cases hc2 : hs a2 v5
      · rw [if_pos hc2]
        all_goals have hs3 := (((hok).2 hc1).2 hc2).1
        all_goals have hb3 := vp_lt hs3
        all_goals have hs4 := ((((hok).2 hc1).2 hc2).2).1
        all_goals have hb4 := vp_lt hs4
        rw [ih _ _ _ (((((hok).2 hc1).2 hc2).2).2)]
        rw [frpX4_pass (by first | assumption | exact vp_lt (by assumption) | omega | exact Or.inl rfl | exact Or.inr rfl) h1 h2]
      · rw [if_neg hc2]
        rw [ih _ _ _ (((hok).2 hc1).1 hc2)]
set_option maxRecDepth 10000 in
theorem frpX2_pass {I : IM} {i1 : Nat} {a2 : Int32} {a3 : Int32} (hi1 : i1 < 8) (hp : jX2_passK I i1 a2 a3) {k : Nat} (h1 : 18 ≤ k ∧ k ≤ 46 ∧ k % 4 = 2) (h2 : k < 136) : (jX2_pass I i1 a2 a3) k = I k := by
  unfold jX2_passK at hp
  unfold jX2_pass
  rw [frpX2_passI hi1 h1 h2 FU _ _ _ (hp)]
set_option maxRecDepth 10000 in
set_option maxHeartbeats 1000000 in
theorem frpX1_findI {b2 : Nat} {a3 : Int32} {a4 : Int32} {a5 : Int32} (hb2 : isBk b2) {k : Nat} (h1 : 18 ≤ k ∧ k ≤ 46 ∧ k % 4 = 2) (h2 : k < 136) : ∀ (n : Nat) (tg : Nat) (v6 : Int32) (I : IM), jX1_findO b2 a3 a4 a5 n tg v6 I → (jX1_findI b2 a3 a4 a5 n tg v6 I) k = I k := by
  intro n
  induction n with
  | zero => intros; rfl
  | succ n ih =>
    intro tg v6 I hok
    by_cases ht0 : tg = 0
    · subst ht0
      rw [jX1_findO_3] at hok
      rw [jX1_findI_3]
      by_cases hc1 : (I 1 4) ≤ v6
      · rw [if_pos hc1]
        rw [ih _ _ _ ((hok).1 hc1)]
        try dsimp only
        rw [up2_ne (by omega)]
      · rw [if_neg hc1]
        by_cases hc2 : (((1 : Int32) <<< (v6 &&& 31)) &&& I 1 5) = 0
        · rw [if_pos hc2]
          all_goals have hs3 := (((hok).2 hc1).2 hc2).1
          all_goals have hs4 := ((((hok).2 hc1).2 hc2).2).1
          all_goals have hb4 := vp_lt hs4
          rw [ih _ _ _ (((((hok).2 hc1).2 hc2).2).2)]
          try dsimp only
          rw [up2_ne (by omega)]
        · rw [if_neg hc2]
          all_goals have hs5 := (((hok).2 hc1).1 hc2).1
          all_goals have hb5 := vp_lt hs5
          rw [ih _ _ _ ((((hok).2 hc1).1 hc2).2)]
          try dsimp only
          rw [up2_ne (by omega)]
    · skip
      by_cases ht1 : tg = 1
      · subst ht1
        rw [jX1_findO_57] at hok
        rw [jX1_findI_57]
        by_cases hc6 : ((1 : Int32) <<< ((I 1 3) &&& 31)) ≤ v6
        · rw [if_pos hc6]
          all_goals rfl
        · rw [if_neg hc6]
          by_cases hc7 : hs v6 a3
          · rw [if_pos hc7]
            by_cases hc8 : hs v6 a4
            · rw [if_pos hc8]
              rw [ih _ _ _ ((((hok).2 hc6).2 hc7).1 hc8)]
            · rw [if_neg hc8]
              all_goals have hs9 := ((((hok).2 hc6).2 hc7).2 hc8).1
              rw [ih _ _ _ (((((hok).2 hc6).2 hc7).2 hc8).2)]
              rw [frpX1_weigh h1 h2]
          · rw [if_neg hc7]
            rw [ih _ _ _ (((hok).2 hc6).1 hc7)]
      · skip
        show ((if tg = 0 then jX1_findB3 b2 a3 a4 a5 (jX1_findI b2 a3 a4 a5 n) v6 I else (if tg = 1 then jX1_findB57 b2 a3 a4 a5 (jX1_findI b2 a3 a4 a5 n) v6 I else I))) k = I k
        rw [if_neg ht0, if_neg ht1]
set_option maxRecDepth 10000 in
theorem frpX1_find {I : IM} {b2 : Nat} {a3 : Int32} {a4 : Int32} {a5 : Int32} (hb2 : isBk b2) (hp : jX1_findK I b2 a3 a4 a5) {k : Nat} (h1 : 18 ≤ k ∧ k ≤ 46 ∧ k % 4 = 2) (h2 : k < 136) : (jX1_find I b2 a3 a4 a5) k = I k := by
  unfold jX1_findK at hp
  unfold jX1_find
  rw [frpX1_findI hb2 h1 h2 FU _ _ _ (hp)]
set_option maxRecDepth 10000 in
set_option maxHeartbeats 1000000 in
theorem frpX2_passNeedsI  {k : Nat} (h1 : 18 ≤ k ∧ k ≤ 46 ∧ k % 4 = 2) (h2 : k < 136) : ∀ (n : Nat) (v1 : Int32) (I : IM), jX2_passNeedsO  n v1 I → (jX2_passNeedsI  n v1 I) k = I k := by
  intro n
  induction n with
  | zero => intros; rfl
  | succ n ih =>
    intro v1 I hok
    rw [jX2_passNeedsO_2] at hok
    rw [jX2_passNeedsI_2]
    by_cases hc1 : (I 15 1) ≤ v1
    · rw [if_pos hc1]
      all_goals rfl
    · rw [if_neg hc1]
      all_goals have hs2 := ((hok).2 hc1).1
      all_goals have hb2 := vp_lt hs2
      by_cases hc3 : (jX2_wayNow I (v1).toNatClampNeg) = 0
      · rw [if_pos hc3]
        rw [ih _ _ ((((hok).2 hc1).2).1 hc3)]
      · rw [if_neg hc3]
        all_goals have hs4 := ((((hok).2 hc1).2).2 hc3).1
        all_goals have hs5 := (((((hok).2 hc1).2).2 hc3).2).1
        rw [ih _ _ ((((((hok).2 hc1).2).2 hc3).2).2)]
        rw [frpX2_pass (by first | assumption | exact vp_lt (by assumption) | omega | exact Or.inl rfl | exact Or.inr rfl) hs5 h1 h2]
set_option maxRecDepth 10000 in
theorem frpX2_passNeeds {I : IM}  (hp : jX2_passNeedsK I ) {k : Nat} (h1 : 18 ≤ k ∧ k ≤ 46 ∧ k % 4 = 2) (h2 : k < 136) : (jX2_passNeeds I ) k = I k := by
  unfold jX2_passNeedsK at hp
  unfold jX2_passNeeds
  rw [frpX2_passNeedsI h1 h2 FU _ _ (hp)]
set_option maxRecDepth 10000 in
set_option maxHeartbeats 1000000 in
theorem frpX2_lendI  {k : Nat} (h1 : 18 ≤ k ∧ k ≤ 46 ∧ k % 4 = 2) (h2 : k < 136) : ∀ (n : Nat) (tg : Nat) (v1 v2 v3 : Int32) (I : IM), jX2_lendO  n tg v1 v2 v3 I → (jX2_lendI  n tg v1 v2 v3 I) k = I k := by
  intro n
  induction n with
  | zero => intros; rfl
  | succ n ih =>
    intro tg v1 v2 v3 I hok
    by_cases ht0 : tg = 0
    · subst ht0
      rw [jX2_lendO_9] at hok
      rw [jX2_lendI_9]
      by_cases hc1 : 10000 ≤ v3
      · rw [if_pos hc1]
        all_goals rfl
      · rw [if_neg hc1]
        by_cases hc2 : (I 15 1) ≤ v1
        · rw [if_pos hc2]
          all_goals rfl
        · rw [if_neg hc2]
          by_cases hc3 : (I 15 1) ≤ (v2 + 1)
          · rw [if_pos hc3]
            rw [ih _ _ _ _ _ ((((hok).2 hc1).2 hc2).1 hc3)]
          · rw [if_neg hc3]
            rw [ih _ _ _ _ _ ((((hok).2 hc1).2 hc2).2 hc3)]
    · skip
      by_cases ht1 : tg = 1
      · subst ht1
        rw [jX2_lendO_48] at hok
        rw [jX2_lendI_48]
        all_goals have hs4 := (hok).1
        all_goals have hb4 := vp_lt hs4
        all_goals have hs5 := ((hok).2).1
        by_cases hc6 : (jX2_canBorrow I (v2).toNatClampNeg) = 0
        · rw [if_pos hc6]
          rw [ih _ _ _ _ _ ((((hok).2).2).1 hc6)]
        · rw [if_neg hc6]
          all_goals have hs7 := ((((hok).2).2).2 hc6).1
          rw [ih _ _ _ _ _ (((((hok).2).2).2 hc6).2)]
          try dsimp only
          rw [up2_ne (by omega)]
          try dsimp only
          rw [up2_ne (by omega)]
          rw [frpX2_pass (by first | assumption | exact vp_lt (by assumption) | omega | exact Or.inl rfl | exact Or.inr rfl) hs7 h1 h2]
      · skip
        show ((if tg = 0 then jX2_lendB9  (jX2_lendI  n) v1 v2 v3 I else (if tg = 1 then jX2_lendB48  (jX2_lendI  n) v1 v2 v3 I else I))) k = I k
        rw [if_neg ht0, if_neg ht1]
set_option maxRecDepth 10000 in
theorem frpX2_lend {I : IM}  (hp : jX2_lendK I ) {k : Nat} (h1 : 18 ≤ k ∧ k ≤ 46 ∧ k % 4 = 2) (h2 : k < 136) : (jX2_lend I ) k = I k := by
  unfold jX2_lendK at hp
  unfold jX2_lend
  rw [frpX2_lendI h1 h2 FU _ _ _ _ _ (hp)]
set_option maxRecDepth 10000 in
theorem frpX2_doTick {I : IM}  (hp : (jX2_doTickK I)) {k : Nat} (h1 : 18 ≤ k ∧ k ≤ 46 ∧ k % 4 = 2) (h2 : k < 136) : jX2_doTickM I k = I k := by
  unfold jX2_doTickK at hp
  unfold jX2_doTickM
  all_goals have hs1 := (hp).1
  all_goals have hs2 := ((hp).2).1
  all_goals have hs3 := ((hp).2).2
  try dsimp only
  rw [up2_ne (by omega)]
  rw [frpX2_lend hs3 h1 h2]
  rw [frpX2_passNeeds hs2 h1 h2]
  rw [frpX2_forgetLatest hs1 h1 h2]
set_option maxRecDepth 10000 in
theorem frpX11_node {I : IM} {a1 : Int32} (hp : (jX11_nodeK I a1)) {k : Nat} (h1 : 18 ≤ k ∧ k ≤ 46 ∧ k % 4 = 2) (h2 : k < 136) : jX11_nodeM I a1 k = I k := by
  unfold jX11_nodeK at hp
  unfold jX11_nodeM
  by_cases hc1 : wi a1 0 100
  · rw [if_pos hc1]
    by_cases hc2 : (I 1 3) < 6
    · rw [if_pos hc2]
      all_goals have hs3 := ((hp).1 hc1).1 hc2
      rw [frpX5_addNode hs3 h1 h2]
    · rw [if_neg hc2]
      try dsimp only
      rw [frpX11_finding h1 h2]
  · rw [if_neg hc1]
    try dsimp only
    rw [frpX11_finding h1 h2]
set_option maxRecDepth 10000 in
theorem frpX11_line {I : IM} {a1 : Int32} {a2 : Int32} {a3 : Int32} {a4 : Int32} {a5 : Int32} (hp : (jX11_lineK I a1 a2 a3 a4 a5)) {k : Nat} (h1 : 18 ≤ k ∧ k ≤ 46 ∧ k % 4 = 2) (h2 : k < 136) : jX11_lineM I a1 a2 a3 a4 a5 k = I k := by
  unfold jX11_lineK at hp
  unfold jX11_lineM
  by_cases hc1 : tw I a1 a2
  · rw [if_pos hc1]
    by_cases hc2 : wi a3 1 50
    · rw [if_pos hc2]
      by_cases hc3 : wi a4 1 9
      · rw [if_pos hc3]
        by_cases hc4 : wi a5 0 9
        · rw [if_pos hc4]
          by_cases hc5 : (I 1 4) < 9
          · rw [if_pos hc5]
            all_goals have hs6 := (((((hp).2 hc1).2 hc2).2 hc3).2 hc4).1 hc5
            rw [frpX5_addLine hs6 h1 h2]
          · rw [if_neg hc5]
            try dsimp only
            rw [frpX11_finding h1 h2]
        · rw [if_neg hc4]
          try dsimp only
          rw [frpX11_finding h1 h2]
      · rw [if_neg hc3]
        try dsimp only
        rw [frpX11_finding h1 h2]
    · rw [if_neg hc2]
      try dsimp only
      rw [frpX11_finding h1 h2]
  · rw [if_neg hc1]
    try dsimp only
    rw [frpX11_finding h1 h2]
set_option maxRecDepth 10000 in
theorem frpX11_up {I : IM} {a1 : Int32} {a2 : Int32} {k : Nat} (h1 : 18 ≤ k ∧ k ≤ 46 ∧ k % 4 = 2) (h2 : k < 136) : jX11_upM I a1 a2 k = I k := by
  unfold jX11_upM
  by_cases hc1 : hL I a1
  · rw [if_pos hc1]
    by_cases hc2 : (jX5_setUp I a1 a2) = 0
    · skip
      rw [frpX5_setUp h1 h2]
    · skip
      rw [frpX5_setUp h1 h2]
  · rw [if_neg hc1]
    try dsimp only
    rw [frpX11_finding h1 h2]
theorem frpX5_waysBetween {I : IM} {a1 a2 : Int32} (hp : jFindK I a1 a2) {k : Nat} (h1 : 18 ≤ k ∧ k ≤ 46 ∧ k % 4 = 2) (h2 : k < 136) : jFindM I a1 a2 k = I k := frpX10_find hp h1 h2
set_option maxRecDepth 10000 in
theorem frpX11_ways {I : IM} {a1 : Int32} {a2 : Int32} (hp : (jX11_waysK I a1 a2)) {k : Nat} (h1 : 18 ≤ k ∧ k ≤ 46 ∧ k % 4 = 2) (h2 : k < 136) : jX11_waysM I a1 a2 k = I k := by
  unfold jX11_waysK at hp
  unfold jX11_waysM
  by_cases hc1 : tw I a1 a2
  · rw [if_pos hc1]
    all_goals have hs2 := (hp).2 hc1
    rw [frpX5_waysBetween hs2 h1 h2]
  · rw [if_neg hc1]
    try dsimp only
    rw [frpX11_finding h1 h2]
set_option maxRecDepth 10000 in
theorem frpX11_way {I : IM} {a1 : Int32} {a2 : Int32} {a3 : Int32} {a4 : Int32} (hp : (jX11_wayK I a1 a2 a3 a4)) {k : Nat} (h1 : 18 ≤ k ∧ k ≤ 46 ∧ k % 4 = 2) (h2 : k < 136) : jX11_wayM I a1 a2 a3 a4 k = I k := by
  unfold jX11_wayK at hp
  unfold jX11_wayM
  by_cases hc1 : tw I a1 a2
  · rw [if_pos hc1]
    by_cases hc2 : a3 < 0
    · rw [if_pos hc2]
      try dsimp only
      rw [frpX11_finding h1 h2]
    · rw [if_neg hc2]
      by_cases hc3 : (-1) ≤ a4
      · rw [if_pos hc3]
        all_goals have hs4 := ((((hp).2 hc1).2 hc2).1 hc3).1
        by_cases hc5 : a3 < ((jFindM I a1 a2) 4 4)
        · rw [if_pos hc5]
          all_goals have hs6 := (((((hp).2 hc1).2 hc2).1 hc3).2).1 hc5
          by_cases hc7 : a4 = (-1)
          · skip
            rw [frpX5_waysBetween hs4 h1 h2]
          · skip
            rw [frpX5_waysBetween hs4 h1 h2]
        · rw [if_neg hc5]
          try dsimp only
          rw [frpX11_finding h1 h2]
          rw [frpX5_waysBetween hs4 h1 h2]
      · rw [if_neg hc3]
        try dsimp only
        rw [frpX11_finding h1 h2]
  · rw [if_neg hc1]
    try dsimp only
    rw [frpX11_finding h1 h2]
set_option maxRecDepth 10000 in
theorem frpX11_flow {I : IM} {a1 : Int32} {a2 : Int32} {a3 : Int32} (hp : (jX11_flowK I a1 a2 a3)) {k : Nat} (h1 : 18 ≤ k ∧ k ≤ 46 ∧ k % 4 = 2) (h2 : k < 136) : jX11_flowM I a1 a2 a3 k = I k := by
  unfold jX11_flowK at hp
  unfold jX11_flowM
  by_cases hc1 : tw I a1 a2
  · rw [if_pos hc1]
    by_cases hc2 : wi a3 0 23
    · rw [if_pos hc2]
      all_goals have hs3 := ((hp).2 hc1).1 hc2
      rw [frpX1_find (by first | assumption | exact vp_lt (by assumption) | omega | exact Or.inl rfl | exact Or.inr rfl) hs3 h1 h2]
    · rw [if_neg hc2]
      try dsimp only
      rw [frpX11_finding h1 h2]
  · rw [if_neg hc1]
    try dsimp only
    rw [frpX11_finding h1 h2]
set_option maxRecDepth 10000 in
theorem frpX11_cut {I : IM} {a1 : Int32} {a2 : Int32} {a3 : Int32} (hp : (jX11_cutK I a1 a2 a3)) {k : Nat} (h1 : 18 ≤ k ∧ k ≤ 46 ∧ k % 4 = 2) (h2 : k < 136) : jX11_cutM I a1 a2 a3 k = I k := by
  unfold jX11_cutK at hp
  unfold jX11_cutM
  by_cases hc1 : tw I a1 a2
  · rw [if_pos hc1]
    by_cases hc2 : wi a3 0 23
    · rw [if_pos hc2]
      all_goals have hs3 := ((hp).2 hc1).1 hc2
      rw [frpX1_find (by first | assumption | exact vp_lt (by assumption) | omega | exact Or.inl rfl | exact Or.inr rfl) hs3 h1 h2]
    · rw [if_neg hc2]
      try dsimp only
      rw [frpX11_finding h1 h2]
  · rw [if_neg hc1]
    try dsimp only
    rw [frpX11_finding h1 h2]
set_option maxRecDepth 10000 in
theorem frpX11_slice {I : IM} {a1 : Int32} {a2 : Int32} {a3 : Int32} {a4 : Int32} {a5 : Int32} (hp : (jX11_sliceK I a1 a2 a3 a4 a5)) {k : Nat} (h1 : 18 ≤ k ∧ k ≤ 46 ∧ k % 4 = 2) (h2 : k < 136) : jX11_sliceM I a1 a2 a3 a4 a5 k = I k := by
  unfold jX11_sliceK at hp
  unfold jX11_sliceM
  by_cases hc1 : wi a1 0 4
  · rw [if_pos hc1]
    by_cases hc2 : tw I a2 a3
    · rw [if_pos hc2]
      by_cases hc3 : wi a4 1 20
      · rw [if_pos hc3]
        by_cases hc4 : wi a5 1 99
        · rw [if_pos hc4]
          by_cases hc5 : (I 15 1) < 8
          · rw [if_pos hc5]
            all_goals have hs6 := (((((hp).2 hc1).2 hc2).2 hc3).2 hc4).1 hc5
            rw [frpX9_add hs6 h1 h2]
          · rw [if_neg hc5]
            try dsimp only
            rw [frpX11_finding h1 h2]
        · rw [if_neg hc4]
          try dsimp only
          rw [frpX11_finding h1 h2]
      · rw [if_neg hc3]
        try dsimp only
        rw [frpX11_finding h1 h2]
    · rw [if_neg hc2]
      try dsimp only
      rw [frpX11_finding h1 h2]
  · rw [if_neg hc1]
    try dsimp only
    rw [frpX11_finding h1 h2]
set_option maxRecDepth 10000 in
theorem frpX11_terms {I : IM} {a1 : Int32} {a2 : Int32} {a3 : Int32} {a4 : Int32} (hp : (jX11_termsK I a1 a2 a3 a4)) {k : Nat} (h1 : 18 ≤ k ∧ k ≤ 46 ∧ k % 4 = 2) (h2 : k < 136) : jX11_termsM I a1 a2 a3 a4 k = I k := by
  unfold jX11_termsK at hp
  unfold jX11_termsM
  by_cases hc1 : hSl I a1
  · rw [if_pos hc1]
    all_goals have hs2 := ((hp).2 hc1).1
    all_goals have hb2 := vp_lt hs2
    by_cases hc3 : wi a2 0 (I (17 + 4 * (a1).toNatClampNeg) 3)
    · rw [if_pos hc3]
      by_cases hc4 : wi a3 0 20
      · rw [if_pos hc4]
        by_cases hc5 : wi a4 0 1000
        · rw [if_pos hc5]
          all_goals have hs6 := (((((hp).2 hc1).2).2 hc3).2 hc4).2 hc5
          all_goals have hb6 := vp_lt hs6
          by_cases hc7 : inS I (a1).toNatClampNeg
          · rw [if_pos hc7]
            try dsimp only
            rw [frpX11_finding h1 h2]
          · rw [if_neg hc7]
            rw [frpX8_setTerms (by first | assumption | exact vp_lt (by assumption) | omega | exact Or.inl rfl | exact Or.inr rfl) h1 h2]
        · rw [if_neg hc5]
          try dsimp only
          rw [frpX11_finding h1 h2]
      · rw [if_neg hc4]
        try dsimp only
        rw [frpX11_finding h1 h2]
    · rw [if_neg hc3]
      try dsimp only
      rw [frpX11_finding h1 h2]
  · rw [if_neg hc1]
    try dsimp only
    rw [frpX11_finding h1 h2]
set_option maxRecDepth 10000 in
theorem frpX11_span {I : IM} {a1 : Int32} {a2 : Int32} {a3 : Int32} {a4 : Int32} (hp : (jX11_spanK I a1 a2 a3 a4)) {k : Nat} (h1 : 18 ≤ k ∧ k ≤ 46 ∧ k % 4 = 2) (h2 : k < 136) : jX11_spanM I a1 a2 a3 a4 k = I k := by
  unfold jX11_spanK at hp
  unfold jX11_spanM
  by_cases hc1 : hSl I a1
  · rw [if_pos hc1]
    by_cases hc2 : wi a2 0 23
    · rw [if_pos hc2]
      by_cases hc3 : wi a3 0 23
      · rw [if_pos hc3]
        by_cases hc4 : a3 < a2
        · rw [if_pos hc4]
          try dsimp only
          rw [frpX11_finding h1 h2]
        · rw [if_neg hc4]
          by_cases hc5 : wi a4 0 63
          · rw [if_pos hc5]
            all_goals have hs6 := ((((((hp).2 hc1).2 hc2).2 hc3).2 hc4).2 hc5).1
            all_goals have hb6 := vp_lt hs6
            by_cases hc7 : inS I (a1).toNatClampNeg
            · rw [if_pos hc7]
              try dsimp only
              rw [frpX11_finding h1 h2]
            · rw [if_neg hc7]
              all_goals have hs8 := (((((((hp).2 hc1).2 hc2).2 hc3).2 hc4).2 hc5).2).1 hc7
              rw [frpX8_setSpan (by first | assumption | exact vp_lt (by assumption) | omega | exact Or.inl rfl | exact Or.inr rfl) hs8 h1 h2]
          · rw [if_neg hc5]
            try dsimp only
            rw [frpX11_finding h1 h2]
      · rw [if_neg hc3]
        try dsimp only
        rw [frpX11_finding h1 h2]
    · rw [if_neg hc2]
      try dsimp only
      rw [frpX11_finding h1 h2]
  · rw [if_neg hc1]
    try dsimp only
    rw [frpX11_finding h1 h2]
set_option maxRecDepth 10000 in
theorem frpX11_as {I : IM} {a1 : Int32} {a2 : Int32} (hp : (jX11_asK I a1 a2)) {k : Nat} (h1 : 18 ≤ k ∧ k ≤ 46 ∧ k % 4 = 2) (h2 : k < 136) : jX11_asM I a1 a2 k = I k := by
  unfold jX11_asK at hp
  unfold jX11_asM
  by_cases hc1 : hSl I a1
  · rw [if_pos hc1]
    by_cases hc2 : wi a2 0 4
    · rw [if_pos hc2]
      all_goals have hs3 := (((hp).2 hc1).1 hc2).1
      all_goals have hb3 := vp_lt hs3
      all_goals have hs4 := (((hp).2 hc1).1 hc2).2
      by_cases hc5 : (jX8_isOf I (a1).toNatClampNeg a2) = 0
      · rw [if_pos hc5]
        try dsimp only
        rw [frpX11_finding h1 h2]
      · rw [if_neg hc5]
        all_goals rfl
    · rw [if_neg hc2]
      try dsimp only
      rw [frpX11_finding h1 h2]
  · rw [if_neg hc1]
    try dsimp only
    rw [frpX11_finding h1 h2]
set_option maxRecDepth 10000 in
theorem frpX11_of {I : IM} {a1 : Int32} {a2 : Int32} (hp : (jX11_ofK I a1 a2)) {k : Nat} (h1 : 18 ≤ k ∧ k ≤ 46 ∧ k % 4 = 2) (h2 : k < 136) : jX11_ofM I a1 a2 k = I k := by
  unfold jX11_ofK at hp
  unfold jX11_ofM
  by_cases hc1 : hSl I a1
  · rw [if_pos hc1]
    by_cases hc2 : wi a2 0 17
    · rw [if_pos hc2]
      all_goals have hs3 := ((hp).2 hc1).1 hc2
      all_goals have hb3 := vp_lt hs3
    · rw [if_neg hc2]
      try dsimp only
      rw [frpX11_finding h1 h2]
  · rw [if_neg hc1]
    try dsimp only
    rw [frpX11_finding h1 h2]
set_option maxRecDepth 10000 in
theorem frpX11_goOut {I : IM} {i1 : Nat} (hi1 : i1 < 8) (hp : (jX11_goOutK I i1)) {k : Nat} (h1 : 18 ≤ k ∧ k ≤ 46 ∧ k % 4 = 2) (h2 : k < 136) : jX11_goOutM I i1 k = I k := by
  unfold jX11_goOutK at hp
  unfold jX11_goOutM
  all_goals have hs1 := hp
  try dsimp only
  rw [up2_ne (by omega)]
  rw [frpX0_enter (by first | assumption | exact vp_lt (by assumption) | omega | exact Or.inl rfl | exact Or.inr rfl) (by first | assumption | exact vp_lt (by assumption) | omega | exact Or.inl rfl | exact Or.inr rfl) hs1 h1 h2]
set_option maxRecDepth 10000 in
theorem frpX11_wayOf {I : IM} {a1 : Int32} {a2 : Int32} {a3 : Int32} (hp : (jX11_wayOfK I a1 a2 a3)) {k : Nat} (h1 : 18 ≤ k ∧ k ≤ 46 ∧ k % 4 = 2) (h2 : k < 136) : jX11_wayOfM I a1 a2 a3 k = I k := by
  unfold jX11_wayOfK at hp
  unfold jX11_wayOfM
  by_cases hc1 : hSl I a1
  · rw [if_pos hc1]
    by_cases hc2 : 0 ≤ a3
    · rw [if_pos hc2]
      all_goals have hs3 := (((hp).2 hc1).1 hc2).1
      all_goals have hb3 := vp_lt hs3
      by_cases hc4 : inS I (a1).toNatClampNeg
      · rw [if_pos hc4]
        by_cases hc5 : a2 = 0
        · rw [if_pos hc5]
          all_goals have hs6 := (((((hp).2 hc1).1 hc2).2).1 hc4).1 hc5
          all_goals rfl
        · rw [if_neg hc5]
          all_goals have hs7 := ((((((hp).2 hc1).1 hc2).2).1 hc4).2 hc5).1
          by_cases hc8 : (jX8_isOf I (a1).toNatClampNeg 1) = 0
          · rw [if_pos hc8]
            try dsimp only
            rw [frpX11_finding h1 h2]
          · rw [if_neg hc8]
            all_goals have hs9 := (((((((hp).2 hc1).1 hc2).2).1 hc4).2 hc5).2).1 hc8
            all_goals rfl
      · rw [if_neg hc4]
        try dsimp only
        rw [frpX11_finding h1 h2]
    · rw [if_neg hc2]
      try dsimp only
      rw [frpX11_finding h1 h2]
  · rw [if_neg hc1]
    try dsimp only
    rw [frpX11_finding h1 h2]
set_option maxRecDepth 10000 in
theorem frpX11_host {I : IM} {a1 : Int32} (hp : (jX11_hostK I a1)) {k : Nat} (h1 : 18 ≤ k ∧ k ≤ 46 ∧ k % 4 = 2) (h2 : k < 136) : jX11_hostM I a1 k = I k := by
  unfold jX11_hostK at hp
  unfold jX11_hostM
  by_cases hc1 : hSl I a1
  · rw [if_pos hc1]
    all_goals have hs2 := (hp).1 hc1
    all_goals have hb2 := vp_lt hs2
    by_cases hc3 : inS I (a1).toNatClampNeg
    · rw [if_pos hc3]
      all_goals rfl
    · rw [if_neg hc3]
      try dsimp only
      rw [frpX11_finding h1 h2]
  · rw [if_neg hc1]
    try dsimp only
    rw [frpX11_finding h1 h2]
set_option maxRecDepth 10000 in
theorem frpX11_load {I : IM} {a1 : Int32} {a2 : Int32} (hp : (jX11_loadK I a1 a2)) {k : Nat} (h1 : 18 ≤ k ∧ k ≤ 46 ∧ k % 4 = 2) (h2 : k < 136) : jX11_loadM I a1 a2 k = I k := by
  unfold jX11_loadK at hp
  unfold jX11_loadM
  by_cases hc1 : hL I a1
  · rw [if_pos hc1]
    by_cases hc2 : wi a2 0 23
    · rw [if_pos hc2]
      all_goals have hs3 := ((hp).2 hc1).2 hc2
      all_goals rfl
    · rw [if_neg hc2]
      try dsimp only
      rw [frpX11_finding h1 h2]
  · rw [if_neg hc1]
    try dsimp only
    rw [frpX11_finding h1 h2]
set_option maxRecDepth 10000 in
theorem frpX11_fallRoom {I : IM} {a1 : Int32} {a2 : Int32} (hp : (jX11_fallRoomK I a1 a2)) {k : Nat} (h1 : 18 ≤ k ∧ k ≤ 46 ∧ k % 4 = 2) (h2 : k < 136) : jX11_fallRoomM I a1 a2 k = I k := by
  unfold jX11_fallRoomK at hp
  unfold jX11_fallRoomM
  by_cases hc1 : hL I a1
  · rw [if_pos hc1]
    by_cases hc2 : wi a2 0 23
    · rw [if_pos hc2]
      all_goals have hs3 := ((hp).2 hc1).2 hc2
      all_goals rfl
    · rw [if_neg hc2]
      try dsimp only
      rw [frpX11_finding h1 h2]
  · rw [if_neg hc1]
    try dsimp only
    rw [frpX11_finding h1 h2]
set_option maxRecDepth 10000 in
theorem frpX11_work {I : IM} {a1 : Int32} {a2 : Int32} (hp : (jX11_workK I a1 a2)) {k : Nat} (h1 : 18 ≤ k ∧ k ≤ 46 ∧ k % 4 = 2) (h2 : k < 136) : jX11_workM I a1 a2 k = I k := by
  unfold jX11_workK at hp
  unfold jX11_workM
  by_cases hc1 : hN I a1
  · rw [if_pos hc1]
    by_cases hc2 : wi a2 0 23
    · rw [if_pos hc2]
      all_goals have hs3 := ((hp).2 hc1).2 hc2
      all_goals rfl
    · rw [if_neg hc2]
      try dsimp only
      rw [frpX11_finding h1 h2]
  · rw [if_neg hc1]
    try dsimp only
    rw [frpX11_finding h1 h2]
set_option maxRecDepth 10000 in
set_option maxHeartbeats 1000000 in
theorem frpX11_spareI {a1 : Int32} {k : Nat} (h1 : 18 ≤ k ∧ k ≤ 46 ∧ k % 4 = 2) (h2 : k < 136) : ∀ (n : Nat) (v2 v3 : Int32) (I : IM), jX11_spareO a1 n v2 v3 I → (jX11_spareI a1 n v2 v3 I).2 k = I k := by
  intro n
  induction n with
  | zero => intros; rfl
  | succ n ih =>
    intro v2 v3 I hok
    rw [jX11_spareO_34] at hok
    rw [jX11_spareI_34]
    by_cases hc1 : 24 ≤ v3
    · rw [if_pos hc1]
      all_goals rfl
    · rw [if_neg hc1]
      all_goals have hs2 := ((hok).2 hc1).1
      rw [ih _ _ _ (((hok).2 hc1).2)]
set_option maxRecDepth 10000 in
theorem frpX11_spare {I : IM} {a1 : Int32} (hp : jX11_spareK I a1) {k : Nat} (h1 : 18 ≤ k ∧ k ≤ 46 ∧ k % 4 = 2) (h2 : k < 136) : (jX11_spare I a1).2 k = I k := by
  unfold jX11_spareK at hp
  unfold jX11_spare
  by_cases hc1 : hL I a1
  · rw [if_pos hc1]
    all_goals have hs2 := ((hp).1 hc1).1
    rw [frpX11_spareI h1 h2 FU _ _ _ (((hp).1 hc1).2)]
  · rw [if_neg hc1]
    try dsimp only
    rw [frpX11_finding h1 h2]
set_option maxRecDepth 10000 in
set_option maxHeartbeats 1000000 in
theorem frpX11_tookI {a1 : Int32} {k : Nat} (h1 : 18 ≤ k ∧ k ≤ 46 ∧ k % 4 = 2) (h2 : k < 136) : ∀ (n : Nat) (v2 v3 v4 : Int32) (I : IM), jX11_tookO a1 n v2 v3 v4 I → (jX11_tookI a1 n v2 v3 v4 I).2 k = I k := by
  intro n
  induction n with
  | zero => intros; rfl
  | succ n ih =>
    intro v2 v3 v4 I hok
    rw [jX11_tookO_55] at hok
    rw [jX11_tookI_55]
    by_cases hc1 : (I 15 1) ≤ v4
    · rw [if_pos hc1]
      all_goals rfl
    · rw [if_neg hc1]
      all_goals have hs2 := ((hok).2 hc1).1
      all_goals have hb2 := vp_lt hs2
      by_cases hc3 : inS I (v4).toNatClampNeg
      · rw [if_pos hc3]
        by_cases hc4 : (jX8_takenWay I (v4).toNatClampNeg v2) = 0
        · rw [if_pos hc4]
          rw [ih _ _ _ _ (((((hok).2 hc1).2).2 hc3).2 hc4)]
        · rw [if_neg hc4]
          rw [ih _ _ _ _ (((((hok).2 hc1).2).2 hc3).1 hc4)]
      · rw [if_neg hc3]
        rw [ih _ _ _ _ ((((hok).2 hc1).2).1 hc3)]
set_option maxRecDepth 10000 in
theorem frpX11_took {I : IM} {a1 : Int32} (hp : jX11_tookK I a1) {k : Nat} (h1 : 18 ≤ k ∧ k ≤ 46 ∧ k % 4 = 2) (h2 : k < 136) : (jX11_took I a1).2 k = I k := by
  unfold jX11_tookK at hp
  unfold jX11_took
  by_cases hc1 : a1 = (-1)
  · rw [if_pos hc1]
    rw [frpX11_tookI h1 h2 FU _ _ _ _ ((hp).1 hc1)]
  · rw [if_neg hc1]
    by_cases hc2 : hL I a1
    · rw [if_pos hc2]
      rw [frpX11_tookI h1 h2 FU _ _ _ _ (((hp).2 hc1).1 hc2)]
    · rw [if_neg hc2]
      try dsimp only
      rw [frpX11_finding h1 h2]
set_option maxRecDepth 10000 in
theorem frpX11_offer {I : IM} {a1 : Int32} {a2 : Int32} (hp : (jX11_offerK I a1 a2)) {k : Nat} (h1 : 18 ≤ k ∧ k ≤ 46 ∧ k % 4 = 2) (h2 : k < 136) : jX11_offerM I a1 a2 k = I k := by
  unfold jX11_offerK at hp
  unfold jX11_offerM
  by_cases hc1 : hSl I a1
  · rw [if_pos hc1]
    by_cases hc2 : wi a2 1 100
    · rw [if_pos hc2]
      all_goals have hs3 := ((hp).2 hc1).1 hc2
      all_goals have hb3 := vp_lt hs3
      by_cases hc4 : ((I (17 + 4 * (a1).toNatClampNeg) 13) + a2) ≤ 1000
      · rw [if_pos hc4]
        try dsimp only
        rw [up2_ne (by omega)]
      · rw [if_neg hc4]
        try dsimp only
        rw [frpX11_finding h1 h2]
    · rw [if_neg hc2]
      try dsimp only
      rw [frpX11_finding h1 h2]
  · rw [if_neg hc1]
    try dsimp only
    rw [frpX11_finding h1 h2]
set_option maxRecDepth 10000 in
set_option maxHeartbeats 1000000 in
theorem frpX11_runI {a1 : Int32} {k : Nat} (h1 : 18 ≤ k ∧ k ≤ 46 ∧ k % 4 = 2) (h2 : k < 136) : ∀ (n : Nat) (v2 v3 : Int32) (I : IM), jX11_runO a1 n v2 v3 I → (jX11_runI a1 n v2 v3 I).2 k = I k := by
  intro n
  induction n with
  | zero => intros; rfl
  | succ n ih =>
    intro v2 v3 I hok
    rw [jX11_runO_27] at hok
    rw [jX11_runI_27]
    by_cases hc1 : a1 ≤ v3
    · rw [if_pos hc1]
      all_goals rfl
    · rw [if_neg hc1]
      all_goals have hs2 := ((hok).2 hc1).1
      rw [ih _ _ _ (((hok).2 hc1).2)]
      rw [frpX2_doTick hs2 h1 h2]
set_option maxRecDepth 10000 in
theorem frpX11_run {I : IM} {a1 : Int32} (hp : jX11_runK I a1) {k : Nat} (h1 : 18 ≤ k ∧ k ≤ 46 ∧ k % 4 = 2) (h2 : k < 136) : (jX11_run I a1).2 k = I k := by
  unfold jX11_runK at hp
  unfold jX11_run
  by_cases hc1 : wi a1 1 24
  · rw [if_pos hc1]
    rw [frpX11_runI h1 h2 FU _ _ _ ((hp).1 hc1)]
  · rw [if_neg hc1]
    try dsimp only
    rw [frpX11_finding h1 h2]
set_option maxRecDepth 10000 in
theorem frpX11_about {I : IM} {a1 : Int32} {a2 : Int32} (hp : (jX11_aboutK I a1 a2)) {k : Nat} (h1 : 18 ≤ k ∧ k ≤ 46 ∧ k % 4 = 2) (h2 : k < 136) : jX11_aboutM I a1 a2 k = I k := by
  unfold jX11_aboutK at hp
  unfold jX11_aboutM
  by_cases hc1 : hL I a1
  · rw [if_pos hc1]
    by_cases hc2 : wi a2 0 8
    · rw [if_pos hc2]
    · rw [if_neg hc2]
      try dsimp only
      rw [frpX11_finding h1 h2]
  · rw [if_neg hc1]
    try dsimp only
    rw [frpX11_finding h1 h2]
set_option maxRecDepth 10000 in
theorem frpX11_sheet {I : IM} {a1 : Int32} {a2 : Int32} {a3 : Int32} (hp : (jX11_sheetK I a1 a2 a3)) {k : Nat} (h1 : 18 ≤ k ∧ k ≤ 46 ∧ k % 4 = 2) (h2 : k < 136) : jX11_sheetM I a1 a2 a3 k = I k := by
  unfold jX11_sheetK at hp
  unfold jX11_sheetM
  by_cases hc1 : wi a1 0 3
  · rw [if_pos hc1]
    by_cases hc2 : a2 = 0
    · rw [if_pos hc2]
      by_cases hc3 : 0 ≤ a3
      · rw [if_pos hc3]
        by_cases hc4 : a3 ≤ 8
        · rw [if_pos hc4]
          all_goals have hs5 := (((((hp).2 hc1).1 hc2).1 hc3).1 hc4).1
          all_goals have hb5 := vp_lt hs5
          all_goals have hs6 := (((((hp).2 hc1).1 hc2).1 hc3).1 hc4).2
          rw [frpX7_begin (by first | assumption | exact vp_lt (by assumption) | omega | exact Or.inl rfl | exact Or.inr rfl) hs6 h1 h2]
        · rw [if_neg hc4]
          try dsimp only
          rw [frpX11_finding h1 h2]
      · rw [if_neg hc3]
        try dsimp only
        rw [frpX11_finding h1 h2]
    · rw [if_neg hc2]
      by_cases hc7 : a2 = 8
      · rw [if_pos hc7]
        by_cases hc8 : 0 ≤ a3
        · rw [if_pos hc8]
          by_cases hc9 : a3 ≤ 8
          · rw [if_pos hc9]
            all_goals have hs10 := ((((((hp).2 hc1).2 hc2).1 hc7).1 hc8).1 hc9).1
            all_goals have hb10 := vp_lt hs10
            all_goals have hs11 := ((((((hp).2 hc1).2 hc2).1 hc7).1 hc8).1 hc9).2
            rw [frpX7_begin (by first | assumption | exact vp_lt (by assumption) | omega | exact Or.inl rfl | exact Or.inr rfl) hs11 h1 h2]
          · rw [if_neg hc9]
            try dsimp only
            rw [frpX11_finding h1 h2]
        · rw [if_neg hc8]
          try dsimp only
          rw [frpX11_finding h1 h2]
      · rw [if_neg hc7]
        by_cases hc12 : a2 = 16
        · rw [if_pos hc12]
          by_cases hc13 : 0 ≤ a3
          · rw [if_pos hc13]
            by_cases hc14 : a3 ≤ 8
            · rw [if_pos hc14]
              all_goals have hs15 := (((((((hp).2 hc1).2 hc2).2 hc7).1 hc12).1 hc13).1 hc14).1
              all_goals have hb15 := vp_lt hs15
              all_goals have hs16 := (((((((hp).2 hc1).2 hc2).2 hc7).1 hc12).1 hc13).1 hc14).2
              rw [frpX7_begin (by first | assumption | exact vp_lt (by assumption) | omega | exact Or.inl rfl | exact Or.inr rfl) hs16 h1 h2]
            · rw [if_neg hc14]
              try dsimp only
              rw [frpX11_finding h1 h2]
          · rw [if_neg hc13]
            try dsimp only
            rw [frpX11_finding h1 h2]
        · rw [if_neg hc12]
          by_cases hc17 : a2 = 32
          · rw [if_pos hc17]
            by_cases hc18 : 0 ≤ a3
            · rw [if_pos hc18]
              by_cases hc19 : a3 ≤ 8
              · rw [if_pos hc19]
                all_goals have hs20 := ((((((((hp).2 hc1).2 hc2).2 hc7).2 hc12).1 hc17).1 hc18).1 hc19).1
                all_goals have hb20 := vp_lt hs20
                all_goals have hs21 := ((((((((hp).2 hc1).2 hc2).2 hc7).2 hc12).1 hc17).1 hc18).1 hc19).2
                rw [frpX7_begin (by first | assumption | exact vp_lt (by assumption) | omega | exact Or.inl rfl | exact Or.inr rfl) hs21 h1 h2]
              · rw [if_neg hc19]
                try dsimp only
                rw [frpX11_finding h1 h2]
            · rw [if_neg hc18]
              try dsimp only
              rw [frpX11_finding h1 h2]
          · rw [if_neg hc17]
            try dsimp only
            rw [frpX11_finding h1 h2]
  · rw [if_neg hc1]
    try dsimp only
    rw [frpX11_finding h1 h2]
set_option maxRecDepth 10000 in
theorem frpX11_write {I : IM} {a1 : Int32} {a2 : Int32} {a3 : Int32} (hp : (jX11_writeK I a1 a2)) {k : Nat} (h1 : 18 ≤ k ∧ k ≤ 46 ∧ k % 4 = 2) (h2 : k < 136) : jX11_writeM I a1 a2 a3 k = I k := by
  unfold jX11_writeK at hp
  unfold jX11_writeM
  by_cases hc1 : wi a1 0 3
  · rw [if_pos hc1]
    all_goals have hs2 := ((hp).1 hc1).1
    all_goals have hb2 := vp_lt hs2
    by_cases hc3 : I (71 + 2 * a1.toNatClampNeg) 1 = 0
    · rw [if_pos hc3]
      try dsimp only
      rw [frpX11_finding h1 h2]
    · rw [if_neg hc3]
      all_goals have hs4 := ((((hp).1 hc1).2).1 hc3).1
      all_goals have hb4 := vp_lt hs4
      by_cases hc5 : wi a2 0 ((I (71 + 2 * a1.toNatClampNeg) 2) - 1)
      · rw [if_pos hc5]
        all_goals have hs6 := ((((((hp).1 hc1).2).1 hc3).2).2 hc5).1
        all_goals have hb6 := vp_lt hs6
        all_goals have hs7 := ((((((hp).1 hc1).2).1 hc3).2).2 hc5).2
        rw [frpX7_put (by first | assumption | exact vp_lt (by assumption) | omega | exact Or.inl rfl | exact Or.inr rfl) hs7 h1 h2]
      · rw [if_neg hc5]
        try dsimp only
        rw [frpX11_finding h1 h2]
  · rw [if_neg hc1]
    try dsimp only
    rw [frpX11_finding h1 h2]
set_option maxRecDepth 10000 in
theorem frpX11_copy {I : IM} {a1 : Int32} {a2 : Int32} {a3 : Int32} {a4 : Int32} {a5 : Int32} (hp : (jX11_copyK I a1 a2 a3 a4 a5)) {k : Nat} (h1 : 18 ≤ k ∧ k ≤ 46 ∧ k % 4 = 2) (h2 : k < 136) : jX11_copyM I a1 a2 a3 a4 a5 k = I k := by
  unfold jX11_copyK at hp
  unfold jX11_copyM
  by_cases hc1 : wi a1 0 3
  · rw [if_pos hc1]
    by_cases hc2 : wi a3 0 3
    · rw [if_pos hc2]
      all_goals have hs3 := (((hp).2 hc1).1 hc2).1
      all_goals have hb3 := vp_lt hs3
      by_cases hc4 : I (71 + 2 * a1.toNatClampNeg) 1 = 0
      · rw [if_pos hc4]
        try dsimp only
        rw [frpX11_finding h1 h2]
      · rw [if_neg hc4]
        all_goals have hs5 := (((((hp).2 hc1).1 hc2).2).2 hc4).1
        all_goals have hb5 := vp_lt hs5
        by_cases hc6 : I (71 + 2 * a3.toNatClampNeg) 1 = 0
        · rw [if_pos hc6]
          try dsimp only
          rw [frpX11_finding h1 h2]
        · rw [if_neg hc6]
          all_goals have hs7 := (((((((hp).2 hc1).1 hc2).2).2 hc4).2).1 hc6).1
          all_goals have hb7 := vp_lt hs7
          all_goals have hs8 := ((((((((hp).2 hc1).1 hc2).2).2 hc4).2).1 hc6).2).1
          all_goals have hb8 := vp_lt hs8
          by_cases hc9 : (I (71 + 2 * a1.toNatClampNeg) 1) = (I (71 + 2 * a3.toNatClampNeg) 1)
          · rw [if_pos hc9]
            all_goals have hs10 := ((((((((((hp).2 hc1).1 hc2).2).2 hc4).2).1 hc6).2).2).1 hc9).1
            all_goals have hb10 := vp_lt hs10
            by_cases hc11 : (jHasRun I a1.toNatClampNeg a2 a5) = 0
            · rw [if_pos hc11]
              try dsimp only
              rw [frpX11_finding h1 h2]
            · rw [if_neg hc11]
              all_goals have hs12 := ((((((((((((hp).2 hc1).1 hc2).2).2 hc4).2).1 hc6).2).2).1 hc9).2).2 hc11).1
              all_goals have hb12 := vp_lt hs12
              by_cases hc13 : (jHasRun I a3.toNatClampNeg a4 a5) = 0
              · rw [if_pos hc13]
                try dsimp only
                rw [frpX11_finding h1 h2]
              · rw [if_neg hc13]
                all_goals have hs14 := ((((((((((((((hp).2 hc1).1 hc2).2).2 hc4).2).1 hc6).2).2).1 hc9).2).2 hc11).2).1 hc13).1
                all_goals have hb14 := vp_lt hs14
                all_goals have hs15 := (((((((((((((((hp).2 hc1).1 hc2).2).2 hc4).2).1 hc6).2).2).1 hc9).2).2 hc11).2).1 hc13).2).1
                all_goals have hb15 := vp_lt hs15
                all_goals have hs16 := (((((((((((((((hp).2 hc1).1 hc2).2).2 hc4).2).1 hc6).2).2).1 hc9).2).2 hc11).2).1 hc13).2).2
                rw [cpy2_ne (by omega)]
          · rw [if_neg hc9]
            try dsimp only
            rw [frpX11_finding h1 h2]
    · rw [if_neg hc2]
      try dsimp only
      rw [frpX11_finding h1 h2]
  · rw [if_neg hc1]
    try dsimp only
    rw [frpX11_finding h1 h2]
set_option maxRecDepth 10000 in
theorem frpX11_read {I : IM} {a1 : Int32} (hp : (jX11_readK I a1)) {k : Nat} (h1 : 18 ≤ k ∧ k ≤ 46 ∧ k % 4 = 2) (h2 : k < 136) : jX11_readM I a1 k = I k := by
  unfold jX11_readK at hp
  unfold jX11_readM
  by_cases hc1 : wi a1 0 3
  · rw [if_pos hc1]
    all_goals have hs2 := ((hp).1 hc1).1
    all_goals have hb2 := vp_lt hs2
    by_cases hc3 : I (71 + 2 * a1.toNatClampNeg) 1 = 0
    · rw [if_pos hc3]
      try dsimp only
      rw [frpX11_finding h1 h2]
    · rw [if_neg hc3]
      by_cases hc4 : (I 15 1) < (I (71 + 2 * a1.toNatClampNeg) 2)
      · rw [if_pos hc4]
        try dsimp only
        rw [frpX11_finding h1 h2]
      · rw [if_neg hc4]
        all_goals have hs5 := (((((hp).1 hc1).2).1 hc3).2 hc4).1
        by_cases hc6 : (jAbove I a1.toNatClampNeg 100) = 0
        · rw [if_pos hc6]
          all_goals have hs7 := (((((((hp).1 hc1).2).1 hc3).2 hc4).2).1 hc6).1
          by_cases hc8 : (jX9_wouldOverflow I a1.toNatClampNeg) = 0
          · rw [if_pos hc8]
            all_goals have hs9 := ((((((((hp).1 hc1).2).1 hc3).2 hc4).2).1 hc6).2).1 hc8
            rw [frpX9_offerAll (by first | assumption | exact vp_lt (by assumption) | omega | exact Or.inl rfl | exact Or.inr rfl) hs9 h1 h2]
          · rw [if_neg hc8]
            try dsimp only
            rw [frpX11_finding h1 h2]
        · rw [if_neg hc6]
          try dsimp only
          rw [frpX11_finding h1 h2]
  · rw [if_neg hc1]
    try dsimp only
    rw [frpX11_finding h1 h2]
set_option maxRecDepth 10000 in
theorem frpX11_out {I : IM} {a1 : Int32} (hp : (jX11_outK I a1)) {k : Nat} (h1 : 18 ≤ k ∧ k ≤ 46 ∧ k % 4 = 2) (h2 : k < 136) : jX11_outM I a1 k = I k := by
  unfold jX11_outK at hp
  unfold jX11_outM
  by_cases hc1 : hSl I a1
  · rw [if_pos hc1]
    all_goals have hs2 := ((hp).1 hc1).1
    all_goals have hb2 := vp_lt hs2
    by_cases hc3 : inS I (a1).toNatClampNeg
    · rw [if_pos hc3]
      all_goals have hs4 := (((hp).1 hc1).2).1 hc3
      rw [frpX11_goOut (by first | assumption | exact vp_lt (by assumption) | omega | exact Or.inl rfl | exact Or.inr rfl) hs4 h1 h2]
    · rw [if_neg hc3]
      try dsimp only
      rw [frpX11_finding h1 h2]
  · rw [if_neg hc1]
    try dsimp only
    rw [frpX11_finding h1 h2]
theorem frpX11_told {I : IM} {a1 : Int32} {k : Nat} (h1 : 18 ≤ k ∧ k ≤ 46 ∧ k % 4 = 2) (h2 : k < 136) : jX11_toldM I a1 k = I k := by
  unfold jX11_toldM
  (repeat' split) <;> first | rfl | exact frpX11_finding h1 h2
end
