/-! where the cells lie behind both constructors -/
def kL0 : List Nat := [11, 5, 13, 15, 10, 13, 4, 4, 4, 4, 4, 4, 4, 4, 4, 9, 17, 8, 6, 13, 13, 8, 6, 13, 13, 8, 6, 13, 13, 8, 6, 13, 13, 8, 6, 13, 13, 8, 6, 13, 13, 8, 6, 13, 13, 8, 6, 13, 13, 0, 13, 13, 13, 13, 1, 13, 3, 0, 13, 13, 13, 13, 13, 13, 13, 13, 13, 13, 13, 2, 16, 7, 13, 7, 13, 7, 13, 7, 13, 12, 13, 13, 13, 13, 13, 13, 13, 13, 13, 14, 13, 13, 13, 13, 13, 13, 13, 13, 13, 13, 13, 13, 13, 13, 13, 13, 14, 13, 13, 13, 13, 13, 13, 13, 13, 13, 13, 13, 13, 13, 13, 13, 13, 13, 13, 13, 13, 13, 14, 13, 13, 13, 13, 13, 14, 13]
def lL0 : List Nat := [0, 0, 6, 9, 0, 27, 0, 0, 0, 0, 0, 0, 0, 0, 0, 0, 8, 0, 0, 0, 0, 0, 0, 0, 0, 0, 0, 0, 0, 0, 0, 0, 0, 0, 0, 0, 0, 0, 0, 0, 0, 0, 0, 0, 0, 0, 0, 0, 0, 0, 216, 216, 1944, 144, 0, 9, 0, 0, 216, 216, 1944, 144, 24, 8, 8, 8, 8, 256, 256, 0, 4, 0, 8, 0, 8, 0, 8, 0, 8, 0, 6, 9, 9, 9, 9, 9, 9, 9, 9, 9, 8, 8, 8, 8, 8, 8, 8, 8, 8, 8, 8, 8, 8, 8, 8, 8, 8, 8, 8, 8, 8, 8, 4, 4, 32, 9, 2304, 2304, 2304, 2304, 2304, 6, 6, 6, 8, 8, 8, 8, 8, 8, 8, 8, 8, 8, 256, 8]
def rL0 : List (List (Option Nat)) := [[some 1, some 15, some 49, some 54, some 56, some 69, some 70, none], [some 2, some 3, some 4, none, none, none], [], [some 6, some 7, some 8, some 9, some 10, some 11, some 12, some 13, some 14], [some 5, none, none, none, none], [], [], [], [], [], [], [], [], [], [], [some 16, none], [some 17, some 21, some 25, some 29, some 33, some 37, some 41, some 45], [none, none, none, none, none, none, none, none, none, none, none, none, none, none, none, none, none, none, some 18], [none, none, none, none, none], [], [], [none, none, none, none, none, none, none, none, none, none, none, none, none, none, none, none, none, none, some 22], [none, none, none, none, none], [], [], [none, none, none, none, none, none, none, none, none, none, none, none, none, none, none, none, none, none, some 26], [none, none, none, none, none], [], [], [none, none, none, none, none, none, none, none, none, none, none, none, none, none, none, none, none, none, some 30], [none, none, none, none, none], [], [], [none, none, none, none, none, none, none, none, none, none, none, none, none, none, none, none, none, none, some 34], [none, none, none, none, none], [], [], [none, none, none, none, none, none, none, none, none, none, none, none, none, none, none, none, none, none, some 38], [none, none, none, none, none], [], [], [none, none, none, none, none, none, none, none, none, none, none, none, none, none, none, none, none, none, some 42], [none, none, none, none, none], [], [], [none, none, none, none, none, none, none, none, none, none, none, none, none, none, none, none, none, none, some 46], [none, none, none, none, none], [], [], [some 50, some 51, some 52, some 53, none], [], [], [], [], [some 55, none, none], [], [some 1, some 15, some 57, some 62, some 63, some 64, some 65, some 66, some 67, some 68, none, none, none], [some 58, some 59, some 60, some 61, none], [], [], [], [], [], [], [], [], [], [], [], [some 1, some 15, none, none, none, none], [some 71, some 73, some 75, some 77], [some 72, none, none], [], [some 74, none, none], [], [some 76, none, none], [], [some 78, none, none], [], [none, none, none, none, none, none, none, none, none, some 80, some 81, some 82, some 83, some 84, some 85, some 86, some 87, some 88, some 89, some 90, some 91, some 92, some 93, some 94, some 95, some 96, some 97, some 98, some 99, some 100, some 101, some 102, some 103, some 104, some 105, some 106, some 107, some 108, some 109, some 110, some 111, some 112, some 113, some 114, some 115, some 116, some 117, some 118, some 119, some 120, some 121, some 122, some 123, none, none, some 124, some 125, some 126, some 127, some 128, some 129, some 130, some 131, some 132, some 133, some 134, some 135], [], [], [], [], [], [], [], [], [], [], [], [], [], [], [], [], [], [], [], [], [], [], [], [], [], [], [], [], [], [], [], [], [], [], [], [], [], [], [], [], [], [], [], [], [], [], [], [], [], [], [], [], [], [], [], []]
def tK0 (k : Nat) : Nat := kL0.getD k 0
def tL0 (k : Nat) : Nat := lL0.getD k 0
def tR0 (k j : Nat) : Option Nat := (rL0.getD k []).getD j none
def isPl (k : Nat) : Bool := Nat.ble 18 k && (Nat.ble k 46 && (k % 4 == 2))
/-- the cells lie as the constructors laid them (but for the rows of Places) -/
def Lay (T : Topo) : Prop := 136 ≤ tN T ∧ (∀ k, k < 136 → tK T k = tK0 k) ∧ (∀ k, k < 136 → tL T k = tL0 k) ∧ (∀ k j, k < 136 → isPl k = false → tR T k j = tR0 k j)
theorem blt_lt {a b : Nat} (h : Nat.blt a b = true) : a < b := by
  have : Nat.ble (a + 1) b = true := h
  exact Nat.le_of_ble_eq_true this
theorem Lay.k {T : Topo} (h : Lay T) (k : Nat) (hk : Nat.blt k 136 = true) : tK T k = tK0 k := h.2.1 k (blt_lt hk)
theorem Lay.l {T : Topo} (h : Lay T) (k : Nat) (hk : Nat.blt k 136 = true) : tL T k = tL0 k := h.2.2.1 k (blt_lt hk)
theorem Lay.r {T : Topo} (h : Lay T) (k j : Nat) (hk : Nat.blt k 136 = true) (hp : isPl k = false) : tR T k j = tR0 k j := h.2.2.2 k j (blt_lt hk) hp
theorem lay_line : ∀ i, i < 9 → tK0 (6 + i) = 4 ∧ tR0 3 i = some (6 + i) := by decide +kernel
theorem lay_slice : ∀ i, i < 8 → tK0 (17 + 4 * i) = 8 ∧ tR0 16 i = some (17 + 4 * i) ∧ tR0 (17 + 4 * i) 18 = some (18 + 4 * i) ∧ isPl (17 + 4 * i) = false ∧ tK0 (18 + 4 * i) = 6 := by decide +kernel
theorem lay_sheet : ∀ i, i < 4 → tK0 (71 + 2 * i) = 7 ∧ tR0 70 i = some (71 + 2 * i) ∧ tR0 (71 + 2 * i) 0 = some (72 + 2 * i) ∧ isPl (71 + 2 * i) = false ∧ tK0 (72 + 2 * i) = 13 ∧ tL0 (72 + 2 * i) = 8 := by decide +kernel
theorem Lay.lineK {T : Topo} (h : Lay T) {i : Nat} (hi : i < 9) : tK T (6 + i) = 4 := (h.2.1 _ (by omega)).trans (lay_line i hi).1
theorem Lay.lineR {T : Topo} (h : Lay T) {i : Nat} (hi : i < 9) : tR T 3 i = some (6 + i) := (h.r 3 i rfl rfl).trans (lay_line i hi).2
theorem Lay.sliceK {T : Topo} (h : Lay T) {i : Nat} (hi : i < 8) : tK T (17 + 4 * i) = 8 := (h.2.1 _ (by omega)).trans (lay_slice i hi).1
theorem Lay.sliceR {T : Topo} (h : Lay T) {i : Nat} (hi : i < 8) : tR T 16 i = some (17 + 4 * i) := (h.r 16 i rfl rfl).trans (lay_slice i hi).2.1
theorem Lay.sliceP {T : Topo} (h : Lay T) {i : Nat} (hi : i < 8) : tR T (17 + 4 * i) 18 = some (18 + 4 * i) := (h.2.2.2 _ _ (by omega) (lay_slice i hi).2.2.2.1).trans (lay_slice i hi).2.2.1
theorem Lay.placesK {T : Topo} (h : Lay T) {i : Nat} (hi : i < 8) : tK T (18 + 4 * i) = 6 := (h.2.1 _ (by omega)).trans (lay_slice i hi).2.2.2.2
theorem Lay.sheetK {T : Topo} (h : Lay T) {i : Nat} (hi : i < 4) : tK T (71 + 2 * i) = 7 := (h.2.1 _ (by omega)).trans (lay_sheet i hi).1
theorem Lay.sheetR {T : Topo} (h : Lay T) {i : Nat} (hi : i < 4) : tR T 70 i = some (71 + 2 * i) := (h.r 70 i rfl rfl).trans (lay_sheet i hi).2.1
theorem Lay.sheetN {T : Topo} (h : Lay T) {i : Nat} (hi : i < 4) : tR T (71 + 2 * i) 0 = some (72 + 2 * i) := (h.2.2.2 _ _ (by omega) (lay_sheet i hi).2.2.2.1).trans (lay_sheet i hi).2.2.1
theorem Lay.sheetA {T : Topo} (h : Lay T) {i : Nat} (hi : i < 4) : tK T (72 + 2 * i) = 13 := (h.2.1 _ (by omega)).trans (lay_sheet i hi).2.2.2.2.1
theorem Lay.sheetL {T : Topo} (h : Lay T) {i : Nat} (hi : i < 4) : tL T (72 + 2 * i) = 8 := (h.2.2.1 _ (by omega)).trans (lay_sheet i hi).2.2.2.2.2
def isBk (b : Nat) : Prop := b = 49 ∨ b = 57
theorem Lay.bookK {T : Topo} (h : Lay T) {b : Nat} (hb : isBk b) : tK T b = 0 := by rcases hb with rfl | rfl <;> exact h.k _ rfl
theorem Lay.bookR {T : Topo} (h : Lay T) {b : Nat} (hb : isBk b) (j : Nat) (hj : Nat.blt j 4 = true) : tR T b j = some (b + 1 + j) := by
  have hj' := blt_lt hj
  rcases hb with rfl | rfl
  · rw [h.r _ _ rfl rfl]; match j, hj' with
    | 0, _ => rfl
    | 1, _ => rfl
    | 2, _ => rfl
    | 3, _ => rfl
    | j + 4, hj' => omega
  · rw [h.r _ _ rfl rfl]; match j, hj' with
    | 0, _ => rfl
    | 1, _ => rfl
    | 2, _ => rfl
    | 3, _ => rfl
    | j + 4, hj' => omega
theorem Lay.bookA {T : Topo} (h : Lay T) {b : Nat} (hb : isBk b) (j : Nat) (hj : Nat.blt j 4 = true) : tK T (b + 1 + j) = 13 := by
  have hj' := blt_lt hj
  rcases hb with rfl | rfl
  · match j, hj' with
    | 0, _ => exact h.k _ rfl
    | 1, _ => exact h.k _ rfl
    | 2, _ => exact h.k _ rfl
    | 3, _ => exact h.k _ rfl
    | j + 4, hj' => omega
  · match j, hj' with
    | 0, _ => exact h.k _ rfl
    | 1, _ => exact h.k _ rfl
    | 2, _ => exact h.k _ rfl
    | 3, _ => exact h.k _ rfl
    | j + 4, hj' => omega
def bkLen (j : Nat) : Nat := [216, 216, 1944, 144].getD j 0
theorem Lay.bookL {T : Topo} (h : Lay T) {b : Nat} (hb : isBk b) (j : Nat) (hj : Nat.blt j 4 = true) : tL T (b + 1 + j) = bkLen j := by
  have hj' := blt_lt hj
  rcases hb with rfl | rfl
  · match j, hj' with
    | 0, _ => exact h.l _ rfl
    | 1, _ => exact h.l _ rfl
    | 2, _ => exact h.l _ rfl
    | 3, _ => exact h.l _ rfl
    | j + 4, hj' => omega
  · match j, hj' with
    | 0, _ => exact h.l _ rfl
    | 1, _ => exact h.l _ rfl
    | 2, _ => exact h.l _ rfl
    | 3, _ => exact h.l _ rfl
    | j + 4, hj' => omega
theorem vp_lt {i : Int32} {N : Nat} (h : vp_in i N) : i.toNatClampNeg < N := Nat.not_le.mp fun q => h (Or.inr q)
section JX
variable {d : Nat} {M : Mth} {Post : Pst} {C S pc pc' c sl : Nat} {ls : List (Option Value)} {st : List Value} {T : Topo} {I : IM}
theorem J.atpc (h : pc = pc') (k : J d M Post C S pc' ls st T I c sl) : J d M Post C S pc ls st T I c sl := h ▸ k
theorem J.iald {k N : Nat} {i : Int32} (hd : decode M.2.1 pc = .ok (.iaload, 1)) (hκ : tK T k = 13) (hL : tL T k = N) (hin : vp_in i N)
    (kk : J d M Post C S (pc + 1) ls (.int (I k i.toNatClampNeg) :: st) T I c sl) : J d M Post C S pc ls (.int i :: .ref k :: st) T I c sl := J.iaload hd hκ (by rw [hL]; exact hin) kk
theorem J.bald {k N : Nat} {i : Int32} (hd : decode M.2.1 pc = .ok (.baload, 1)) (hκ : tK T k = 14) (hL : tL T k = N) (hin : vp_in i N)
    (kk : J d M Post C S (pc + 1) ls (.int (I k i.toNatClampNeg) :: st) T I c sl) : J d M Post C S pc ls (.int i :: .ref k :: st) T I c sl := J.baload hd hκ (by rw [hL]; exact hin) kk
theorem J.iast {k N : Nat} {i x : Int32} (hd : decode M.2.1 pc = .ok (.iastore, 1)) (hκ : tK T k = 13) (hL : tL T k = N) (hin : vp_in i N)
    (kk : J d M Post C S (pc + 1) ls st T (up2 I k i.toNatClampNeg x) c sl) : J d M Post C S pc ls (.int x :: .int i :: .ref k :: st) T I c sl := J.iastore hd hκ (by rw [hL]; exact hin) kk
theorem J.bast {k N : Nat} {i x : Int32} (hd : decode M.2.1 pc = .ok (.bastore, 1)) (hκ : tK T k = 14) (hL : tL T k = N) (hin : vp_in i N) (hz : x = 0 ∨ x = 1)
    (kk : J d M Post C S (pc + 1) ls st T (up2 I k i.toNatClampNeg x) c sl) : J d M Post C S pc ls (.int x :: .int i :: .ref k :: st) T I c sl := J.bastore hd hκ (by rw [hL]; exact hin) hz kk
theorem J.aald {k r N κ : Nat} {i : Int32} {CC : String} (hd : decode M.2.1 pc = .ok (.aaload, 1)) (hκ : tK T k = κ) (h15 : Nat.ble 15 κ = true) (hty : aTy κ = .object CC) (hL : tL T k = N) (hin : vp_in i N) (hR : tR T k i.toNatClampNeg = some r)
    (kk : J d M Post C S (pc + 1) ls (.ref r :: st) T I c sl) : J d M Post C S pc ls (.int i :: .ref k :: st) T I c sl := J.aaload hd (by rw [hκ]; exact Nat.le_of_ble_eq_true h15) (by rw [hκ]; exact hty) (by rw [hL]; exact hin) hR kk
end JX
