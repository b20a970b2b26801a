noncomputable section
/-! the state that class and reference both stand for -/
def St : Type := (Nat → Nat → Nat) × (Nat → Nat → Nat → Int32)
def St.nn (S : St) : Nat := S.1 0 0
def St.nl (S : St) : Nat := S.1 1 0
def St.ns (S : St) : Nat := S.1 2 0
def St.wr (S : St) : Nat → Nat := S.1 3
def St.ea (S : St) : Nat → Nat := S.1 4
def St.eb (S : St) : Nat → Nat := S.1 5
def St.rm (S : St) : Nat → Nat := S.1 6
def St.lt (S : St) : Nat → Nat := S.1 7
def St.pr (S : St) : Nat → Nat := S.1 8
def St.dn (S : St) : Nat := S.1 9 0
def St.lat (S : St) : Nat → Nat := S.1 10
def St.ov (S : St) : Nat → Int32 := fun l => S.2 0 l 0
def St.er (S : St) : Nat → Int32 := fun l => S.2 1 l 0
def St.kd (S : St) : Nat → Nat := S.1 11
def St.sa (S : St) : Nat → Nat := S.1 12
def St.sb (S : St) : Nat → Nat := S.1 13
def St.rt (S : St) : Nat → Nat := S.1 14
def St.bd (S : St) : Nat → Nat := S.1 15
def St.ls (S : St) : Nat → Nat := S.1 16
def St.wk (S : St) : Nat → Nat := S.1 17
def St.wo (S : St) : Nat → Nat := S.1 18
def St.fi (S : St) : Nat → Nat := S.1 19
def St.la (S : St) : Nat → Nat := S.1 20
def St.ho (S : St) : Nat → Nat := S.1 21
def St.pl (S : St) : Nat → Nat := S.1 22
def St.wt (S : St) : Nat → Nat := S.1 23
def St.slt (S : St) : Nat → Nat := S.1 24
def St.ps (S : St) : Nat → Int32 := fun l => S.2 2 l 0
def St.ln (S : St) : Nat → Int32 := fun l => S.2 3 l 0
def St.pd (S : St) : Nat → Int32 := fun l => S.2 4 l 0
def St.tick (S : St) : Nat := S.1 25 0
def St.lent (S : St) : Nat := S.1 26 0
def St.finds (S : St) : Int32 := S.2 5 0 0
def St.tried (S : St) : Int32 := S.2 6 0 0
def St.psE (S : St) : Int32 := S.2 7 0 0
def St.pdE (S : St) : Int32 := S.2 8 0 0
def St.sbits (S : St) : Nat → Int32 := fun l => S.2 9 l 0
def St.ssize (S : St) : Nat → Nat := S.1 27
def St.sh (S : St) : Nat → Nat → Int32 := S.2 10
def St.s_nn (S : St) (v : Nat) : St := (fun k => if k = 0 then (fun _ => v) else S.1 k, S.2)
def St.s_nl (S : St) (v : Nat) : St := (fun k => if k = 1 then (fun _ => v) else S.1 k, S.2)
def St.s_ns (S : St) (v : Nat) : St := (fun k => if k = 2 then (fun _ => v) else S.1 k, S.2)
def St.s_wr (S : St) (v : Nat → Nat) : St := (fun k => if k = 3 then v else S.1 k, S.2)
def St.s_ea (S : St) (v : Nat → Nat) : St := (fun k => if k = 4 then v else S.1 k, S.2)
def St.s_eb (S : St) (v : Nat → Nat) : St := (fun k => if k = 5 then v else S.1 k, S.2)
def St.s_rm (S : St) (v : Nat → Nat) : St := (fun k => if k = 6 then v else S.1 k, S.2)
def St.s_lt (S : St) (v : Nat → Nat) : St := (fun k => if k = 7 then v else S.1 k, S.2)
def St.s_pr (S : St) (v : Nat → Nat) : St := (fun k => if k = 8 then v else S.1 k, S.2)
def St.s_dn (S : St) (v : Nat) : St := (fun k => if k = 9 then (fun _ => v) else S.1 k, S.2)
def St.s_lat (S : St) (v : Nat → Nat) : St := (fun k => if k = 10 then v else S.1 k, S.2)
def St.s_ov (S : St) (v : Nat → Int32) : St := (S.1, fun k => if k = 0 then (fun l _ => v l) else S.2 k)
def St.s_er (S : St) (v : Nat → Int32) : St := (S.1, fun k => if k = 1 then (fun l _ => v l) else S.2 k)
def St.s_kd (S : St) (v : Nat → Nat) : St := (fun k => if k = 11 then v else S.1 k, S.2)
def St.s_sa (S : St) (v : Nat → Nat) : St := (fun k => if k = 12 then v else S.1 k, S.2)
def St.s_sb (S : St) (v : Nat → Nat) : St := (fun k => if k = 13 then v else S.1 k, S.2)
def St.s_rt (S : St) (v : Nat → Nat) : St := (fun k => if k = 14 then v else S.1 k, S.2)
def St.s_bd (S : St) (v : Nat → Nat) : St := (fun k => if k = 15 then v else S.1 k, S.2)
def St.s_ls (S : St) (v : Nat → Nat) : St := (fun k => if k = 16 then v else S.1 k, S.2)
def St.s_wk (S : St) (v : Nat → Nat) : St := (fun k => if k = 17 then v else S.1 k, S.2)
def St.s_wo (S : St) (v : Nat → Nat) : St := (fun k => if k = 18 then v else S.1 k, S.2)
def St.s_fi (S : St) (v : Nat → Nat) : St := (fun k => if k = 19 then v else S.1 k, S.2)
def St.s_la (S : St) (v : Nat → Nat) : St := (fun k => if k = 20 then v else S.1 k, S.2)
def St.s_ho (S : St) (v : Nat → Nat) : St := (fun k => if k = 21 then v else S.1 k, S.2)
def St.s_pl (S : St) (v : Nat → Nat) : St := (fun k => if k = 22 then v else S.1 k, S.2)
def St.s_wt (S : St) (v : Nat → Nat) : St := (fun k => if k = 23 then v else S.1 k, S.2)
def St.s_slt (S : St) (v : Nat → Nat) : St := (fun k => if k = 24 then v else S.1 k, S.2)
def St.s_ps (S : St) (v : Nat → Int32) : St := (S.1, fun k => if k = 2 then (fun l _ => v l) else S.2 k)
def St.s_ln (S : St) (v : Nat → Int32) : St := (S.1, fun k => if k = 3 then (fun l _ => v l) else S.2 k)
def St.s_pd (S : St) (v : Nat → Int32) : St := (S.1, fun k => if k = 4 then (fun l _ => v l) else S.2 k)
def St.s_tick (S : St) (v : Nat) : St := (fun k => if k = 25 then (fun _ => v) else S.1 k, S.2)
def St.s_lent (S : St) (v : Nat) : St := (fun k => if k = 26 then (fun _ => v) else S.1 k, S.2)
def St.s_finds (S : St) (v : Int32) : St := (S.1, fun k => if k = 5 then (fun _ _ => v) else S.2 k)
def St.s_tried (S : St) (v : Int32) : St := (S.1, fun k => if k = 6 then (fun _ _ => v) else S.2 k)
def St.s_psE (S : St) (v : Int32) : St := (S.1, fun k => if k = 7 then (fun _ _ => v) else S.2 k)
def St.s_pdE (S : St) (v : Int32) : St := (S.1, fun k => if k = 8 then (fun _ _ => v) else S.2 k)
def St.s_sbits (S : St) (v : Nat → Int32) : St := (S.1, fun k => if k = 9 then (fun l _ => v l) else S.2 k)
def St.s_ssize (S : St) (v : Nat → Nat) : St := (fun k => if k = 27 then v else S.1 k, S.2)
def St.s_sh (S : St) (v : Nat → Nat → Int32) : St := (S.1, fun k => if k = 10 then v else S.2 k)
/-- a bitset out of a property -/
def bs (f : Nat → Bool) : Nat → Nat
  | 0 => 0
  | n + 1 => bs f n ||| (if f n = true then 2 ^ n else 0)
theorem bs_bit (f : Nat → Bool) : ∀ (n k : Nat), (bs f n).testBit k = (decide (k < n) && f k)
  | 0, k => by simp [bs]
  | n + 1, k => by
    unfold bs
    rw [Nat.testBit_or, bs_bit f n k]
    by_cases h : k = n
    · subst h
      by_cases hf : f k = true
      · simp [hf, pow_bit]
      · simp [hf]
    · have h1 : (if f n = true then 2 ^ n else 0).testBit k = false := by
        split
        · rw [pow_bit, decide_eq_false (fun q => h q.symm)]
        · simp
      rw [h1, Bool.or_false]
      by_cases h2 : k < n
      · rw [decide_eq_true h2, decide_eq_true (by omega)]
      · rw [decide_eq_false h2, decide_eq_false (by omega)]
theorem bs_lt (f : Nat → Bool) (n : Nat) : bs f n < 2 ^ n := set_lt fun k hk => by rw [bs_bit, decide_eq_false (by omega), Bool.false_and]
theorem bs_congr {f g : Nat → Bool} {n : Nat} (h : ∀ k, k < n → f k = g k) : bs f n = bs g n := set_eq fun k => by
  rw [bs_bit, bs_bit]
  by_cases hk : k < n
  · rw [h k hk]
  · rw [decide_eq_false hk]; rfl
/-- a PLACE as one number -/
abbrev wayN (p : Nat) : Nat := p % 512
abbrev spaN (p : Nat) : Nat := p / 512 % 512
abbrev hosN (p : Nat) : Nat := p / 262144
abbrev placeN (w u h : Nat) : Nat := w + 512 * u + 262144 * h
def St.need (S : St) (s : Nat) : Nat := if S.kd s = 3 then 0 else if S.kd s = 2 then S.ls s else S.rt s
def St.does (S : St) (s t : Nat) : Bool := decide (S.fi s ≤ t) && decide (t ≤ S.la s) && (decide (S.kd s ≠ 4) || (S.ho s).testBit (t % 6))
def St.tks (S : St) (s : Nat) : Nat := bs (fun t => S.does s t) 24
/-- the other end of a LINE -/
def St.oth (S : St) (l x : Nat) : Option Nat := if x = S.ea l then some (S.eb l) else if x = S.eb l then some (S.ea l) else none
/-- a WAY on from a NODE: the LINES, one behind the other -/
def St.path (S : St) : Nat → Nat → Nat → List Nat → Prop
  | x, _, b, [] => x = b
  | x, seen, b, l :: p => x ≠ b ∧ l < S.nl ∧ ∃ y, S.oth l x = some y ∧ seen.testBit y = false ∧ S.path y (seen ||| 2 ^ y) b p
def setOf : List Nat → Nat
  | [] => 0
  | l :: p => 2 ^ l ||| setOf p
def nodesOf (S : St) : Nat → List Nat → Nat
  | x, [] => 2 ^ x
  | x, l :: p => 2 ^ x ||| nodesOf S ((S.oth l x).getD 0) p
def rowN : List Nat → Nat → Nat
  | [], r => r
  | l :: p, r => rowN p (10 * r + l)
def lateN (S : St) : List Nat → Nat
  | [] => 0
  | l :: p => S.lt l + lateN S p
/-- a PLACE of a SLICE: WAY, SPARE, HOST -/
def St.isPl (S : St) (s : Nat) (w u : List Nat) (h : Nat) : Prop :=
  S.path (S.sa s) (2 ^ S.sa s) (S.sb s) w ∧ h < S.nn ∧ (S.kd s ≠ 1 → u = []) ∧ (S.kd s = 1 → S.path (S.sa s) (2 ^ S.sa s) (S.sb s) u ∧ setOf w &&& setOf u = 0)
/-- what LINES and NODES bear: P the PLACES (0: none), D who COUNTS when -/
def St.ld (S : St) (P : Nat → Nat) (D : Nat → Nat → Bool) (l t : Nat) : Nat := sm (fun s => if P s ≠ 0 ∧ D s t = true ∧ (wayN (P s)).testBit l = true then S.need s else 0) S.ns
def St.pa (S : St) (P : Nat → Nat) (D : Nat → Nat → Bool) (l f t : Nat) : Nat := sm (fun s => if P s ≠ 0 ∧ D s t = true ∧ (wayN (P s)).testBit f = true ∧ (spaN (P s)).testBit l = true then S.need s else 0) S.ns
def St.fl (S : St) (P : Nat → Nat) (D : Nat → Nat → Bool) (l t : Nat) : Nat := mx (fun f => S.pa P D l f t) 9
def St.wo' (S : St) (P : Nat → Nat) (D : Nat → Nat → Bool) (a t : Nat) : Nat := sm (fun s => if P s ≠ 0 ∧ D s t = true ∧ hosN (P s) = a then S.wk s else 0) S.ns
/-- ALL HOLDS -/
def St.linesOk (S : St) (P : Nat → Nat) (D : Nat → Nat → Bool) (t : Nat) : Prop := ∀ l, l < S.nl → S.ld P D l t + S.fl P D l t ≤ S.rm l
def St.worksOk (S : St) (P : Nat → Nat) (D : Nat → Nat → Bool) (t : Nat) : Prop := ∀ a, a < S.nn → S.wo' P D a t ≤ S.wr a
def St.allOk (S : St) (P : Nat → Nat) (D : Nat → Nat → Bool) (n : Nat) : Prop := ∀ t, t < n → S.linesOk P D t ∧ S.worksOk P D t
def St.plOk (S : St) (P : Nat → Nat) : Prop := ∀ s, s < 8 → P s ≠ 0 → s < S.ns ∧ ∃ w u h, S.isPl s w u h ∧ P s = placeN (setOf w) (setOf u) h
/-- bounds -/
def St.netOk (S : St) : Prop := S.nn ≤ 6 ∧ S.nl ≤ 9 ∧ (∀ a, a < S.nn → S.wr a ≤ 100) ∧ S.dn < 2 ^ S.nl ∧
  ∀ l, l < S.nl → S.ea l < S.nn ∧ S.eb l < S.nn ∧ S.ea l ≠ S.eb l ∧ 1 ≤ S.rm l ∧ S.rm l ≤ 50 ∧ 1 ≤ S.lt l ∧ S.lt l ≤ 9 ∧ S.pr l ≤ 9 ∧ S.lat l ≤ S.rm l
def St.slOk (S : St) : Prop := S.ns ≤ 8 ∧ (∀ s, s < S.ns → S.kd s ≤ 4 ∧ S.sa s < S.nn ∧ S.sb s < S.nn ∧ S.sa s ≠ S.sb s ∧ 1 ≤ S.rt s ∧ S.rt s ≤ 20 ∧ 1 ≤ S.bd s ∧ S.bd s ≤ 99 ∧ S.ls s ≤ S.rt s ∧ S.wk s ≤ 20 ∧ S.wo s ≤ 1000 ∧ S.fi s ≤ S.la s ∧ S.la s ≤ 23 ∧ S.ho s < 64 ∧ S.wt s ≤ 1000 ∧ S.slt s ≤ 20) ∧
  (∀ s, s < 8 → S.ns ≤ s → S.fi s = 0 ∧ S.ho s = 0 ∧ S.wt s = 0 ∧ S.slt s = 0 ∧ S.ls s = 0 ∧ S.wk s = 0 ∧ S.wo s = 0)
def St.dayOk (S : St) : Prop := S.tick < 24 ∧ S.lent ≤ 8 ∧ ∀ l, l < 9 → S.nl ≤ l → S.lat l = 0
def St.shOk (S : St) : Prop := ∀ t, t < 4 → S.ssize t ≤ 8
def St.ok (S : St) : Prop := S.netOk ∧ S.slOk ∧ S.dayOk ∧ S.shOk ∧ S.plOk S.pl ∧ S.allOk S.pl S.does 24
/-! the class's cells -/
def cNet (S : St) (C : IM) : Prop := C 1 3 = nI S.nn ∧ C 1 4 = nI S.nl ∧ (∀ a, a < 6 → C 2 a = nI (S.wr a)) ∧ ∀ l, l < 9 → C (6 + l) 0 = nI (S.ea l) ∧ C (6 + l) 1 = nI (S.eb l) ∧ C (6 + l) 2 = nI (S.rm l) ∧ C (6 + l) 3 = nI (S.lt l) ∧ C (6 + l) 4 = nI (S.pr l)
def cPass (S : St) (C : IM) : Prop := ∀ l, l < 9 → C (6 + l) 5 = S.ov l ∧ C (6 + l) 6 = nI (S.lat l) ∧ C (6 + l) 7 = S.er l
def cDn (S : St) (C : IM) : Prop := C 1 5 = nI S.dn
def cSl (S : St) (C : IM) : Prop := C 15 1 = nI S.ns ∧ ∀ s, s < 8 → C (17 + 4 * s) 0 = nI (S.kd s) ∧ C (17 + 4 * s) 1 = nI (S.sa s) ∧ C (17 + 4 * s) 2 = nI (S.sb s) ∧ C (17 + 4 * s) 3 = nI (S.rt s) ∧ C (17 + 4 * s) 4 = nI (S.bd s) ∧ C (17 + 4 * s) 5 = nI (S.ls s) ∧ C (17 + 4 * s) 6 = nI (S.wk s) ∧ C (17 + 4 * s) 7 = nI (S.wo s) ∧ C (17 + 4 * s) 8 = nI (S.fi s) ∧ C (17 + 4 * s) 9 = nI (S.la s) ∧ C (17 + 4 * s) 10 = nI (S.ho s)
def cTk (S : St) (C : IM) : Prop := ∀ s, s < S.ns → C (17 + 4 * s) 11 = nI (S.tks s)
def cPl (S : St) (C : IM) : Prop := ∀ s, s < 8 → C (17 + 4 * s) 12 = nI (S.pl s)
def cWt (S : St) (C : IM) : Prop := ∀ s, s < 8 → C (17 + 4 * s) 13 = nI (S.wt s) ∧ C (17 + 4 * s) 14 = S.ps s ∧ C (17 + 4 * s) 15 = S.ln s ∧ C (17 + 4 * s) 16 = S.pd s ∧ C (17 + 4 * s) 17 = nI (S.slt s)
/-- a book at b, over n TICKS -/
def cBk (S : St) (P : Nat → Nat) (D : Nat → Nat → Bool) (b n : Nat) (C : IM) : Prop := ∀ t, t < n → (∀ l, l < 9 → C (b + 1 + 0) (9 * t + l) = nI (S.ld P D l t) ∧ C (b + 1 + 1) (9 * t + l) = nI (S.fl P D l t) ∧ ∀ f, f < 9 → C (b + 1 + 2) ((9 * t + l) * 9 + f) = nI (S.pa P D l f t)) ∧ ∀ a, a < 6 → C (b + 1 + 3) (6 * t + a) = nI (S.wo' P D a t)
def cTri (C : IM) : Prop := (∀ j, j < 216 → C 58 j = 0 ∧ C 59 j = 0) ∧ (∀ j, j < 1944 → C 60 j = 0) ∧ ∀ j, j < 144 → C 61 j = 0
def cDay (S : St) (C : IM) : Prop := C 69 2 = nI S.lent - 1 ∧ C 69 3 = nI S.tick ∧ C 69 4 = S.psE ∧ C 69 5 = S.pdE
def cFnd (S : St) (C : IM) : Prop := C 0 7 = S.finds
def cTry (S : St) (C : IM) : Prop := C 56 11 = S.tried
def cSh (S : St) (C : IM) : Prop := ∀ t, t < 4 → C (71 + 2 * t) 1 = S.sbits t ∧ C (71 + 2 * t) 2 = nI (S.ssize t) ∧ ∀ j, j < 8 → C (72 + 2 * t) j = S.sh t j
/-! the reference's cells -/
def mNet (S : St) (M : IM) : Prop := M 79 0 = nI S.nn ∧ M 79 1 = nI S.nl ∧ (∀ a, a < 6 → M 80 a = nI (S.wr a)) ∧ (∀ l, l < 9 → M 81 l = nI (S.ea l) ∧ M 82 l = nI (S.eb l) ∧ M 83 l = nI (S.rm l) ∧ M 84 l = nI (S.lt l) ∧ M 85 l = nI (S.pr l)) ∧ ∀ l, l < S.nl → M 89 l = if S.dn.testBit l = true then 0 else 1
def mPass (S : St) (M : IM) : Prop := ∀ l, l < 9 → M 86 l = S.ov l ∧ M 87 l = nI (S.lat l) ∧ M 88 l = S.er l
def mSl (S : St) (M : IM) : Prop := M 79 2 = nI S.ns ∧ ∀ s, s < 8 → M 90 s = nI (S.kd s) ∧ M 91 s = nI (S.sa s) ∧ M 92 s = nI (S.sb s) ∧ M 93 s = nI (S.rt s) ∧ M 94 s = nI (S.bd s) ∧ M 95 s = nI (S.ls s) ∧ M 96 s = nI (S.wk s) ∧ M 97 s = nI (S.wo s) ∧ M 98 s = nI (S.fi s) ∧ M 99 s = nI (S.la s) ∧ M 100 s = nI (S.ho s)
def mWt (S : St) (M : IM) : Prop := ∀ s, s < 8 → M 101 s = nI (S.wt s) ∧ M 102 s = S.ps s ∧ M 103 s = S.ln s ∧ M 104 s = S.pd s ∧ M 105 s = nI (S.slt s)
def mPl (S : St) (P : Nat → Nat) (M : IM) : Prop := ∀ s, s < 8 → (P s = 0 → M 106 s = 0) ∧ (P s ≠ 0 → M 106 s = 1 ∧ M 107 s = nI (wayN (P s)) ∧ M 108 s = nI (spaN (P s)) ∧ M 111 s = nI (hosN (P s)) ∧ ∃ w u h, S.isPl s w u h ∧ P s = placeN (setOf w) (setOf u) h ∧ M 109 s = nI (rowN w 0) ∧ M 110 s = nI (rowN u 0))
def mDay (S : St) (M : IM) : Prop := M 79 8 = nI S.lent - 1 ∧ M 79 3 = nI S.tick ∧ M 79 6 = S.psE ∧ M 79 7 = S.pdE
def mFnd (S : St) (M : IM) : Prop := M 79 4 = S.finds
def mTry (S : St) (M : IM) : Prop := M 79 5 = S.tried
def mSh (S : St) (M : IM) : Prop := ∀ t, t < 4 → M 112 t = S.sbits t ∧ M 113 t = nI (S.ssize t) ∧ ∀ j, j < 8 → M 114 (8 * t + j) = S.sh t j
def RM (S : St) (M : IM) : Prop := mNet S M ∧ mPass S M ∧ mSl S M ∧ mWt S M ∧ mPl S S.pl M ∧ mDay S M ∧ mFnd S M ∧ mTry S M ∧ mSh S M
end
