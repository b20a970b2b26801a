noncomputable section
def S00 : St := (fun _ _ => 0, fun _ _ _ => 0)
set_option maxRecDepth 20000 in
theorem z_0 : cI420 0 = fun _ => 0 := rfl
set_option maxRecDepth 20000 in
theorem z_1 : cI420 1 = fun _ => 0 := rfl
set_option maxRecDepth 20000 in
theorem z_2 : cI420 2 = fun _ => 0 := rfl
set_option maxRecDepth 20000 in
theorem z_3 : cI420 3 = fun _ => 0 := rfl
set_option maxRecDepth 20000 in
theorem z_5 : cI420 5 = fun _ => 0 := rfl
set_option maxRecDepth 20000 in
theorem z_6 : cI420 6 = fun _ => 0 := rfl
set_option maxRecDepth 20000 in
theorem z_7 : cI420 7 = fun _ => 0 := rfl
set_option maxRecDepth 20000 in
theorem z_8 : cI420 8 = fun _ => 0 := rfl
set_option maxRecDepth 20000 in
theorem z_9 : cI420 9 = fun _ => 0 := rfl
set_option maxRecDepth 20000 in
theorem z_10 : cI420 10 = fun _ => 0 := rfl
set_option maxRecDepth 20000 in
theorem z_11 : cI420 11 = fun _ => 0 := rfl
set_option maxRecDepth 20000 in
theorem z_12 : cI420 12 = fun _ => 0 := rfl
set_option maxRecDepth 20000 in
theorem z_13 : cI420 13 = fun _ => 0 := rfl
set_option maxRecDepth 20000 in
theorem z_14 : cI420 14 = fun _ => 0 := rfl
set_option maxRecDepth 20000 in
theorem z_15 : cI420 15 = fun _ => 0 := rfl
set_option maxRecDepth 20000 in
theorem z_16 : cI420 16 = fun _ => 0 := rfl
set_option maxRecDepth 20000 in
theorem z_17 : cI420 17 = fun _ => 0 := rfl
set_option maxRecDepth 20000 in
theorem z_19 : cI420 19 = fun _ => 0 := rfl
set_option maxRecDepth 20000 in
theorem z_20 : cI420 20 = fun _ => 0 := rfl
set_option maxRecDepth 20000 in
theorem z_21 : cI420 21 = fun _ => 0 := rfl
set_option maxRecDepth 20000 in
theorem z_23 : cI420 23 = fun _ => 0 := rfl
set_option maxRecDepth 20000 in
theorem z_24 : cI420 24 = fun _ => 0 := rfl
set_option maxRecDepth 20000 in
theorem z_25 : cI420 25 = fun _ => 0 := rfl
set_option maxRecDepth 20000 in
theorem z_27 : cI420 27 = fun _ => 0 := rfl
set_option maxRecDepth 20000 in
theorem z_28 : cI420 28 = fun _ => 0 := rfl
set_option maxRecDepth 20000 in
theorem z_29 : cI420 29 = fun _ => 0 := rfl
set_option maxRecDepth 20000 in
theorem z_31 : cI420 31 = fun _ => 0 := rfl
set_option maxRecDepth 20000 in
theorem z_32 : cI420 32 = fun _ => 0 := rfl
set_option maxRecDepth 20000 in
theorem z_33 : cI420 33 = fun _ => 0 := rfl
set_option maxRecDepth 20000 in
theorem z_35 : cI420 35 = fun _ => 0 := rfl
set_option maxRecDepth 20000 in
theorem z_36 : cI420 36 = fun _ => 0 := rfl
set_option maxRecDepth 20000 in
theorem z_37 : cI420 37 = fun _ => 0 := rfl
set_option maxRecDepth 20000 in
theorem z_39 : cI420 39 = fun _ => 0 := rfl
set_option maxRecDepth 20000 in
theorem z_40 : cI420 40 = fun _ => 0 := rfl
set_option maxRecDepth 20000 in
theorem z_41 : cI420 41 = fun _ => 0 := rfl
set_option maxRecDepth 20000 in
theorem z_43 : cI420 43 = fun _ => 0 := rfl
set_option maxRecDepth 20000 in
theorem z_44 : cI420 44 = fun _ => 0 := rfl
set_option maxRecDepth 20000 in
theorem z_45 : cI420 45 = fun _ => 0 := rfl
set_option maxRecDepth 20000 in
theorem z_47 : cI420 47 = fun _ => 0 := rfl
set_option maxRecDepth 20000 in
theorem z_48 : cI420 48 = fun _ => 0 := rfl
set_option maxRecDepth 20000 in
theorem z_50 : cI420 50 = fun _ => 0 := rfl
set_option maxRecDepth 20000 in
theorem z_51 : cI420 51 = fun _ => 0 := rfl
set_option maxRecDepth 20000 in
theorem z_52 : cI420 52 = fun _ => 0 := rfl
set_option maxRecDepth 20000 in
theorem z_53 : cI420 53 = fun _ => 0 := rfl
set_option maxRecDepth 20000 in
theorem z_54 : cI420 54 = fun _ => 0 := rfl
set_option maxRecDepth 20000 in
theorem z_55 : cI420 55 = fun _ => 0 := rfl
set_option maxRecDepth 20000 in
theorem z_56 : cI420 56 = fun _ => 0 := rfl
set_option maxRecDepth 20000 in
theorem z_58 : cI420 58 = fun _ => 0 := rfl
set_option maxRecDepth 20000 in
theorem z_59 : cI420 59 = fun _ => 0 := rfl
set_option maxRecDepth 20000 in
theorem z_60 : cI420 60 = fun _ => 0 := rfl
set_option maxRecDepth 20000 in
theorem z_61 : cI420 61 = fun _ => 0 := rfl
set_option maxRecDepth 20000 in
theorem z_62 : cI420 62 = fun _ => 0 := rfl
set_option maxRecDepth 20000 in
theorem z_63 : cI420 63 = fun _ => 0 := rfl
set_option maxRecDepth 20000 in
theorem z_64 : cI420 64 = fun _ => 0 := rfl
set_option maxRecDepth 20000 in
theorem z_65 : cI420 65 = fun _ => 0 := rfl
set_option maxRecDepth 20000 in
theorem z_66 : cI420 66 = fun _ => 0 := rfl
set_option maxRecDepth 20000 in
theorem z_67 : cI420 67 = fun _ => 0 := rfl
set_option maxRecDepth 20000 in
theorem z_68 : cI420 68 = fun _ => 0 := rfl
set_option maxRecDepth 20000 in
theorem z_70 : cI420 70 = fun _ => 0 := rfl
set_option maxRecDepth 20000 in
theorem z_71 : cI420 71 = fun _ => 0 := rfl
set_option maxRecDepth 20000 in
theorem z_72 : cI420 72 = fun _ => 0 := rfl
set_option maxRecDepth 20000 in
theorem z_73 : cI420 73 = fun _ => 0 := rfl
set_option maxRecDepth 20000 in
theorem z_74 : cI420 74 = fun _ => 0 := rfl
set_option maxRecDepth 20000 in
theorem z_75 : cI420 75 = fun _ => 0 := rfl
set_option maxRecDepth 20000 in
theorem z_76 : cI420 76 = fun _ => 0 := rfl
set_option maxRecDepth 20000 in
theorem z_77 : cI420 77 = fun _ => 0 := rfl
set_option maxRecDepth 20000 in
theorem z_78 : cI420 78 = fun _ => 0 := rfl
set_option maxRecDepth 20000 in
theorem z_80 : cI420 80 = fun _ => 0 := rfl
set_option maxRecDepth 20000 in
theorem z_81 : cI420 81 = fun _ => 0 := rfl
set_option maxRecDepth 20000 in
theorem z_82 : cI420 82 = fun _ => 0 := rfl
set_option maxRecDepth 20000 in
theorem z_83 : cI420 83 = fun _ => 0 := rfl
set_option maxRecDepth 20000 in
theorem z_84 : cI420 84 = fun _ => 0 := rfl
set_option maxRecDepth 20000 in
theorem z_85 : cI420 85 = fun _ => 0 := rfl
set_option maxRecDepth 20000 in
theorem z_86 : cI420 86 = fun _ => 0 := rfl
set_option maxRecDepth 20000 in
theorem z_87 : cI420 87 = fun _ => 0 := rfl
set_option maxRecDepth 20000 in
theorem z_88 : cI420 88 = fun _ => 0 := rfl
set_option maxRecDepth 20000 in
theorem z_89 : cI420 89 = fun _ => 0 := rfl
set_option maxRecDepth 20000 in
theorem z_90 : cI420 90 = fun _ => 0 := rfl
set_option maxRecDepth 20000 in
theorem z_91 : cI420 91 = fun _ => 0 := rfl
set_option maxRecDepth 20000 in
theorem z_92 : cI420 92 = fun _ => 0 := rfl
set_option maxRecDepth 20000 in
theorem z_93 : cI420 93 = fun _ => 0 := rfl
set_option maxRecDepth 20000 in
theorem z_94 : cI420 94 = fun _ => 0 := rfl
set_option maxRecDepth 20000 in
theorem z_95 : cI420 95 = fun _ => 0 := rfl
set_option maxRecDepth 20000 in
theorem z_96 : cI420 96 = fun _ => 0 := rfl
set_option maxRecDepth 20000 in
theorem z_97 : cI420 97 = fun _ => 0 := rfl
set_option maxRecDepth 20000 in
theorem z_98 : cI420 98 = fun _ => 0 := rfl
set_option maxRecDepth 20000 in
theorem z_99 : cI420 99 = fun _ => 0 := rfl
set_option maxRecDepth 20000 in
theorem z_100 : cI420 100 = fun _ => 0 := rfl
set_option maxRecDepth 20000 in
theorem z_101 : cI420 101 = fun _ => 0 := rfl
set_option maxRecDepth 20000 in
theorem z_102 : cI420 102 = fun _ => 0 := rfl
set_option maxRecDepth 20000 in
theorem z_103 : cI420 103 = fun _ => 0 := rfl
set_option maxRecDepth 20000 in
theorem z_104 : cI420 104 = fun _ => 0 := rfl
set_option maxRecDepth 20000 in
theorem z_105 : cI420 105 = fun _ => 0 := rfl
set_option maxRecDepth 20000 in
theorem z_106 : cI420 106 = fun _ => 0 := rfl
set_option maxRecDepth 20000 in
theorem z_107 : cI420 107 = fun _ => 0 := rfl
set_option maxRecDepth 20000 in
theorem z_108 : cI420 108 = fun _ => 0 := rfl
set_option maxRecDepth 20000 in
theorem z_109 : cI420 109 = fun _ => 0 := rfl
set_option maxRecDepth 20000 in
theorem z_110 : cI420 110 = fun _ => 0 := rfl
set_option maxRecDepth 20000 in
theorem z_111 : cI420 111 = fun _ => 0 := rfl
set_option maxRecDepth 20000 in
theorem z_112 : cI420 112 = fun _ => 0 := rfl
set_option maxRecDepth 20000 in
theorem z_113 : cI420 113 = fun _ => 0 := rfl
set_option maxRecDepth 20000 in
theorem z_114 : cI420 114 = fun _ => 0 := rfl
set_option maxRecDepth 20000 in
theorem z_115 : cI420 115 = fun _ => 0 := rfl
set_option maxRecDepth 20000 in
theorem z_116 : cI420 116 = fun _ => 0 := rfl
set_option maxRecDepth 20000 in
theorem z_117 : cI420 117 = fun _ => 0 := rfl
set_option maxRecDepth 20000 in
theorem z_118 : cI420 118 = fun _ => 0 := rfl
set_option maxRecDepth 20000 in
theorem z_119 : cI420 119 = fun _ => 0 := rfl
set_option maxRecDepth 20000 in
theorem z_120 : cI420 120 = fun _ => 0 := rfl
set_option maxRecDepth 20000 in
theorem z_121 : cI420 121 = fun _ => 0 := rfl
set_option maxRecDepth 20000 in
theorem z_122 : cI420 122 = fun _ => 0 := rfl
set_option maxRecDepth 20000 in
theorem z_123 : cI420 123 = fun _ => 0 := rfl
set_option maxRecDepth 20000 in
theorem z_124 : cI420 124 = fun _ => 0 := rfl
set_option maxRecDepth 20000 in
theorem z_125 : cI420 125 = fun _ => 0 := rfl
set_option maxRecDepth 20000 in
theorem z_126 : cI420 126 = fun _ => 0 := rfl
set_option maxRecDepth 20000 in
theorem z_127 : cI420 127 = fun _ => 0 := rfl
set_option maxRecDepth 20000 in
theorem z_128 : cI420 128 = fun _ => 0 := rfl
set_option maxRecDepth 20000 in
theorem z_129 : cI420 129 = fun _ => 0 := rfl
set_option maxRecDepth 20000 in
theorem z_130 : cI420 130 = fun _ => 0 := rfl
set_option maxRecDepth 20000 in
theorem z_131 : cI420 131 = fun _ => 0 := rfl
set_option maxRecDepth 20000 in
theorem z_132 : cI420 132 = fun _ => 0 := rfl
set_option maxRecDepth 20000 in
theorem z_133 : cI420 133 = fun _ => 0 := rfl
set_option maxRecDepth 20000 in
theorem z_134 : cI420 134 = fun _ => 0 := rfl
set_option maxRecDepth 20000 in
theorem z_135 : cI420 135 = fun _ => 0 := rfl
set_option maxRecDepth 20000 in
theorem zero_cells (k : Nat) (h : k < 136) (n1 : k ≠ 4 ∧ k ≠ 49 ∧ k ≠ 57 ∧ k ≠ 69 ∧ k ≠ 79) (n2 : ¬ (18 ≤ k ∧ k ≤ 46 ∧ k % 4 = 2)) : cI420 k = fun _ => 0 := by
  have hc : (0 ≤ k ∧ k < 12) ∨ (12 ≤ k ∧ k < 24) ∨ (24 ≤ k ∧ k < 36) ∨ (36 ≤ k ∧ k < 48) ∨ (48 ≤ k ∧ k < 60) ∨ (60 ≤ k ∧ k < 72) ∨ (72 ≤ k ∧ k < 84) ∨ (84 ≤ k ∧ k < 96) ∨ (96 ≤ k ∧ k < 108) ∨ (108 ≤ k ∧ k < 120) ∨ (120 ≤ k ∧ k < 132) ∨ (132 ≤ k ∧ k < 136) := by omega
  rcases hc with q | q | q | q | q | q | q | q | q | q | q | q
  · have e : k = 0 ∨ k = 1 ∨ k = 2 ∨ k = 3 ∨ k = 5 ∨ k = 6 ∨ k = 7 ∨ k = 8 ∨ k = 9 ∨ k = 10 ∨ k = 11 := by omega
    rcases e with e | e | e | e | e | e | e | e | e | e | e
    · subst e; exact z_0
    · subst e; exact z_1
    · subst e; exact z_2
    · subst e; exact z_3
    · subst e; exact z_5
    · subst e; exact z_6
    · subst e; exact z_7
    · subst e; exact z_8
    · subst e; exact z_9
    · subst e; exact z_10
    · subst e; exact z_11
  · have e : k = 12 ∨ k = 13 ∨ k = 14 ∨ k = 15 ∨ k = 16 ∨ k = 17 ∨ k = 19 ∨ k = 20 ∨ k = 21 ∨ k = 23 := by omega
    rcases e with e | e | e | e | e | e | e | e | e | e
    · subst e; exact z_12
    · subst e; exact z_13
    · subst e; exact z_14
    · subst e; exact z_15
    · subst e; exact z_16
    · subst e; exact z_17
    · subst e; exact z_19
    · subst e; exact z_20
    · subst e; exact z_21
    · subst e; exact z_23
  · have e : k = 24 ∨ k = 25 ∨ k = 27 ∨ k = 28 ∨ k = 29 ∨ k = 31 ∨ k = 32 ∨ k = 33 ∨ k = 35 := by omega
    rcases e with e | e | e | e | e | e | e | e | e
    · subst e; exact z_24
    · subst e; exact z_25
    · subst e; exact z_27
    · subst e; exact z_28
    · subst e; exact z_29
    · subst e; exact z_31
    · subst e; exact z_32
    · subst e; exact z_33
    · subst e; exact z_35
  · have e : k = 36 ∨ k = 37 ∨ k = 39 ∨ k = 40 ∨ k = 41 ∨ k = 43 ∨ k = 44 ∨ k = 45 ∨ k = 47 := by omega
    rcases e with e | e | e | e | e | e | e | e | e
    · subst e; exact z_36
    · subst e; exact z_37
    · subst e; exact z_39
    · subst e; exact z_40
    · subst e; exact z_41
    · subst e; exact z_43
    · subst e; exact z_44
    · subst e; exact z_45
    · subst e; exact z_47
  · have e : k = 48 ∨ k = 50 ∨ k = 51 ∨ k = 52 ∨ k = 53 ∨ k = 54 ∨ k = 55 ∨ k = 56 ∨ k = 58 ∨ k = 59 := by omega
    rcases e with e | e | e | e | e | e | e | e | e | e
    · subst e; exact z_48
    · subst e; exact z_50
    · subst e; exact z_51
    · subst e; exact z_52
    · subst e; exact z_53
    · subst e; exact z_54
    · subst e; exact z_55
    · subst e; exact z_56
    · subst e; exact z_58
    · subst e; exact z_59
  · have e : k = 60 ∨ k = 61 ∨ k = 62 ∨ k = 63 ∨ k = 64 ∨ k = 65 ∨ k = 66 ∨ k = 67 ∨ k = 68 ∨ k = 70 ∨ k = 71 := by omega
    rcases e with e | e | e | e | e | e | e | e | e | e | e
    · subst e; exact z_60
    · subst e; exact z_61
    · subst e; exact z_62
    · subst e; exact z_63
    · subst e; exact z_64
    · subst e; exact z_65
    · subst e; exact z_66
    · subst e; exact z_67
    · subst e; exact z_68
    · subst e; exact z_70
    · subst e; exact z_71
  · have e : k = 72 ∨ k = 73 ∨ k = 74 ∨ k = 75 ∨ k = 76 ∨ k = 77 ∨ k = 78 ∨ k = 80 ∨ k = 81 ∨ k = 82 ∨ k = 83 := by omega
    rcases e with e | e | e | e | e | e | e | e | e | e | e
    · subst e; exact z_72
    · subst e; exact z_73
    · subst e; exact z_74
    · subst e; exact z_75
    · subst e; exact z_76
    · subst e; exact z_77
    · subst e; exact z_78
    · subst e; exact z_80
    · subst e; exact z_81
    · subst e; exact z_82
    · subst e; exact z_83
  · have e : k = 84 ∨ k = 85 ∨ k = 86 ∨ k = 87 ∨ k = 88 ∨ k = 89 ∨ k = 90 ∨ k = 91 ∨ k = 92 ∨ k = 93 ∨ k = 94 ∨ k = 95 := by omega
    rcases e with e | e | e | e | e | e | e | e | e | e | e | e
    · subst e; exact z_84
    · subst e; exact z_85
    · subst e; exact z_86
    · subst e; exact z_87
    · subst e; exact z_88
    · subst e; exact z_89
    · subst e; exact z_90
    · subst e; exact z_91
    · subst e; exact z_92
    · subst e; exact z_93
    · subst e; exact z_94
    · subst e; exact z_95
  · have e : k = 96 ∨ k = 97 ∨ k = 98 ∨ k = 99 ∨ k = 100 ∨ k = 101 ∨ k = 102 ∨ k = 103 ∨ k = 104 ∨ k = 105 ∨ k = 106 ∨ k = 107 := by omega
    rcases e with e | e | e | e | e | e | e | e | e | e | e | e
    · subst e; exact z_96
    · subst e; exact z_97
    · subst e; exact z_98
    · subst e; exact z_99
    · subst e; exact z_100
    · subst e; exact z_101
    · subst e; exact z_102
    · subst e; exact z_103
    · subst e; exact z_104
    · subst e; exact z_105
    · subst e; exact z_106
    · subst e; exact z_107
  · have e : k = 108 ∨ k = 109 ∨ k = 110 ∨ k = 111 ∨ k = 112 ∨ k = 113 ∨ k = 114 ∨ k = 115 ∨ k = 116 ∨ k = 117 ∨ k = 118 ∨ k = 119 := by omega
    rcases e with e | e | e | e | e | e | e | e | e | e | e | e
    · subst e; exact z_108
    · subst e; exact z_109
    · subst e; exact z_110
    · subst e; exact z_111
    · subst e; exact z_112
    · subst e; exact z_113
    · subst e; exact z_114
    · subst e; exact z_115
    · subst e; exact z_116
    · subst e; exact z_117
    · subst e; exact z_118
    · subst e; exact z_119
  · have e : k = 120 ∨ k = 121 ∨ k = 122 ∨ k = 123 ∨ k = 124 ∨ k = 125 ∨ k = 126 ∨ k = 127 ∨ k = 128 ∨ k = 129 ∨ k = 130 ∨ k = 131 := by omega
    rcases e with e | e | e | e | e | e | e | e | e | e | e | e
    · subst e; exact z_120
    · subst e; exact z_121
    · subst e; exact z_122
    · subst e; exact z_123
    · subst e; exact z_124
    · subst e; exact z_125
    · subst e; exact z_126
    · subst e; exact z_127
    · subst e; exact z_128
    · subst e; exact z_129
    · subst e; exact z_130
    · subst e; exact z_131
  · have e : k = 132 ∨ k = 133 ∨ k = 134 ∨ k = 135 := by omega
    rcases e with e | e | e | e
    · subst e; exact z_132
    · subst e; exact z_133
    · subst e; exact z_134
    · subst e; exact z_135
set_option maxRecDepth 20000 in
theorem ld00 (P : Nat → Nat) (D : Nat → Nat → Bool) (l t : Nat) : S00.ld P D l t = 0 := rfl
set_option maxRecDepth 20000 in
theorem pa00 (P : Nat → Nat) (D : Nat → Nat → Bool) (l f t : Nat) : S00.pa P D l f t = 0 := rfl
set_option maxRecDepth 20000 in
theorem wo00 (P : Nat → Nat) (D : Nat → Nat → Bool) (a t : Nat) : S00.wo' P D a t = 0 := rfl
set_option maxRecDepth 20000 in
theorem fl00 (P : Nat → Nat) (D : Nat → Nat → Bool) (l t : Nat) : S00.fl P D l t = 0 := Nat.le_zero.mp ((mx_le 9).mpr fun _ _ => Nat.le_refl 0)
set_option maxRecDepth 20000 in
theorem ok00 : S00.ok := by
  have n0 : S00.ns = 0 := rfl
  refine ⟨⟨by decide, by decide, fun a h => absurd h (Nat.not_lt_zero _), by decide, fun l h => absurd h (Nat.not_lt_zero _)⟩, ⟨by decide, fun s h => absurd h (Nat.not_lt_zero _), fun s _ _ => ⟨rfl, rfl, rfl, rfl, rfl, rfl, rfl⟩⟩, ⟨by decide, by decide, fun _ _ _ => rfl⟩, fun _ _ => Nat.zero_le _, fun s _ c => absurd rfl c, fun t _ => ⟨fun l h => absurd h (Nat.not_lt_zero _), fun a h => absurd h (Nat.not_lt_zero _)⟩⟩
set_option maxRecDepth 20000 in
theorem zc {k : Nat} (h : k < 136) (n1 : k ≠ 4 ∧ k ≠ 49 ∧ k ≠ 57 ∧ k ≠ 69 ∧ k ≠ 79) (n2 : ¬ (18 ≤ k ∧ k ≤ 46 ∧ k % 4 = 2)) (j : Nat) : cI420 k j = 0 := by rw [zero_cells k h n1 n2]
set_option maxRecDepth 20000 in
theorem pl2 : ∀ i, i < 8 → cI420 (18 + 4 * i) 2 = -1 := by
  intro i hi
  have e : i = 0 ∨ i = 1 ∨ i = 2 ∨ i = 3 ∨ i = 4 ∨ i = 5 ∨ i = 6 ∨ i = 7 := by omega
  rcases e with e | e | e | e | e | e | e | e <;> subst e <;> rfl
set_option maxRecDepth 20000 in
theorem rc00 : RC cT421 S00 cI420 := by
  refine ⟨⟨z_1 ▸ rfl, z_1 ▸ rfl, fun a _ => by rw [z_2]; rfl, fun l hl => ?_⟩, fun l hl => ?_, by rw [show cDn S00 cI420 = (cI420 1 5 = 0) from rfl, z_1], ⟨by rw [z_15]; rfl, fun s hs => ?_⟩, fun s h => absurd h (Nat.not_lt_zero _), fun s hs => ?_, fun s hs => ?_, ⟨rfl, fun t ht => ⟨fun l hl => ⟨?_, ?_, fun f hf => ?_⟩, fun a ha => ?_⟩⟩, ⟨fun j _ => ⟨by rw [z_58], by rw [z_59]⟩, fun j _ => by rw [z_60], fun j _ => by rw [z_61]⟩, .inl rfl, fun i hi => .inl (pl2 i hi), ⟨rfl, rfl, rfl, rfl⟩, ?_, ?_, fun t ht => ⟨?_, ?_, fun j hj => ?_⟩⟩
  · rw [zero_cells (6 + l) (by omega) (by omega) (by omega)]
    exact ⟨rfl, rfl, rfl, rfl, rfl⟩
  · rw [zero_cells (6 + l) (by omega) (by omega) (by omega)]
    exact ⟨rfl, rfl, rfl⟩
  · rw [zero_cells (17 + 4 * s) (by omega) (by omega) (by omega)]
    exact ⟨rfl, rfl, rfl, rfl, rfl, rfl, rfl, rfl, rfl, rfl, rfl⟩
  · rw [zero_cells (17 + 4 * s) (by omega) (by omega) (by omega)]; rfl
  · rw [zero_cells (17 + 4 * s) (by omega) (by omega) (by omega)]
    exact ⟨rfl, rfl, rfl, rfl, rfl⟩
  · rw [ld00]; exact zc (by omega) (by omega) (by omega) _
  · rw [fl00]; exact zc (by omega) (by omega) (by omega) _
  · rw [pa00]; exact zc (by omega) (by omega) (by omega) _
  · rw [wo00]; exact zc (by omega) (by omega) (by omega) _
  · show cI420 0 7 = 0; rw [z_0]
  · show cI420 56 11 = 0; rw [z_56]
  · exact zc (by omega) (by omega) (by omega) _
  · exact zc (by omega) (by omega) (by omega) _
  · exact zc (by omega) (by omega) (by omega) _
set_option maxRecDepth 20000 in
theorem rm00 : RM S00 cI420 := by
  refine ⟨⟨rfl, rfl, fun a _ => by rw [z_80]; rfl, fun l _ => ⟨by rw [z_81]; rfl, by rw [z_82]; rfl, by rw [z_83]; rfl, by rw [z_84]; rfl, by rw [z_85]; rfl⟩, fun l h => absurd h (Nat.not_lt_zero _)⟩, fun l _ => ⟨by rw [z_86]; rfl, by rw [z_87]; rfl, by rw [z_88]; rfl⟩, ⟨rfl, fun s _ => ⟨by rw [z_90]; rfl, by rw [z_91]; rfl, by rw [z_92]; rfl, by rw [z_93]; rfl, by rw [z_94]; rfl, by rw [z_95]; rfl, by rw [z_96]; rfl, by rw [z_97]; rfl, by rw [z_98]; rfl, by rw [z_99]; rfl, by rw [z_100]; rfl⟩⟩, fun s _ => ⟨by rw [z_101]; rfl, by rw [z_102]; rfl, by rw [z_103]; rfl, by rw [z_104]; rfl, by rw [z_105]; rfl⟩, fun s _ => ⟨fun _ => by rw [z_106], fun c => absurd rfl c⟩, ⟨rfl, rfl, rfl, rfl⟩, rfl, rfl, fun t _ => ⟨by rw [z_112]; rfl, by rw [z_113]; rfl, fun j _ => by rw [z_114]; rfl⟩⟩
set_option maxRecDepth 20000 in
theorem inv_start : Inv 0 cT421 cI420 136 18293 := ⟨lay_start, pl_start, pls_start, ⟨S00, ok00, rc00, rm00⟩, Nat.le_add_right _ _, Nat.le_add_right _ _⟩
end
