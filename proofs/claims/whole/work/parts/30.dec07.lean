theorem dX12_passes_58 : decode cX12_passes 58 = .ok (.aload_n 0, 1) := by decide +kernel
theorem dX12_passes_59 : decode cX12_passes 59 = .ok (.getfield 29, 3) := by decide +kernel
theorem dX12_passes_62 : decode cX12_passes 62 = .ok (.iload 5, 2) := by decide +kernel
theorem dX12_passes_64 : decode cX12_passes 64 = .ok (.iaload, 1) := by decide +kernel
theorem dX12_passes_65 : decode cX12_passes 65 = .ok (.imul, 1) := by decide +kernel
theorem dX12_passes_66 : decode cX12_passes 66 = .ok (.iadd, 1) := by decide +kernel
theorem dX12_passes_67 : decode cX12_passes 67 = .ok (.iastore, 1) := by decide +kernel
theorem dX12_passes_68 : decode cX12_passes 68 = .ok (.iload 4, 2) := by decide +kernel
theorem dX12_passes_70 : decode cX12_passes 70 = .ok (.aload_n 0, 1) := by decide +kernel
theorem dX12_passes_71 : decode cX12_passes 71 = .ok (.getfield 29, 3) := by decide +kernel
theorem dX12_passes_74 : decode cX12_passes 74 = .ok (.iload 5, 2) := by decide +kernel
theorem dX12_passes_76 : decode cX12_passes 76 = .ok (.iaload, 1) := by decide +kernel
theorem dX12_passes_77 : decode cX12_passes 77 = .ok (.iadd, 1) := by decide +kernel
theorem dX12_passes_78 : decode cX12_passes 78 = .ok (.istore 4, 2) := by decide +kernel
theorem dX12_passes_80 : decode cX12_passes 80 = .ok (.iinc 5 1, 3) := by decide +kernel
theorem dX12_passes_83 : decode cX12_passes 83 = .ok (.goto (-77), 3) := by decide +kernel
theorem dX12_passes_86 : decode cX12_passes 86 = .ok (.aload_n 0, 1) := by decide +kernel
theorem dX12_passes_87 : decode cX12_passes 87 = .ok (.getfield 78, 3) := by decide +kernel
theorem dX12_passes_90 : decode cX12_passes 90 = .ok (.iload_n 1, 1) := by decide +kernel
theorem dX12_passes_91 : decode cX12_passes 91 = .ok (.dup2, 1) := by decide +kernel
theorem dX12_passes_92 : decode cX12_passes 92 = .ok (.iaload, 1) := by decide +kernel
theorem dX12_passes_93 : decode cX12_passes 93 = .ok (.iload_n 3, 1) := by decide +kernel
theorem dX12_passes_94 : decode cX12_passes 94 = .ok (.isub, 1) := by decide +kernel
theorem dX12_passes_95 : decode cX12_passes 95 = .ok (.iastore, 1) := by decide +kernel
theorem dX12_passes_96 : decode cX12_passes 96 = .ok (.aload_n 0, 1) := by decide +kernel
theorem dX12_passes_97 : decode cX12_passes 97 = .ok (.getfield 81, 3) := by decide +kernel
theorem dX12_passes_100 : decode cX12_passes 100 = .ok (.iload_n 1, 1) := by decide +kernel
theorem dX12_passes_101 : decode cX12_passes 101 = .ok (.dup2, 1) := by decide +kernel
theorem dX12_passes_102 : decode cX12_passes 102 = .ok (.iaload, 1) := by decide +kernel
theorem dX12_passes_103 : decode cX12_passes 103 = .ok (.iload_n 3, 1) := by decide +kernel
theorem dX12_passes_104 : decode cX12_passes 104 = .ok (.iadd, 1) := by decide +kernel
theorem dX12_passes_105 : decode cX12_passes 105 = .ok (.iastore, 1) := by decide +kernel
theorem dX12_passes_106 : decode cX12_passes 106 = .ok (.aload_n 0, 1) := by decide +kernel
theorem dX12_passes_107 : decode cX12_passes 107 = .ok (.getfield 90, 3) := by decide +kernel
theorem dX12_passes_110 : decode cX12_passes 110 = .ok (.iload_n 1, 1) := by decide +kernel
theorem dX12_passes_111 : decode cX12_passes 111 = .ok (.dup2, 1) := by decide +kernel
theorem dX12_passes_112 : decode cX12_passes 112 = .ok (.iaload, 1) := by decide +kernel
theorem dX12_passes_113 : decode cX12_passes 113 = .ok (.iload_n 3, 1) := by decide +kernel
theorem dX12_passes_114 : decode cX12_passes 114 = .ok (.iadd, 1) := by decide +kernel
theorem dX12_passes_115 : decode cX12_passes 115 = .ok (.iastore, 1) := by decide +kernel
theorem dX12_passes_116 : decode cX12_passes 116 = .ok (.aload_n 0, 1) := by decide +kernel
theorem dX12_passes_117 : decode cX12_passes 117 = .ok (.getfield 87, 3) := by decide +kernel
theorem dX12_passes_120 : decode cX12_passes 120 = .ok (.iload_n 1, 1) := by decide +kernel
theorem dX12_passes_121 : decode cX12_passes 121 = .ok (.dup2, 1) := by decide +kernel
theorem dX12_passes_122 : decode cX12_passes 122 = .ok (.iaload, 1) := by decide +kernel
theorem dX12_passes_123 : decode cX12_passes 123 = .ok (.iload_n 3, 1) := by decide +kernel
theorem dX12_passes_124 : decode cX12_passes 124 = .ok (.iload 4, 2) := by decide +kernel
theorem dX12_passes_126 : decode cX12_passes 126 = .ok (.imul, 1) := by decide +kernel
theorem dX12_passes_127 : decode cX12_passes 127 = .ok (.iadd, 1) := by decide +kernel
theorem dX12_passes_128 : decode cX12_passes 128 = .ok (.iastore, 1) := by decide +kernel
theorem dX12_passes_129 : decode cX12_passes 129 = .ok (.aload_n 0, 1) := by decide +kernel
theorem dX12_passes_130 : decode cX12_passes 130 = .ok (.dup, 1) := by decide +kernel
theorem dX12_passes_131 : decode cX12_passes 131 = .ok (.getfield 329, 3) := by decide +kernel
theorem dX12_passes_134 : decode cX12_passes 134 = .ok (.iload_n 3, 1) := by decide +kernel
theorem dX12_passes_135 : decode cX12_passes 135 = .ok (.iadd, 1) := by decide +kernel
theorem dX12_passes_136 : decode cX12_passes 136 = .ok (.putfield 329, 3) := by decide +kernel
theorem dX12_passes_139 : decode cX12_passes 139 = .ok (.aload_n 0, 1) := by decide +kernel
theorem dX12_passes_140 : decode cX12_passes 140 = .ok (.dup, 1) := by decide +kernel
theorem dX12_passes_141 : decode cX12_passes 141 = .ok (.getfield 332, 3) := by decide +kernel
theorem dX12_passes_144 : decode cX12_passes 144 = .ok (.iload_n 3, 1) := by decide +kernel
theorem dX12_passes_145 : decode cX12_passes 145 = .ok (.iload 4, 2) := by decide +kernel
theorem dX12_passes_147 : decode cX12_passes 147 = .ok (.imul, 1) := by decide +kernel
theorem dX12_passes_148 : decode cX12_passes 148 = .ok (.iadd, 1) := by decide +kernel
theorem dX12_passes_149 : decode cX12_passes 149 = .ok (.putfield 332, 3) := by decide +kernel
theorem dX12_passes_152 : decode cX12_passes 152 = .ok (.return_, 1) := by decide +kernel
theorem dX12_leftIn_0 : decode cX12_leftIn 0 = .ok (.bipush 50, 2) := by decide +kernel
theorem dX12_leftIn_2 : decode cX12_leftIn 2 = .ok (.istore_n 2, 1) := by decide +kernel
theorem dX12_leftIn_3 : decode cX12_leftIn 3 = .ok (.iconst 0, 1) := by decide +kernel
theorem dX12_leftIn_4 : decode cX12_leftIn 4 = .ok (.istore_n 3, 1) := by decide +kernel
theorem dX12_leftIn_5 : decode cX12_leftIn 5 = .ok (.iload_n 3, 1) := by decide +kernel
theorem dX12_leftIn_6 : decode cX12_leftIn 6 = .ok (.aload_n 0, 1) := by decide +kernel
theorem dX12_leftIn_7 : decode cX12_leftIn 7 = .ok (.getfield 193, 3) := by decide +kernel
theorem dX12_leftIn_10 : decode cX12_leftIn 10 = .ok (.if_icmp .ge 48, 3) := by decide +kernel
theorem dX12_leftIn_13 : decode cX12_leftIn 13 = .ok (.iload_n 1, 1) := by decide +kernel
theorem dX12_leftIn_14 : decode cX12_leftIn 14 = .ok (.iload_n 3, 1) := by decide +kernel
theorem dX12_leftIn_15 : decode cX12_leftIn 15 = .ok (.invokestatic 212, 3) := by decide +kernel
theorem dX12_leftIn_18 : decode cX12_leftIn 18 = .ok (.ifCond .eq 34, 3) := by decide +kernel
theorem dX12_leftIn_21 : decode cX12_leftIn 21 = .ok (.aload_n 0, 1) := by decide +kernel
theorem dX12_leftIn_22 : decode cX12_leftIn 22 = .ok (.getfield 23, 3) := by decide +kernel
theorem dX12_leftIn_25 : decode cX12_leftIn 25 = .ok (.iload_n 3, 1) := by decide +kernel
theorem dX12_leftIn_26 : decode cX12_leftIn 26 = .ok (.iaload, 1) := by decide +kernel
theorem dX12_leftIn_27 : decode cX12_leftIn 27 = .ok (.aload_n 0, 1) := by decide +kernel
theorem dX12_leftIn_28 : decode cX12_leftIn 28 = .ok (.getfield 35, 3) := by decide +kernel
theorem dX12_leftIn_31 : decode cX12_leftIn 31 = .ok (.iload_n 3, 1) := by decide +kernel
theorem dX12_leftIn_32 : decode cX12_leftIn 32 = .ok (.iaload, 1) := by decide +kernel
theorem dX12_leftIn_33 : decode cX12_leftIn 33 = .ok (.isub, 1) := by decide +kernel
theorem dX12_leftIn_34 : decode cX12_leftIn 34 = .ok (.iload_n 2, 1) := by decide +kernel
theorem dX12_leftIn_35 : decode cX12_leftIn 35 = .ok (.if_icmp .ge 17, 3) := by decide +kernel
theorem dX12_leftIn_38 : decode cX12_leftIn 38 = .ok (.aload_n 0, 1) := by decide +kernel
theorem dX12_leftIn_39 : decode cX12_leftIn 39 = .ok (.getfield 23, 3) := by decide +kernel
theorem dX12_leftIn_42 : decode cX12_leftIn 42 = .ok (.iload_n 3, 1) := by decide +kernel
theorem dX12_leftIn_43 : decode cX12_leftIn 43 = .ok (.iaload, 1) := by decide +kernel
theorem dX12_leftIn_44 : decode cX12_leftIn 44 = .ok (.aload_n 0, 1) := by decide +kernel
theorem dX12_leftIn_45 : decode cX12_leftIn 45 = .ok (.getfield 35, 3) := by decide +kernel
theorem dX12_leftIn_48 : decode cX12_leftIn 48 = .ok (.iload_n 3, 1) := by decide +kernel
theorem dX12_leftIn_49 : decode cX12_leftIn 49 = .ok (.iaload, 1) := by decide +kernel
theorem dX12_leftIn_50 : decode cX12_leftIn 50 = .ok (.isub, 1) := by decide +kernel
theorem dX12_leftIn_51 : decode cX12_leftIn 51 = .ok (.istore_n 2, 1) := by decide +kernel
theorem dX12_leftIn_52 : decode cX12_leftIn 52 = .ok (.iinc 3 1, 3) := by decide +kernel
theorem dX12_leftIn_55 : decode cX12_leftIn 55 = .ok (.goto (-50), 3) := by decide +kernel
theorem dX12_leftIn_58 : decode cX12_leftIn 58 = .ok (.iload_n 2, 1) := by decide +kernel
theorem dX12_leftIn_59 : decode cX12_leftIn 59 = .ok (.ireturn, 1) := by decide +kernel
theorem dX12_oneTick_0 : decode cX12_oneTick 0 = .ok (.iconst 0, 1) := by decide +kernel
theorem dX12_oneTick_1 : decode cX12_oneTick 1 = .ok (.istore_n 1, 1) := by decide +kernel
theorem dX12_oneTick_2 : decode cX12_oneTick 2 = .ok (.iload_n 1, 1) := by decide +kernel
theorem dX12_oneTick_3 : decode cX12_oneTick 3 = .ok (.aload_n 0, 1) := by decide +kernel
theorem dX12_oneTick_4 : decode cX12_oneTick 4 = .ok (.getfield 193, 3) := by decide +kernel
theorem dX12_oneTick_7 : decode cX12_oneTick 7 = .ok (.if_icmp .ge 16, 3) := by decide +kernel
theorem dX12_oneTick_10 : decode cX12_oneTick 10 = .ok (.aload_n 0, 1) := by decide +kernel
theorem dX12_oneTick_11 : decode cX12_oneTick 11 = .ok (.getfield 35, 3) := by decide +kernel
theorem dX12_oneTick_14 : decode cX12_oneTick 14 = .ok (.iload_n 1, 1) := by decide +kernel
theorem dX12_oneTick_15 : decode cX12_oneTick 15 = .ok (.iconst 0, 1) := by decide +kernel
theorem dX12_oneTick_16 : decode cX12_oneTick 16 = .ok (.iastore, 1) := by decide +kernel
theorem dX12_oneTick_17 : decode cX12_oneTick 17 = .ok (.iinc 1 1, 3) := by decide +kernel
theorem dX12_oneTick_20 : decode cX12_oneTick 20 = .ok (.goto (-18), 3) := by decide +kernel
theorem dX12_oneTick_23 : decode cX12_oneTick 23 = .ok (.iconst 0, 1) := by decide +kernel
theorem dX12_oneTick_24 : decode cX12_oneTick 24 = .ok (.istore_n 1, 1) := by decide +kernel
theorem dX12_oneTick_25 : decode cX12_oneTick 25 = .ok (.iload_n 1, 1) := by decide +kernel
theorem dX12_oneTick_26 : decode cX12_oneTick 26 = .ok (.aload_n 0, 1) := by decide +kernel
theorem dX12_oneTick_27 : decode cX12_oneTick 27 = .ok (.getfield 196, 3) := by decide +kernel
theorem dX12_oneTick_30 : decode cX12_oneTick 30 = .ok (.if_icmp .ge 16, 3) := by decide +kernel
theorem dX12_oneTick_33 : decode cX12_oneTick 33 = .ok (.aload_n 0, 1) := by decide +kernel
theorem dX12_oneTick_34 : decode cX12_oneTick 34 = .ok (.getfield 90, 3) := by decide +kernel
theorem dX12_oneTick_37 : decode cX12_oneTick 37 = .ok (.iload_n 1, 1) := by decide +kernel
theorem dX12_oneTick_38 : decode cX12_oneTick 38 = .ok (.iconst 0, 1) := by decide +kernel
theorem dX12_oneTick_39 : decode cX12_oneTick 39 = .ok (.iastore, 1) := by decide +kernel
theorem dX12_oneTick_40 : decode cX12_oneTick 40 = .ok (.iinc 1 1, 3) := by decide +kernel
theorem dX12_oneTick_43 : decode cX12_oneTick 43 = .ok (.goto (-18), 3) := by decide +kernel
theorem dX12_oneTick_46 : decode cX12_oneTick 46 = .ok (.aload_n 0, 1) := by decide +kernel
theorem dX12_oneTick_47 : decode cX12_oneTick 47 = .ok (.aload_n 0, 1) := by decide +kernel
theorem dX12_oneTick_48 : decode cX12_oneTick 48 = .ok (.getfield 335, 3) := by decide +kernel
theorem dX12_oneTick_51 : decode cX12_oneTick 51 = .ok (.invokevirtual 256, 3) := by decide +kernel
theorem dX12_oneTick_54 : decode cX12_oneTick 54 = .ok (.istore_n 1, 1) := by decide +kernel
theorem dX12_oneTick_55 : decode cX12_oneTick 55 = .ok (.iconst 0, 1) := by decide +kernel
theorem dX12_oneTick_56 : decode cX12_oneTick 56 = .ok (.istore_n 2, 1) := by decide +kernel
theorem dX12_oneTick_57 : decode cX12_oneTick 57 = .ok (.iload_n 2, 1) := by decide +kernel
theorem dX12_oneTick_58 : decode cX12_oneTick 58 = .ok (.aload_n 0, 1) := by decide +kernel
theorem dX12_oneTick_59 : decode cX12_oneTick 59 = .ok (.getfield 196, 3) := by decide +kernel
theorem dX12_oneTick_62 : decode cX12_oneTick 62 = .ok (.if_icmp .ge 91, 3) := by decide +kernel
theorem dX12_oneTick_65 : decode cX12_oneTick 65 = .ok (.iload_n 1, 1) := by decide +kernel
theorem dX12_oneTick_66 : decode cX12_oneTick 66 = .ok (.iload_n 2, 1) := by decide +kernel
theorem dX12_oneTick_67 : decode cX12_oneTick 67 = .ok (.invokestatic 212, 3) := by decide +kernel
theorem dX12_oneTick_70 : decode cX12_oneTick 70 = .ok (.ifCond .eq 12, 3) := by decide +kernel
theorem dX12_oneTick_73 : decode cX12_oneTick 73 = .ok (.aload_n 0, 1) := by decide +kernel
theorem dX12_oneTick_74 : decode cX12_oneTick 74 = .ok (.iload_n 2, 1) := by decide +kernel
theorem dX12_oneTick_75 : decode cX12_oneTick 75 = .ok (.iconst (-1), 1) := by decide +kernel
theorem dX12_oneTick_76 : decode cX12_oneTick 76 = .ok (.invokevirtual 298, 3) := by decide +kernel
theorem dX12_oneTick_79 : decode cX12_oneTick 79 = .ok (.goto 4, 3) := by decide +kernel
theorem dX12_oneTick_82 : decode cX12_oneTick 82 = .ok (.iconst 0, 1) := by decide +kernel
theorem dX12_oneTick_83 : decode cX12_oneTick 83 = .ok (.istore_n 3, 1) := by decide +kernel
theorem dX12_oneTick_84 : decode cX12_oneTick 84 = .ok (.iload_n 3, 1) := by decide +kernel
theorem dX12_oneTick_85 : decode cX12_oneTick 85 = .ok (.ifCond .ne 6, 3) := by decide +kernel
theorem dX12_oneTick_88 : decode cX12_oneTick 88 = .ok (.goto 59, 3) := by decide +kernel
theorem dX12_oneTick_91 : decode cX12_oneTick 91 = .ok (.aload_n 0, 1) := by decide +kernel
theorem dX12_oneTick_92 : decode cX12_oneTick 92 = .ok (.getfield 78, 3) := by decide +kernel
theorem dX12_oneTick_95 : decode cX12_oneTick 95 = .ok (.iload_n 2, 1) := by decide +kernel
theorem dX12_oneTick_96 : decode cX12_oneTick 96 = .ok (.iaload, 1) := by decide +kernel
theorem dX12_oneTick_97 : decode cX12_oneTick 97 = .ok (.aload_n 0, 1) := by decide +kernel
theorem dX12_oneTick_98 : decode cX12_oneTick 98 = .ok (.iload_n 2, 1) := by decide +kernel
theorem dX12_oneTick_99 : decode cX12_oneTick 99 = .ok (.invokevirtual 243, 3) := by decide +kernel
theorem dX12_oneTick_102 : decode cX12_oneTick 102 = .ok (.if_icmp .ge 12, 3) := by decide +kernel
theorem dX12_oneTick_105 : decode cX12_oneTick 105 = .ok (.aload_n 0, 1) := by decide +kernel
theorem dX12_oneTick_106 : decode cX12_oneTick 106 = .ok (.getfield 78, 3) := by decide +kernel
theorem dX12_oneTick_109 : decode cX12_oneTick 109 = .ok (.iload_n 2, 1) := by decide +kernel
theorem dX12_oneTick_110 : decode cX12_oneTick 110 = .ok (.iaload, 1) := by decide +kernel
theorem dX12_oneTick_111 : decode cX12_oneTick 111 = .ok (.goto 8, 3) := by decide +kernel
theorem dX12_oneTick_114 : decode cX12_oneTick 114 = .ok (.aload_n 0, 1) := by decide +kernel
theorem dX12_oneTick_115 : decode cX12_oneTick 115 = .ok (.iload_n 2, 1) := by decide +kernel
theorem dX12_oneTick_116 : decode cX12_oneTick 116 = .ok (.invokevirtual 243, 3) := by decide +kernel
theorem dX12_oneTick_119 : decode cX12_oneTick 119 = .ok (.istore 4, 2) := by decide +kernel
theorem dX12_oneTick_121 : decode cX12_oneTick 121 = .ok (.aload_n 0, 1) := by decide +kernel
theorem dX12_oneTick_122 : decode cX12_oneTick 122 = .ok (.iload_n 2, 1) := by decide +kernel
theorem dX12_oneTick_123 : decode cX12_oneTick 123 = .ok (.iload_n 3, 1) := by decide +kernel
theorem dX12_oneTick_124 : decode cX12_oneTick 124 = .ok (.aload_n 0, 1) := by decide +kernel
theorem dX12_oneTick_125 : decode cX12_oneTick 125 = .ok (.iload_n 3, 1) := by decide +kernel
theorem dX12_oneTick_126 : decode cX12_oneTick 126 = .ok (.invokevirtual 338, 3) := by decide +kernel
theorem dX12_oneTick_129 : decode cX12_oneTick 129 = .ok (.iload 4, 2) := by decide +kernel
theorem dX12_oneTick_131 : decode cX12_oneTick 131 = .ok (.if_icmp .ge 11, 3) := by decide +kernel
theorem dX12_oneTick_134 : decode cX12_oneTick 134 = .ok (.aload_n 0, 1) := by decide +kernel
theorem dX12_oneTick_135 : decode cX12_oneTick 135 = .ok (.iload_n 3, 1) := by decide +kernel
theorem dX12_oneTick_136 : decode cX12_oneTick 136 = .ok (.invokevirtual 338, 3) := by decide +kernel
theorem dX12_oneTick_139 : decode cX12_oneTick 139 = .ok (.goto 5, 3) := by decide +kernel
theorem dX12_oneTick_142 : decode cX12_oneTick 142 = .ok (.iload 4, 2) := by decide +kernel
theorem dX12_oneTick_144 : decode cX12_oneTick 144 = .ok (.invokevirtual 341, 3) := by decide +kernel
theorem dX12_oneTick_147 : decode cX12_oneTick 147 = .ok (.iinc 2 1, 3) := by decide +kernel
theorem dX12_oneTick_150 : decode cX12_oneTick 150 = .ok (.goto (-93), 3) := by decide +kernel
theorem dX12_oneTick_153 : decode cX12_oneTick 153 = .ok (.iconst 0, 1) := by decide +kernel
theorem dX12_oneTick_154 : decode cX12_oneTick 154 = .ok (.istore_n 2, 1) := by decide +kernel
theorem dX12_oneTick_155 : decode cX12_oneTick 155 = .ok (.aload_n 0, 1) := by decide +kernel
theorem dX12_oneTick_156 : decode cX12_oneTick 156 = .ok (.getfield 7, 3) := by decide +kernel
theorem dX12_oneTick_159 : decode cX12_oneTick 159 = .ok (.iconst 1, 1) := by decide +kernel
theorem dX12_oneTick_160 : decode cX12_oneTick 160 = .ok (.iadd, 1) := by decide +kernel
theorem dX12_oneTick_161 : decode cX12_oneTick 161 = .ok (.aload_n 0, 1) := by decide +kernel
theorem dX12_oneTick_162 : decode cX12_oneTick 162 = .ok (.getfield 196, 3) := by decide +kernel
theorem dX12_oneTick_165 : decode cX12_oneTick 165 = .ok (.if_icmp .ge 12, 3) := by decide +kernel
theorem dX12_oneTick_168 : decode cX12_oneTick 168 = .ok (.aload_n 0, 1) := by decide +kernel
theorem dX12_oneTick_169 : decode cX12_oneTick 169 = .ok (.getfield 7, 3) := by decide +kernel
theorem dX12_oneTick_172 : decode cX12_oneTick 172 = .ok (.iconst 1, 1) := by decide +kernel
theorem dX12_oneTick_173 : decode cX12_oneTick 173 = .ok (.iadd, 1) := by decide +kernel
theorem dX12_oneTick_174 : decode cX12_oneTick 174 = .ok (.goto 4, 3) := by decide +kernel
theorem dX12_oneTick_177 : decode cX12_oneTick 177 = .ok (.iconst 0, 1) := by decide +kernel
theorem dX12_oneTick_178 : decode cX12_oneTick 178 = .ok (.istore_n 3, 1) := by decide +kernel
theorem dX12_oneTick_179 : decode cX12_oneTick 179 = .ok (.iload_n 2, 1) := by decide +kernel
theorem dX12_oneTick_180 : decode cX12_oneTick 180 = .ok (.aload_n 0, 1) := by decide +kernel
theorem dX12_oneTick_181 : decode cX12_oneTick 181 = .ok (.getfield 196, 3) := by decide +kernel
theorem dX12_oneTick_184 : decode cX12_oneTick 184 = .ok (.if_icmp .ge 130, 3) := by decide +kernel
theorem dX12_oneTick_187 : decode cX12_oneTick 187 = .ok (.iload_n 1, 1) := by decide +kernel
theorem dX12_oneTick_188 : decode cX12_oneTick 188 = .ok (.iload_n 3, 1) := by decide +kernel
theorem dX12_oneTick_189 : decode cX12_oneTick 189 = .ok (.invokestatic 212, 3) := by decide +kernel
theorem dX12_oneTick_192 : decode cX12_oneTick 192 = .ok (.ifCond .eq 32, 3) := by decide +kernel
theorem dX12_oneTick_195 : decode cX12_oneTick 195 = .ok (.aload_n 0, 1) := by decide +kernel
theorem dX12_oneTick_196 : decode cX12_oneTick 196 = .ok (.getfield 45, 3) := by decide +kernel
theorem dX12_oneTick_199 : decode cX12_oneTick 199 = .ok (.iload_n 3, 1) := by decide +kernel
theorem dX12_oneTick_200 : decode cX12_oneTick 200 = .ok (.iaload, 1) := by decide +kernel
theorem dX12_oneTick_201 : decode cX12_oneTick 201 = .ok (.iconst 2, 1) := by decide +kernel
theorem dX12_oneTick_202 : decode cX12_oneTick 202 = .ok (.if_icmp .lt 22, 3) := by decide +kernel
theorem dX12_oneTick_205 : decode cX12_oneTick 205 = .ok (.aload_n 0, 1) := by decide +kernel
theorem dX12_oneTick_206 : decode cX12_oneTick 206 = .ok (.getfield 45, 3) := by decide +kernel
theorem dX12_oneTick_209 : decode cX12_oneTick 209 = .ok (.iload_n 3, 1) := by decide +kernel
theorem dX12_oneTick_210 : decode cX12_oneTick 210 = .ok (.iaload, 1) := by decide +kernel
theorem dX12_oneTick_211 : decode cX12_oneTick 211 = .ok (.iconst 3, 1) := by decide +kernel
theorem dX12_oneTick_212 : decode cX12_oneTick 212 = .ok (.if_icmp .gt 12, 3) := by decide +kernel
theorem dX12_oneTick_215 : decode cX12_oneTick 215 = .ok (.aload_n 0, 1) := by decide +kernel
theorem dX12_oneTick_216 : decode cX12_oneTick 216 = .ok (.iload_n 3, 1) := by decide +kernel
theorem dX12_oneTick_217 : decode cX12_oneTick 217 = .ok (.iconst (-1), 1) := by decide +kernel
theorem dX12_oneTick_218 : decode cX12_oneTick 218 = .ok (.invokevirtual 298, 3) := by decide +kernel
theorem dX12_oneTick_221 : decode cX12_oneTick 221 = .ok (.goto 4, 3) := by decide +kernel
theorem dX12_oneTick_224 : decode cX12_oneTick 224 = .ok (.iconst 0, 1) := by decide +kernel
theorem dX12_oneTick_225 : decode cX12_oneTick 225 = .ok (.istore 4, 2) := by decide +kernel
theorem dX12_oneTick_227 : decode cX12_oneTick 227 = .ok (.iinc 2 1, 3) := by decide +kernel
theorem dX12_oneTick_230 : decode cX12_oneTick 230 = .ok (.iload 4, 2) := by decide +kernel
theorem dX12_oneTick_232 : decode cX12_oneTick 232 = .ok (.ifCond .eq 61, 3) := by decide +kernel
theorem dX12_oneTick_235 : decode cX12_oneTick 235 = .ok (.aload_n 0, 1) := by decide +kernel
theorem dX12_oneTick_236 : decode cX12_oneTick 236 = .ok (.getfield 78, 3) := by decide +kernel
theorem dX12_oneTick_239 : decode cX12_oneTick 239 = .ok (.iload_n 3, 1) := by decide +kernel
theorem dX12_oneTick_240 : decode cX12_oneTick 240 = .ok (.iaload, 1) := by decide +kernel
theorem dX12_oneTick_241 : decode cX12_oneTick 241 = .ok (.ifCond .le 52, 3) := by decide +kernel
theorem dX12_oneTick_244 : decode cX12_oneTick 244 = .ok (.aload_n 0, 1) := by decide +kernel
theorem dX12_oneTick_245 : decode cX12_oneTick 245 = .ok (.getfield 90, 3) := by decide +kernel
theorem dX12_oneTick_248 : decode cX12_oneTick 248 = .ok (.iload_n 3, 1) := by decide +kernel
theorem dX12_oneTick_249 : decode cX12_oneTick 249 = .ok (.iaload, 1) := by decide +kernel
theorem dX12_oneTick_250 : decode cX12_oneTick 250 = .ok (.aload_n 0, 1) := by decide +kernel
theorem dX12_oneTick_251 : decode cX12_oneTick 251 = .ok (.getfield 54, 3) := by decide +kernel
theorem dX12_oneTick_254 : decode cX12_oneTick 254 = .ok (.iload_n 3, 1) := by decide +kernel
theorem dX12_oneTick_255 : decode cX12_oneTick 255 = .ok (.iaload, 1) := by decide +kernel
theorem dX12_oneTick_256 : decode cX12_oneTick 256 = .ok (.if_icmp .ge 37, 3) := by decide +kernel
theorem dX12_oneTick_259 : decode cX12_oneTick 259 = .ok (.aload_n 0, 1) := by decide +kernel
theorem dX12_oneTick_260 : decode cX12_oneTick 260 = .ok (.iload 4, 2) := by decide +kernel
theorem dX12_oneTick_262 : decode cX12_oneTick 262 = .ok (.invokevirtual 338, 3) := by decide +kernel
theorem dX12_oneTick_265 : decode cX12_oneTick 265 = .ok (.ifCond .le 28, 3) := by decide +kernel
theorem dX12_oneTick_268 : decode cX12_oneTick 268 = .ok (.aload_n 0, 1) := by decide +kernel
theorem dX12_oneTick_269 : decode cX12_oneTick 269 = .ok (.iload_n 3, 1) := by decide +kernel
theorem dX12_oneTick_270 : decode cX12_oneTick 270 = .ok (.iload 4, 2) := by decide +kernel
theorem dX12_oneTick_272 : decode cX12_oneTick 272 = .ok (.iconst 1, 1) := by decide +kernel
theorem dX12_oneTick_273 : decode cX12_oneTick 273 = .ok (.invokevirtual 341, 3) := by decide +kernel
theorem dX12_oneTick_276 : decode cX12_oneTick 276 = .ok (.aload_n 0, 1) := by decide +kernel
theorem dX12_oneTick_277 : decode cX12_oneTick 277 = .ok (.getfield 84, 3) := by decide +kernel
theorem dX12_oneTick_280 : decode cX12_oneTick 280 = .ok (.iload_n 3, 1) := by decide +kernel
theorem dX12_oneTick_281 : decode cX12_oneTick 281 = .ok (.dup2, 1) := by decide +kernel
theorem dX12_oneTick_282 : decode cX12_oneTick 282 = .ok (.iaload, 1) := by decide +kernel
theorem dX12_oneTick_283 : decode cX12_oneTick 283 = .ok (.iconst 1, 1) := by decide +kernel
theorem dX12_oneTick_284 : decode cX12_oneTick 284 = .ok (.iadd, 1) := by decide +kernel
theorem dX12_oneTick_285 : decode cX12_oneTick 285 = .ok (.iastore, 1) := by decide +kernel
theorem dX12_oneTick_286 : decode cX12_oneTick 286 = .ok (.aload_n 0, 1) := by decide +kernel
theorem dX12_oneTick_287 : decode cX12_oneTick 287 = .ok (.iload_n 3, 1) := by decide +kernel
theorem dX12_oneTick_288 : decode cX12_oneTick 288 = .ok (.putfield 7, 3) := by decide +kernel
theorem dX12_oneTick_291 : decode cX12_oneTick 291 = .ok (.iconst 0, 1) := by decide +kernel
theorem dX12_oneTick_292 : decode cX12_oneTick 292 = .ok (.istore_n 2, 1) := by decide +kernel
theorem dX12_oneTick_293 : decode cX12_oneTick 293 = .ok (.iload_n 3, 1) := by decide +kernel
theorem dX12_oneTick_294 : decode cX12_oneTick 294 = .ok (.iconst 1, 1) := by decide +kernel
theorem dX12_oneTick_295 : decode cX12_oneTick 295 = .ok (.iadd, 1) := by decide +kernel
theorem dX12_oneTick_296 : decode cX12_oneTick 296 = .ok (.aload_n 0, 1) := by decide +kernel
theorem dX12_oneTick_297 : decode cX12_oneTick 297 = .ok (.getfield 196, 3) := by decide +kernel
theorem dX12_oneTick_300 : decode cX12_oneTick 300 = .ok (.if_icmp .ge 9, 3) := by decide +kernel
theorem dX12_oneTick_303 : decode cX12_oneTick 303 = .ok (.iload_n 3, 1) := by decide +kernel
theorem dX12_oneTick_304 : decode cX12_oneTick 304 = .ok (.iconst 1, 1) := by decide +kernel
theorem dX12_oneTick_305 : decode cX12_oneTick 305 = .ok (.iadd, 1) := by decide +kernel
theorem dX12_oneTick_306 : decode cX12_oneTick 306 = .ok (.goto 4, 3) := by decide +kernel
theorem dX12_oneTick_309 : decode cX12_oneTick 309 = .ok (.iconst 0, 1) := by decide +kernel
theorem dX12_oneTick_310 : decode cX12_oneTick 310 = .ok (.istore_n 3, 1) := by decide +kernel
theorem dX12_oneTick_311 : decode cX12_oneTick 311 = .ok (.goto (-132), 3) := by decide +kernel
theorem dX12_oneTick_314 : decode cX12_oneTick 314 = .ok (.aload_n 0, 1) := by decide +kernel
theorem dX12_oneTick_315 : decode cX12_oneTick 315 = .ok (.aload_n 0, 1) := by decide +kernel
theorem dX12_oneTick_316 : decode cX12_oneTick 316 = .ok (.getfield 335, 3) := by decide +kernel
theorem dX12_oneTick_319 : decode cX12_oneTick 319 = .ok (.iconst 1, 1) := by decide +kernel
theorem dX12_oneTick_320 : decode cX12_oneTick 320 = .ok (.iadd, 1) := by decide +kernel
theorem dX12_oneTick_321 : decode cX12_oneTick 321 = .ok (.bipush 24, 2) := by decide +kernel
theorem dX12_oneTick_323 : decode cX12_oneTick 323 = .ok (.irem, 1) := by decide +kernel
theorem dX12_oneTick_324 : decode cX12_oneTick 324 = .ok (.putfield 335, 3) := by decide +kernel
theorem dX12_oneTick_327 : decode cX12_oneTick 327 = .ok (.return_, 1) := by decide +kernel
theorem dX12_run_0 : decode cX12_run 0 = .ok (.iload_n 1, 1) := by decide +kernel
theorem dX12_run_1 : decode cX12_run 1 = .ok (.iconst 1, 1) := by decide +kernel
theorem dX12_run_2 : decode cX12_run 2 = .ok (.bipush 24, 2) := by decide +kernel
theorem dX12_run_4 : decode cX12_run 4 = .ok (.invokestatic 189, 3) := by decide +kernel
theorem dX12_run_7 : decode cX12_run 7 = .ok (.ifCond .ne 10, 3) := by decide +kernel
theorem dX12_run_10 : decode cX12_run 10 = .ok (.aload_n 0, 1) := by decide +kernel
theorem dX12_run_11 : decode cX12_run 11 = .ok (.ldc 199, 2) := by decide +kernel
theorem dX12_run_13 : decode cX12_run 13 = .ok (.invokevirtual 200, 3) := by decide +kernel
theorem dX12_run_16 : decode cX12_run 16 = .ok (.ireturn, 1) := by decide +kernel
theorem dX12_run_17 : decode cX12_run 17 = .ok (.aload_n 0, 1) := by decide +kernel
theorem dX12_run_18 : decode cX12_run 18 = .ok (.getfield 329, 3) := by decide +kernel
theorem dX12_run_21 : decode cX12_run 21 = .ok (.istore_n 2, 1) := by decide +kernel
theorem dX12_run_22 : decode cX12_run 22 = .ok (.iconst 0, 1) := by decide +kernel
theorem dX12_run_23 : decode cX12_run 23 = .ok (.istore_n 3, 1) := by decide +kernel
theorem dX12_run_24 : decode cX12_run 24 = .ok (.iload_n 3, 1) := by decide +kernel
theorem dX12_run_25 : decode cX12_run 25 = .ok (.iload_n 1, 1) := by decide +kernel
theorem dX12_run_26 : decode cX12_run 26 = .ok (.if_icmp .ge 13, 3) := by decide +kernel
theorem dX12_run_29 : decode cX12_run 29 = .ok (.aload_n 0, 1) := by decide +kernel
theorem dX12_run_30 : decode cX12_run 30 = .ok (.invokevirtual 344, 3) := by decide +kernel
theorem dX12_run_33 : decode cX12_run 33 = .ok (.iinc 3 1, 3) := by decide +kernel
theorem dX12_run_36 : decode cX12_run 36 = .ok (.goto (-12), 3) := by decide +kernel
theorem dX12_run_39 : decode cX12_run 39 = .ok (.aload_n 0, 1) := by decide +kernel
theorem dX12_run_40 : decode cX12_run 40 = .ok (.getfield 329, 3) := by decide +kernel
theorem dX12_run_43 : decode cX12_run 43 = .ok (.iload_n 2, 1) := by decide +kernel
theorem dX12_run_44 : decode cX12_run 44 = .ok (.isub, 1) := by decide +kernel
theorem dX12_run_45 : decode cX12_run 45 = .ok (.ireturn, 1) := by decide +kernel
theorem dX12_about_0 : decode cX12_about 0 = .ok (.aload_n 0, 1) := by decide +kernel
theorem dX12_about_1 : decode cX12_about 1 = .ok (.iload_n 1, 1) := by decide +kernel
theorem dX12_about_2 : decode cX12_about 2 = .ok (.invokevirtual 209, 3) := by decide +kernel
theorem dX12_about_5 : decode cX12_about 5 = .ok (.ifCond .ne 10, 3) := by decide +kernel
theorem dX12_about_8 : decode cX12_about 8 = .ok (.aload_n 0, 1) := by decide +kernel
theorem dX12_about_9 : decode cX12_about 9 = .ok (.ldc 199, 2) := by decide +kernel
theorem dX12_about_11 : decode cX12_about 11 = .ok (.invokevirtual 200, 3) := by decide +kernel
theorem dX12_about_14 : decode cX12_about 14 = .ok (.ireturn, 1) := by decide +kernel
theorem dX12_about_15 : decode cX12_about 15 = .ok (.iload_n 2, 1) := by decide +kernel
theorem dX12_about_16 : decode cX12_about 16 = .ok (.tableswitch 123 0 8 #[52, 59, 66, 73, 80, 87, 102, 109, 116], 52) := by decide +kernel
theorem dX12_about_68 : decode cX12_about 68 = .ok (.aload_n 0, 1) := by decide +kernel
theorem dX12_about_69 : decode cX12_about 69 = .ok (.getfield 17, 3) := by decide +kernel
theorem dX12_about_72 : decode cX12_about 72 = .ok (.iload_n 1, 1) := by decide +kernel
theorem dX12_about_73 : decode cX12_about 73 = .ok (.iaload, 1) := by decide +kernel
theorem dX12_about_74 : decode cX12_about 74 = .ok (.ireturn, 1) := by decide +kernel
theorem dX12_about_75 : decode cX12_about 75 = .ok (.aload_n 0, 1) := by decide +kernel
theorem dX12_about_76 : decode cX12_about 76 = .ok (.getfield 20, 3) := by decide +kernel
theorem dX12_about_79 : decode cX12_about 79 = .ok (.iload_n 1, 1) := by decide +kernel
theorem dX12_about_80 : decode cX12_about 80 = .ok (.iaload, 1) := by decide +kernel
theorem dX12_about_81 : decode cX12_about 81 = .ok (.ireturn, 1) := by decide +kernel
theorem dX12_about_82 : decode cX12_about 82 = .ok (.aload_n 0, 1) := by decide +kernel
theorem dX12_about_83 : decode cX12_about 83 = .ok (.getfield 23, 3) := by decide +kernel
theorem dX12_about_86 : decode cX12_about 86 = .ok (.iload_n 1, 1) := by decide +kernel
theorem dX12_about_87 : decode cX12_about 87 = .ok (.iaload, 1) := by decide +kernel
theorem dX12_about_88 : decode cX12_about 88 = .ok (.ireturn, 1) := by decide +kernel
theorem dX12_about_89 : decode cX12_about 89 = .ok (.aload_n 0, 1) := by decide +kernel
theorem dX12_about_90 : decode cX12_about 90 = .ok (.getfield 26, 3) := by decide +kernel
theorem dX12_about_93 : decode cX12_about 93 = .ok (.iload_n 1, 1) := by decide +kernel
theorem dX12_about_94 : decode cX12_about 94 = .ok (.iaload, 1) := by decide +kernel
theorem dX12_about_95 : decode cX12_about 95 = .ok (.ireturn, 1) := by decide +kernel
theorem dX12_about_96 : decode cX12_about 96 = .ok (.aload_n 0, 1) := by decide +kernel
theorem dX12_about_97 : decode cX12_about 97 = .ok (.getfield 29, 3) := by decide +kernel
theorem dX12_about_100 : decode cX12_about 100 = .ok (.iload_n 1, 1) := by decide +kernel
theorem dX12_about_101 : decode cX12_about 101 = .ok (.iaload, 1) := by decide +kernel
theorem dX12_about_102 : decode cX12_about 102 = .ok (.ireturn, 1) := by decide +kernel
theorem dX12_about_103 : decode cX12_about 103 = .ok (.aload_n 0, 1) := by decide +kernel
theorem dX12_about_104 : decode cX12_about 104 = .ok (.getfield 41, 3) := by decide +kernel
theorem dX12_about_107 : decode cX12_about 107 = .ok (.iload_n 1, 1) := by decide +kernel
theorem dX12_about_108 : decode cX12_about 108 = .ok (.baload, 1) := by decide +kernel
theorem dX12_about_109 : decode cX12_about 109 = .ok (.ifCond .eq 7, 3) := by decide +kernel
theorem dX12_about_112 : decode cX12_about 112 = .ok (.iconst 1, 1) := by decide +kernel
theorem dX12_about_113 : decode cX12_about 113 = .ok (.goto 4, 3) := by decide +kernel
theorem dX12_about_116 : decode cX12_about 116 = .ok (.iconst 0, 1) := by decide +kernel
theorem dX12_about_117 : decode cX12_about 117 = .ok (.ireturn, 1) := by decide +kernel
theorem dX12_about_118 : decode cX12_about 118 = .ok (.aload_n 0, 1) := by decide +kernel
theorem dX12_about_119 : decode cX12_about 119 = .ok (.getfield 32, 3) := by decide +kernel
theorem dX12_about_122 : decode cX12_about 122 = .ok (.iload_n 1, 1) := by decide +kernel
theorem dX12_about_123 : decode cX12_about 123 = .ok (.iaload, 1) := by decide +kernel
theorem dX12_about_124 : decode cX12_about 124 = .ok (.ireturn, 1) := by decide +kernel
theorem dX12_about_125 : decode cX12_about 125 = .ok (.aload_n 0, 1) := by decide +kernel
theorem dX12_about_126 : decode cX12_about 126 = .ok (.getfield 35, 3) := by decide +kernel
theorem dX12_about_129 : decode cX12_about 129 = .ok (.iload_n 1, 1) := by decide +kernel
theorem dX12_about_130 : decode cX12_about 130 = .ok (.iaload, 1) := by decide +kernel
theorem dX12_about_131 : decode cX12_about 131 = .ok (.ireturn, 1) := by decide +kernel
theorem dX12_about_132 : decode cX12_about 132 = .ok (.aload_n 0, 1) := by decide +kernel
theorem dX12_about_133 : decode cX12_about 133 = .ok (.getfield 38, 3) := by decide +kernel
theorem dX12_about_136 : decode cX12_about 136 = .ok (.iload_n 1, 1) := by decide +kernel
theorem dX12_about_137 : decode cX12_about 137 = .ok (.iaload, 1) := by decide +kernel
theorem dX12_about_138 : decode cX12_about 138 = .ok (.ireturn, 1) := by decide +kernel
theorem dX12_about_139 : decode cX12_about 139 = .ok (.aload_n 0, 1) := by decide +kernel
theorem dX12_about_140 : decode cX12_about 140 = .ok (.ldc 199, 2) := by decide +kernel
theorem dX12_about_142 : decode cX12_about 142 = .ok (.invokevirtual 200, 3) := by decide +kernel
theorem dX12_about_145 : decode cX12_about 145 = .ok (.ireturn, 1) := by decide +kernel
theorem dX12_isSheet_0 : decode cX12_isSheet 0 = .ok (.iload_n 0, 1) := by decide +kernel
theorem dX12_isSheet_1 : decode cX12_isSheet 1 = .ok (.iconst 0, 1) := by decide +kernel
theorem dX12_isSheet_2 : decode cX12_isSheet 2 = .ok (.iconst 3, 1) := by decide +kernel
theorem dX12_isSheet_3 : decode cX12_isSheet 3 = .ok (.invokestatic 189, 3) := by decide +kernel
theorem dX12_isSheet_6 : decode cX12_isSheet 6 = .ok (.ireturn, 1) := by decide +kernel
theorem dX12_sheet_0 : decode cX12_sheet 0 = .ok (.iload_n 1, 1) := by decide +kernel
theorem dX12_sheet_1 : decode cX12_sheet 1 = .ok (.invokestatic 347, 3) := by decide +kernel
theorem dX12_sheet_4 : decode cX12_sheet 4 = .ok (.ifCond .eq 25, 3) := by decide +kernel
theorem dX12_sheet_7 : decode cX12_sheet 7 = .ok (.iload_n 2, 1) := by decide +kernel
theorem dX12_sheet_8 : decode cX12_sheet 8 = .ok (.ifCond .eq 28, 3) := by decide +kernel
theorem dX12_sheet_11 : decode cX12_sheet 11 = .ok (.iload_n 2, 1) := by decide +kernel
theorem dX12_sheet_12 : decode cX12_sheet 12 = .ok (.bipush 8, 2) := by decide +kernel
theorem dX12_sheet_14 : decode cX12_sheet 14 = .ok (.if_icmp .eq 22, 3) := by decide +kernel
theorem dX12_sheet_17 : decode cX12_sheet 17 = .ok (.iload_n 2, 1) := by decide +kernel
theorem dX12_sheet_18 : decode cX12_sheet 18 = .ok (.bipush 16, 2) := by decide +kernel
theorem dX12_sheet_20 : decode cX12_sheet 20 = .ok (.if_icmp .eq 16, 3) := by decide +kernel
theorem dX12_sheet_23 : decode cX12_sheet 23 = .ok (.iload_n 2, 1) := by decide +kernel
theorem dX12_sheet_24 : decode cX12_sheet 24 = .ok (.bipush 32, 2) := by decide +kernel
theorem dX12_sheet_26 : decode cX12_sheet 26 = .ok (.if_icmp .eq 10, 3) := by decide +kernel
theorem dX12_sheet_29 : decode cX12_sheet 29 = .ok (.aload_n 0, 1) := by decide +kernel
theorem dX12_sheet_30 : decode cX12_sheet 30 = .ok (.ldc 199, 2) := by decide +kernel
theorem dX12_sheet_32 : decode cX12_sheet 32 = .ok (.invokevirtual 200, 3) := by decide +kernel
theorem dX12_sheet_35 : decode cX12_sheet 35 = .ok (.ireturn, 1) := by decide +kernel
theorem dX12_sheet_36 : decode cX12_sheet 36 = .ok (.iload_n 3, 1) := by decide +kernel
theorem dX12_sheet_37 : decode cX12_sheet 37 = .ok (.ifCond .ge 11, 3) := by decide +kernel
theorem dX12_sheet_40 : decode cX12_sheet 40 = .ok (.aload_n 0, 1) := by decide +kernel
theorem dX12_sheet_41 : decode cX12_sheet 41 = .ok (.ldc_w 350, 3) := by decide +kernel
theorem dX12_sheet_44 : decode cX12_sheet 44 = .ok (.invokevirtual 200, 3) := by decide +kernel
theorem dX12_sheet_47 : decode cX12_sheet 47 = .ok (.ireturn, 1) := by decide +kernel
theorem dX12_sheet_48 : decode cX12_sheet 48 = .ok (.iload_n 3, 1) := by decide +kernel
theorem dX12_sheet_49 : decode cX12_sheet 49 = .ok (.bipush 8, 2) := by decide +kernel
theorem dX12_sheet_51 : decode cX12_sheet 51 = .ok (.if_icmp .le 10, 3) := by decide +kernel
theorem dX12_sheet_54 : decode cX12_sheet 54 = .ok (.aload_n 0, 1) := by decide +kernel
theorem dX12_sheet_55 : decode cX12_sheet 55 = .ok (.ldc 199, 2) := by decide +kernel
theorem dX12_sheet_57 : decode cX12_sheet 57 = .ok (.invokevirtual 200, 3) := by decide +kernel
theorem dX12_sheet_60 : decode cX12_sheet 60 = .ok (.ireturn, 1) := by decide +kernel
theorem dX12_sheet_61 : decode cX12_sheet 61 = .ok (.aload_n 0, 1) := by decide +kernel
theorem dX12_sheet_62 : decode cX12_sheet 62 = .ok (.getfield 111, 3) := by decide +kernel
theorem dX12_sheet_65 : decode cX12_sheet 65 = .ok (.iload_n 1, 1) := by decide +kernel
theorem dX12_sheet_66 : decode cX12_sheet 66 = .ok (.iload_n 2, 1) := by decide +kernel
theorem dX12_sheet_67 : decode cX12_sheet 67 = .ok (.iastore, 1) := by decide +kernel
theorem dX12_sheet_68 : decode cX12_sheet 68 = .ok (.aload_n 0, 1) := by decide +kernel
theorem dX12_sheet_69 : decode cX12_sheet 69 = .ok (.getfield 114, 3) := by decide +kernel
theorem dX12_sheet_72 : decode cX12_sheet 72 = .ok (.iload_n 1, 1) := by decide +kernel
theorem dX12_sheet_73 : decode cX12_sheet 73 = .ok (.iload_n 2, 1) := by decide +kernel
theorem dX12_sheet_74 : decode cX12_sheet 74 = .ok (.ifCond .ne 7, 3) := by decide +kernel
theorem dX12_sheet_77 : decode cX12_sheet 77 = .ok (.iconst 0, 1) := by decide +kernel
theorem dX12_sheet_78 : decode cX12_sheet 78 = .ok (.goto 4, 3) := by decide +kernel
theorem dX12_sheet_81 : decode cX12_sheet 81 = .ok (.iload_n 3, 1) := by decide +kernel
theorem dX12_sheet_82 : decode cX12_sheet 82 = .ok (.iastore, 1) := by decide +kernel
theorem dX12_sheet_83 : decode cX12_sheet 83 = .ok (.iconst 0, 1) := by decide +kernel
theorem dX12_sheet_84 : decode cX12_sheet 84 = .ok (.istore 4, 2) := by decide +kernel
theorem dX12_sheet_86 : decode cX12_sheet 86 = .ok (.iload 4, 2) := by decide +kernel
theorem dX12_sheet_88 : decode cX12_sheet 88 = .ok (.bipush 8, 2) := by decide +kernel
theorem dX12_sheet_90 : decode cX12_sheet 90 = .ok (.if_icmp .ge 22, 3) := by decide +kernel
theorem dX12_sheet_93 : decode cX12_sheet 93 = .ok (.aload_n 0, 1) := by decide +kernel
theorem dX12_sheet_94 : decode cX12_sheet 94 = .ok (.getfield 117, 3) := by decide +kernel
theorem dX12_sheet_97 : decode cX12_sheet 97 = .ok (.bipush 8, 2) := by decide +kernel
theorem dX12_sheet_99 : decode cX12_sheet 99 = .ok (.iload_n 1, 1) := by decide +kernel
theorem dX12_sheet_100 : decode cX12_sheet 100 = .ok (.imul, 1) := by decide +kernel
theorem dX12_sheet_101 : decode cX12_sheet 101 = .ok (.iload 4, 2) := by decide +kernel
theorem dX12_sheet_103 : decode cX12_sheet 103 = .ok (.iadd, 1) := by decide +kernel
theorem dX12_sheet_104 : decode cX12_sheet 104 = .ok (.iconst 0, 1) := by decide +kernel
theorem dX12_sheet_105 : decode cX12_sheet 105 = .ok (.iastore, 1) := by decide +kernel
theorem dX12_sheet_106 : decode cX12_sheet 106 = .ok (.iinc 4 1, 3) := by decide +kernel
theorem dX12_sheet_109 : decode cX12_sheet 109 = .ok (.goto (-23), 3) := by decide +kernel
theorem dX12_sheet_112 : decode cX12_sheet 112 = .ok (.aload_n 0, 1) := by decide +kernel
theorem dX12_sheet_113 : decode cX12_sheet 113 = .ok (.getfield 114, 3) := by decide +kernel
theorem dX12_sheet_116 : decode cX12_sheet 116 = .ok (.iload_n 1, 1) := by decide +kernel
theorem dX12_sheet_117 : decode cX12_sheet 117 = .ok (.iaload, 1) := by decide +kernel
theorem dX12_sheet_118 : decode cX12_sheet 118 = .ok (.ireturn, 1) := by decide +kernel
theorem dX12_write_0 : decode cX12_write 0 = .ok (.iload_n 1, 1) := by decide +kernel
theorem dX12_write_1 : decode cX12_write 1 = .ok (.invokestatic 347, 3) := by decide +kernel
theorem dX12_write_4 : decode cX12_write 4 = .ok (.ifCond .ne 10, 3) := by decide +kernel
theorem dX12_write_7 : decode cX12_write 7 = .ok (.aload_n 0, 1) := by decide +kernel
theorem dX12_write_8 : decode cX12_write 8 = .ok (.ldc 199, 2) := by decide +kernel
theorem dX12_write_10 : decode cX12_write 10 = .ok (.invokevirtual 200, 3) := by decide +kernel
theorem dX12_write_13 : decode cX12_write 13 = .ok (.ireturn, 1) := by decide +kernel
theorem dX12_write_14 : decode cX12_write 14 = .ok (.aload_n 0, 1) := by decide +kernel
theorem dX12_write_15 : decode cX12_write 15 = .ok (.getfield 111, 3) := by decide +kernel
theorem dX12_write_18 : decode cX12_write 18 = .ok (.iload_n 1, 1) := by decide +kernel
theorem dX12_write_19 : decode cX12_write 19 = .ok (.iaload, 1) := by decide +kernel
theorem dX12_write_20 : decode cX12_write 20 = .ok (.ifCond .ne 11, 3) := by decide +kernel
theorem dX12_write_23 : decode cX12_write 23 = .ok (.aload_n 0, 1) := by decide +kernel
theorem dX12_write_24 : decode cX12_write 24 = .ok (.ldc_w 351, 3) := by decide +kernel
theorem dX12_write_27 : decode cX12_write 27 = .ok (.invokevirtual 200, 3) := by decide +kernel
theorem dX12_write_30 : decode cX12_write 30 = .ok (.ireturn, 1) := by decide +kernel
theorem dX12_write_31 : decode cX12_write 31 = .ok (.iload_n 2, 1) := by decide +kernel
theorem dX12_write_32 : decode cX12_write 32 = .ok (.iconst 0, 1) := by decide +kernel
theorem dX12_write_33 : decode cX12_write 33 = .ok (.aload_n 0, 1) := by decide +kernel
theorem dX12_write_34 : decode cX12_write 34 = .ok (.getfield 114, 3) := by decide +kernel
theorem dX12_write_37 : decode cX12_write 37 = .ok (.iload_n 1, 1) := by decide +kernel
theorem dX12_write_38 : decode cX12_write 38 = .ok (.iaload, 1) := by decide +kernel
theorem dX12_write_39 : decode cX12_write 39 = .ok (.iconst 1, 1) := by decide +kernel
theorem dX12_write_40 : decode cX12_write 40 = .ok (.isub, 1) := by decide +kernel
theorem dX12_write_41 : decode cX12_write 41 = .ok (.invokestatic 189, 3) := by decide +kernel
theorem dX12_write_44 : decode cX12_write 44 = .ok (.ifCond .ne 10, 3) := by decide +kernel
theorem dX12_write_47 : decode cX12_write 47 = .ok (.aload_n 0, 1) := by decide +kernel
theorem dX12_write_48 : decode cX12_write 48 = .ok (.ldc 199, 2) := by decide +kernel
theorem dX12_write_50 : decode cX12_write 50 = .ok (.invokevirtual 200, 3) := by decide +kernel
theorem dX12_write_53 : decode cX12_write 53 = .ok (.ireturn, 1) := by decide +kernel
theorem dX12_write_54 : decode cX12_write 54 = .ok (.aload_n 0, 1) := by decide +kernel
theorem dX12_write_55 : decode cX12_write 55 = .ok (.getfield 117, 3) := by decide +kernel
theorem dX12_write_58 : decode cX12_write 58 = .ok (.bipush 8, 2) := by decide +kernel
theorem dX12_write_60 : decode cX12_write 60 = .ok (.iload_n 1, 1) := by decide +kernel
theorem dX12_write_61 : decode cX12_write 61 = .ok (.imul, 1) := by decide +kernel
theorem dX12_write_62 : decode cX12_write 62 = .ok (.iload_n 2, 1) := by decide +kernel
theorem dX12_write_63 : decode cX12_write 63 = .ok (.iadd, 1) := by decide +kernel
theorem dX12_write_64 : decode cX12_write 64 = .ok (.iaload, 1) := by decide +kernel
theorem dX12_write_65 : decode cX12_write 65 = .ok (.istore 4, 2) := by decide +kernel
theorem dX12_write_67 : decode cX12_write 67 = .ok (.aload_n 0, 1) := by decide +kernel
theorem dX12_write_68 : decode cX12_write 68 = .ok (.getfield 117, 3) := by decide +kernel
theorem dX12_write_71 : decode cX12_write 71 = .ok (.bipush 8, 2) := by decide +kernel
theorem dX12_write_73 : decode cX12_write 73 = .ok (.iload_n 1, 1) := by decide +kernel
theorem dX12_write_74 : decode cX12_write 74 = .ok (.imul, 1) := by decide +kernel
theorem dX12_write_75 : decode cX12_write 75 = .ok (.iload_n 2, 1) := by decide +kernel
theorem dX12_write_76 : decode cX12_write 76 = .ok (.iadd, 1) := by decide +kernel
theorem dX12_write_77 : decode cX12_write 77 = .ok (.aload_n 0, 1) := by decide +kernel
theorem dX12_write_78 : decode cX12_write 78 = .ok (.getfield 111, 3) := by decide +kernel
theorem dX12_write_81 : decode cX12_write 81 = .ok (.iload_n 1, 1) := by decide +kernel
theorem dX12_write_82 : decode cX12_write 82 = .ok (.iaload, 1) := by decide +kernel
theorem dX12_write_83 : decode cX12_write 83 = .ok (.bipush 8, 2) := by decide +kernel
theorem dX12_write_85 : decode cX12_write 85 = .ok (.if_icmp .ne 8, 3) := by decide +kernel
theorem dX12_write_88 : decode cX12_write 88 = .ok (.iload_n 3, 1) := by decide +kernel
theorem dX12_write_89 : decode cX12_write 89 = .ok (.i2b, 1) := by decide +kernel
theorem dX12_write_90 : decode cX12_write 90 = .ok (.goto 20, 3) := by decide +kernel
theorem dX12_write_93 : decode cX12_write 93 = .ok (.aload_n 0, 1) := by decide +kernel
theorem dX12_write_94 : decode cX12_write 94 = .ok (.getfield 111, 3) := by decide +kernel
theorem dX12_write_97 : decode cX12_write 97 = .ok (.iload_n 1, 1) := by decide +kernel
theorem dX12_write_98 : decode cX12_write 98 = .ok (.iaload, 1) := by decide +kernel
theorem dX12_write_99 : decode cX12_write 99 = .ok (.bipush 16, 2) := by decide +kernel
theorem dX12_write_101 : decode cX12_write 101 = .ok (.if_icmp .ne 8, 3) := by decide +kernel
theorem dX12_write_104 : decode cX12_write 104 = .ok (.iload_n 3, 1) := by decide +kernel
theorem dX12_write_105 : decode cX12_write 105 = .ok (.i2s, 1) := by decide +kernel
theorem dX12_write_106 : decode cX12_write 106 = .ok (.goto 4, 3) := by decide +kernel
theorem dX12_write_109 : decode cX12_write 109 = .ok (.iload_n 3, 1) := by decide +kernel
theorem dX12_write_110 : decode cX12_write 110 = .ok (.iastore, 1) := by decide +kernel
theorem dX12_write_111 : decode cX12_write 111 = .ok (.iload 4, 2) := by decide +kernel
theorem dX12_write_113 : decode cX12_write 113 = .ok (.ireturn, 1) := by decide +kernel
theorem dX12_copy_0 : decode cX12_copy 0 = .ok (.iload_n 1, 1) := by decide +kernel
theorem dX12_copy_1 : decode cX12_copy 1 = .ok (.invokestatic 347, 3) := by decide +kernel
theorem dX12_copy_4 : decode cX12_copy 4 = .ok (.ifCond .eq 10, 3) := by decide +kernel
theorem dX12_copy_7 : decode cX12_copy 7 = .ok (.iload_n 3, 1) := by decide +kernel
theorem dX12_copy_8 : decode cX12_copy 8 = .ok (.invokestatic 347, 3) := by decide +kernel
theorem dX12_copy_11 : decode cX12_copy 11 = .ok (.ifCond .ne 10, 3) := by decide +kernel
theorem dX12_copy_14 : decode cX12_copy 14 = .ok (.aload_n 0, 1) := by decide +kernel
theorem dX12_copy_15 : decode cX12_copy 15 = .ok (.ldc 199, 2) := by decide +kernel
theorem dX12_copy_17 : decode cX12_copy 17 = .ok (.invokevirtual 200, 3) := by decide +kernel
theorem dX12_copy_20 : decode cX12_copy 20 = .ok (.ireturn, 1) := by decide +kernel
theorem dX12_copy_21 : decode cX12_copy 21 = .ok (.aload_n 0, 1) := by decide +kernel
theorem dX12_copy_22 : decode cX12_copy 22 = .ok (.getfield 111, 3) := by decide +kernel
theorem dX12_copy_25 : decode cX12_copy 25 = .ok (.iload_n 1, 1) := by decide +kernel
theorem dX12_copy_26 : decode cX12_copy 26 = .ok (.iaload, 1) := by decide +kernel
theorem dX12_copy_27 : decode cX12_copy 27 = .ok (.ifCond .eq 12, 3) := by decide +kernel
theorem dX12_copy_30 : decode cX12_copy 30 = .ok (.aload_n 0, 1) := by decide +kernel
theorem dX12_copy_31 : decode cX12_copy 31 = .ok (.getfield 111, 3) := by decide +kernel
theorem dX12_copy_34 : decode cX12_copy 34 = .ok (.iload_n 3, 1) := by decide +kernel
theorem dX12_copy_35 : decode cX12_copy 35 = .ok (.iaload, 1) := by decide +kernel
theorem dX12_copy_36 : decode cX12_copy 36 = .ok (.ifCond .ne 11, 3) := by decide +kernel
theorem dX12_copy_39 : decode cX12_copy 39 = .ok (.aload_n 0, 1) := by decide +kernel
theorem dX12_copy_40 : decode cX12_copy 40 = .ok (.ldc_w 351, 3) := by decide +kernel
theorem dX12_copy_43 : decode cX12_copy 43 = .ok (.invokevirtual 200, 3) := by decide +kernel
theorem dX12_copy_46 : decode cX12_copy 46 = .ok (.ireturn, 1) := by decide +kernel
theorem dX12_copy_47 : decode cX12_copy 47 = .ok (.aload_n 0, 1) := by decide +kernel
theorem dX12_copy_48 : decode cX12_copy 48 = .ok (.getfield 111, 3) := by decide +kernel
theorem dX12_copy_51 : decode cX12_copy 51 = .ok (.iload_n 1, 1) := by decide +kernel
theorem dX12_copy_52 : decode cX12_copy 52 = .ok (.iaload, 1) := by decide +kernel
theorem dX12_copy_53 : decode cX12_copy 53 = .ok (.aload_n 0, 1) := by decide +kernel
theorem dX12_copy_54 : decode cX12_copy 54 = .ok (.getfield 111, 3) := by decide +kernel
theorem dX12_copy_57 : decode cX12_copy 57 = .ok (.iload_n 3, 1) := by decide +kernel
theorem dX12_copy_58 : decode cX12_copy 58 = .ok (.iaload, 1) := by decide +kernel
theorem dX12_copy_59 : decode cX12_copy 59 = .ok (.if_icmp .eq 10, 3) := by decide +kernel
theorem dX12_copy_62 : decode cX12_copy 62 = .ok (.aload_n 0, 1) := by decide +kernel
theorem dX12_copy_63 : decode cX12_copy 63 = .ok (.ldc 242, 2) := by decide +kernel
theorem dX12_copy_65 : decode cX12_copy 65 = .ok (.invokevirtual 200, 3) := by decide +kernel
theorem dX12_copy_68 : decode cX12_copy 68 = .ok (.ireturn, 1) := by decide +kernel
theorem dX12_copy_69 : decode cX12_copy 69 = .ok (.iload_n 2, 1) := by decide +kernel
theorem dX12_copy_70 : decode cX12_copy 70 = .ok (.ifCond .lt 48, 3) := by decide +kernel
theorem dX12_copy_73 : decode cX12_copy 73 = .ok (.iload 4, 2) := by decide +kernel
theorem dX12_copy_75 : decode cX12_copy 75 = .ok (.ifCond .lt 43, 3) := by decide +kernel
theorem dX12_copy_78 : decode cX12_copy 78 = .ok (.iload 5, 2) := by decide +kernel
theorem dX12_copy_80 : decode cX12_copy 80 = .ok (.ifCond .lt 38, 3) := by decide +kernel
theorem dX12_copy_83 : decode cX12_copy 83 = .ok (.iload_n 2, 1) := by decide +kernel
theorem dX12_copy_84 : decode cX12_copy 84 = .ok (.i2l, 1) := by decide +kernel
theorem dX12_copy_85 : decode cX12_copy 85 = .ok (.iload 5, 2) := by decide +kernel
theorem dX12_copy_87 : decode cX12_copy 87 = .ok (.i2l, 1) := by decide +kernel
theorem dX12_copy_88 : decode cX12_copy 88 = .ok (.ladd, 1) := by decide +kernel
theorem dX12_copy_89 : decode cX12_copy 89 = .ok (.aload_n 0, 1) := by decide +kernel
theorem dX12_copy_90 : decode cX12_copy 90 = .ok (.getfield 114, 3) := by decide +kernel
theorem dX12_copy_93 : decode cX12_copy 93 = .ok (.iload_n 1, 1) := by decide +kernel
theorem dX12_copy_94 : decode cX12_copy 94 = .ok (.iaload, 1) := by decide +kernel
theorem dX12_copy_95 : decode cX12_copy 95 = .ok (.i2l, 1) := by decide +kernel
theorem dX12_copy_96 : decode cX12_copy 96 = .ok (.lcmp, 1) := by decide +kernel
theorem dX12_copy_97 : decode cX12_copy 97 = .ok (.ifCond .gt 21, 3) := by decide +kernel
theorem dX12_copy_100 : decode cX12_copy 100 = .ok (.iload 4, 2) := by decide +kernel
theorem dX12_copy_102 : decode cX12_copy 102 = .ok (.i2l, 1) := by decide +kernel
theorem dX12_copy_103 : decode cX12_copy 103 = .ok (.iload 5, 2) := by decide +kernel
theorem dX12_copy_105 : decode cX12_copy 105 = .ok (.i2l, 1) := by decide +kernel
theorem dX12_copy_106 : decode cX12_copy 106 = .ok (.ladd, 1) := by decide +kernel
theorem dX12_copy_107 : decode cX12_copy 107 = .ok (.aload_n 0, 1) := by decide +kernel
theorem dX12_copy_108 : decode cX12_copy 108 = .ok (.getfield 114, 3) := by decide +kernel
theorem dX12_copy_111 : decode cX12_copy 111 = .ok (.iload_n 3, 1) := by decide +kernel
theorem dX12_copy_112 : decode cX12_copy 112 = .ok (.iaload, 1) := by decide +kernel
theorem dX12_copy_113 : decode cX12_copy 113 = .ok (.i2l, 1) := by decide +kernel
theorem dX12_copy_114 : decode cX12_copy 114 = .ok (.lcmp, 1) := by decide +kernel
theorem dX12_copy_115 : decode cX12_copy 115 = .ok (.ifCond .le 10, 3) := by decide +kernel
theorem dX12_copy_118 : decode cX12_copy 118 = .ok (.aload_n 0, 1) := by decide +kernel
theorem dX12_copy_119 : decode cX12_copy 119 = .ok (.ldc 199, 2) := by decide +kernel
theorem dX12_copy_121 : decode cX12_copy 121 = .ok (.invokevirtual 200, 3) := by decide +kernel
theorem dX12_copy_124 : decode cX12_copy 124 = .ok (.ireturn, 1) := by decide +kernel
theorem dX12_copy_125 : decode cX12_copy 125 = .ok (.iconst 0, 1) := by decide +kernel
theorem dX12_copy_126 : decode cX12_copy 126 = .ok (.istore 6, 2) := by decide +kernel
theorem dX12_copy_128 : decode cX12_copy 128 = .ok (.iload 6, 2) := by decide +kernel
theorem dX12_copy_130 : decode cX12_copy 130 = .ok (.iload 5, 2) := by decide +kernel
theorem dX12_copy_132 : decode cX12_copy 132 = .ok (.if_icmp .ge 30, 3) := by decide +kernel
theorem dX12_copy_135 : decode cX12_copy 135 = .ok (.aload_n 0, 1) := by decide +kernel
theorem dX12_copy_136 : decode cX12_copy 136 = .ok (.getfield 180, 3) := by decide +kernel
theorem dX12_copy_139 : decode cX12_copy 139 = .ok (.iload 6, 2) := by decide +kernel
theorem dX12_copy_141 : decode cX12_copy 141 = .ok (.aload_n 0, 1) := by decide +kernel
theorem dX12_copy_142 : decode cX12_copy 142 = .ok (.getfield 117, 3) := by decide +kernel
theorem dX12_copy_145 : decode cX12_copy 145 = .ok (.bipush 8, 2) := by decide +kernel
theorem dX12_copy_147 : decode cX12_copy 147 = .ok (.iload_n 1, 1) := by decide +kernel
theorem dX12_copy_148 : decode cX12_copy 148 = .ok (.imul, 1) := by decide +kernel
theorem dX12_copy_149 : decode cX12_copy 149 = .ok (.iload_n 2, 1) := by decide +kernel
theorem dX12_copy_150 : decode cX12_copy 150 = .ok (.iadd, 1) := by decide +kernel
theorem dX12_copy_151 : decode cX12_copy 151 = .ok (.iload 6, 2) := by decide +kernel
theorem dX12_copy_153 : decode cX12_copy 153 = .ok (.iadd, 1) := by decide +kernel
theorem dX12_copy_154 : decode cX12_copy 154 = .ok (.iaload, 1) := by decide +kernel
theorem dX12_copy_155 : decode cX12_copy 155 = .ok (.iastore, 1) := by decide +kernel
theorem dX12_copy_156 : decode cX12_copy 156 = .ok (.iinc 6 1, 3) := by decide +kernel
theorem dX12_copy_159 : decode cX12_copy 159 = .ok (.goto (-31), 3) := by decide +kernel
theorem dX12_copy_162 : decode cX12_copy 162 = .ok (.iconst 0, 1) := by decide +kernel
theorem dX12_copy_163 : decode cX12_copy 163 = .ok (.istore 6, 2) := by decide +kernel
theorem dX12_copy_165 : decode cX12_copy 165 = .ok (.iload 6, 2) := by decide +kernel
theorem dX12_copy_167 : decode cX12_copy 167 = .ok (.iload 5, 2) := by decide +kernel
theorem dX12_copy_169 : decode cX12_copy 169 = .ok (.if_icmp .ge 31, 3) := by decide +kernel
theorem dX12_copy_172 : decode cX12_copy 172 = .ok (.aload_n 0, 1) := by decide +kernel
theorem dX12_copy_173 : decode cX12_copy 173 = .ok (.getfield 117, 3) := by decide +kernel
theorem dX12_copy_176 : decode cX12_copy 176 = .ok (.bipush 8, 2) := by decide +kernel
theorem dX12_copy_178 : decode cX12_copy 178 = .ok (.iload_n 3, 1) := by decide +kernel
theorem dX12_copy_179 : decode cX12_copy 179 = .ok (.imul, 1) := by decide +kernel
theorem dX12_copy_180 : decode cX12_copy 180 = .ok (.iload 4, 2) := by decide +kernel
theorem dX12_copy_182 : decode cX12_copy 182 = .ok (.iadd, 1) := by decide +kernel
theorem dX12_copy_183 : decode cX12_copy 183 = .ok (.iload 6, 2) := by decide +kernel
theorem dX12_copy_185 : decode cX12_copy 185 = .ok (.iadd, 1) := by decide +kernel
theorem dX12_copy_186 : decode cX12_copy 186 = .ok (.aload_n 0, 1) := by decide +kernel
theorem dX12_copy_187 : decode cX12_copy 187 = .ok (.getfield 180, 3) := by decide +kernel
theorem dX12_copy_190 : decode cX12_copy 190 = .ok (.iload 6, 2) := by decide +kernel
theorem dX12_copy_192 : decode cX12_copy 192 = .ok (.iaload, 1) := by decide +kernel
theorem dX12_copy_193 : decode cX12_copy 193 = .ok (.iastore, 1) := by decide +kernel
theorem dX12_copy_194 : decode cX12_copy 194 = .ok (.iinc 6 1, 3) := by decide +kernel
theorem dX12_copy_197 : decode cX12_copy 197 = .ok (.goto (-32), 3) := by decide +kernel
theorem dX12_copy_200 : decode cX12_copy 200 = .ok (.iload 5, 2) := by decide +kernel
theorem dX12_copy_202 : decode cX12_copy 202 = .ok (.ireturn, 1) := by decide +kernel
theorem dX12_read_0 : decode cX12_read 0 = .ok (.iload_n 1, 1) := by decide +kernel
theorem dX12_read_1 : decode cX12_read 1 = .ok (.invokestatic 347, 3) := by decide +kernel
theorem dX12_read_4 : decode cX12_read 4 = .ok (.ifCond .ne 10, 3) := by decide +kernel
theorem dX12_read_7 : decode cX12_read 7 = .ok (.aload_n 0, 1) := by decide +kernel
theorem dX12_read_8 : decode cX12_read 8 = .ok (.ldc 199, 2) := by decide +kernel
theorem dX12_read_10 : decode cX12_read 10 = .ok (.invokevirtual 200, 3) := by decide +kernel
theorem dX12_read_13 : decode cX12_read 13 = .ok (.ireturn, 1) := by decide +kernel
theorem dX12_read_14 : decode cX12_read 14 = .ok (.aload_n 0, 1) := by decide +kernel
theorem dX12_read_15 : decode cX12_read 15 = .ok (.getfield 111, 3) := by decide +kernel
theorem dX12_read_18 : decode cX12_read 18 = .ok (.iload_n 1, 1) := by decide +kernel
theorem dX12_read_19 : decode cX12_read 19 = .ok (.iaload, 1) := by decide +kernel
theorem dX12_read_20 : decode cX12_read 20 = .ok (.ifCond .ne 11, 3) := by decide +kernel
theorem dX12_read_23 : decode cX12_read 23 = .ok (.aload_n 0, 1) := by decide +kernel
theorem dX12_read_24 : decode cX12_read 24 = .ok (.ldc_w 351, 3) := by decide +kernel
theorem dX12_read_27 : decode cX12_read 27 = .ok (.invokevirtual 200, 3) := by decide +kernel
theorem dX12_read_30 : decode cX12_read 30 = .ok (.ireturn, 1) := by decide +kernel
theorem dX12_read_31 : decode cX12_read 31 = .ok (.aload_n 0, 1) := by decide +kernel
theorem dX12_read_32 : decode cX12_read 32 = .ok (.getfield 114, 3) := by decide +kernel
theorem dX12_read_35 : decode cX12_read 35 = .ok (.iload_n 1, 1) := by decide +kernel
theorem dX12_read_36 : decode cX12_read 36 = .ok (.iaload, 1) := by decide +kernel
theorem dX12_read_37 : decode cX12_read 37 = .ok (.aload_n 0, 1) := by decide +kernel
theorem dX12_read_38 : decode cX12_read 38 = .ok (.getfield 196, 3) := by decide +kernel
theorem dX12_read_41 : decode cX12_read 41 = .ok (.if_icmp .le 10, 3) := by decide +kernel
theorem dX12_read_44 : decode cX12_read 44 = .ok (.aload_n 0, 1) := by decide +kernel
theorem dX12_read_45 : decode cX12_read 45 = .ok (.ldc 199, 2) := by decide +kernel
theorem dX12_read_47 : decode cX12_read 47 = .ok (.invokevirtual 200, 3) := by decide +kernel
theorem dX12_read_50 : decode cX12_read 50 = .ok (.ireturn, 1) := by decide +kernel
theorem dX12_read_51 : decode cX12_read 51 = .ok (.iconst 0, 1) := by decide +kernel
theorem dX12_read_52 : decode cX12_read 52 = .ok (.istore_n 2, 1) := by decide +kernel
theorem dX12_read_53 : decode cX12_read 53 = .ok (.iload_n 2, 1) := by decide +kernel
theorem dX12_read_54 : decode cX12_read 54 = .ok (.aload_n 0, 1) := by decide +kernel
theorem dX12_read_55 : decode cX12_read 55 = .ok (.getfield 114, 3) := by decide +kernel
theorem dX12_read_58 : decode cX12_read 58 = .ok (.iload_n 1, 1) := by decide +kernel
theorem dX12_read_59 : decode cX12_read 59 = .ok (.iaload, 1) := by decide +kernel
theorem dX12_read_60 : decode cX12_read 60 = .ok (.if_icmp .ge 32, 3) := by decide +kernel
theorem dX12_read_63 : decode cX12_read 63 = .ok (.aload_n 0, 1) := by decide +kernel
theorem dX12_read_64 : decode cX12_read 64 = .ok (.getfield 117, 3) := by decide +kernel
theorem dX12_read_67 : decode cX12_read 67 = .ok (.bipush 8, 2) := by decide +kernel
theorem dX12_read_69 : decode cX12_read 69 = .ok (.iload_n 1, 1) := by decide +kernel
theorem dX12_read_70 : decode cX12_read 70 = .ok (.imul, 1) := by decide +kernel
theorem dX12_read_71 : decode cX12_read 71 = .ok (.iload_n 2, 1) := by decide +kernel
theorem dX12_read_72 : decode cX12_read 72 = .ok (.iadd, 1) := by decide +kernel
theorem dX12_read_73 : decode cX12_read 73 = .ok (.iaload, 1) := by decide +kernel
theorem dX12_read_74 : decode cX12_read 74 = .ok (.bipush 100, 2) := by decide +kernel
theorem dX12_read_76 : decode cX12_read 76 = .ok (.if_icmp .le 10, 3) := by decide +kernel
theorem dX12_read_79 : decode cX12_read 79 = .ok (.aload_n 0, 1) := by decide +kernel
theorem dX12_read_80 : decode cX12_read 80 = .ok (.ldc 199, 2) := by decide +kernel
theorem dX12_read_82 : decode cX12_read 82 = .ok (.invokevirtual 200, 3) := by decide +kernel
theorem dX12_read_85 : decode cX12_read 85 = .ok (.ireturn, 1) := by decide +kernel
theorem dX12_read_86 : decode cX12_read 86 = .ok (.iinc 2 1, 3) := by decide +kernel
theorem dX12_read_89 : decode cX12_read 89 = .ok (.goto (-36), 3) := by decide +kernel
theorem dX12_read_92 : decode cX12_read 92 = .ok (.iconst 0, 1) := by decide +kernel
theorem dX12_read_93 : decode cX12_read 93 = .ok (.istore_n 2, 1) := by decide +kernel
theorem dX12_read_94 : decode cX12_read 94 = .ok (.iload_n 2, 1) := by decide +kernel
theorem dX12_read_95 : decode cX12_read 95 = .ok (.aload_n 0, 1) := by decide +kernel
theorem dX12_read_96 : decode cX12_read 96 = .ok (.getfield 114, 3) := by decide +kernel
theorem dX12_read_99 : decode cX12_read 99 = .ok (.iload_n 1, 1) := by decide +kernel
theorem dX12_read_100 : decode cX12_read 100 = .ok (.iaload, 1) := by decide +kernel
theorem dX12_read_101 : decode cX12_read 101 = .ok (.if_icmp .ge 54, 3) := by decide +kernel
theorem dX12_read_104 : decode cX12_read 104 = .ok (.aload_n 0, 1) := by decide +kernel
theorem dX12_read_105 : decode cX12_read 105 = .ok (.getfield 117, 3) := by decide +kernel
theorem dX12_read_108 : decode cX12_read 108 = .ok (.bipush 8, 2) := by decide +kernel
theorem dX12_read_110 : decode cX12_read 110 = .ok (.iload_n 1, 1) := by decide +kernel
theorem dX12_read_111 : decode cX12_read 111 = .ok (.imul, 1) := by decide +kernel
theorem dX12_read_112 : decode cX12_read 112 = .ok (.iload_n 2, 1) := by decide +kernel
theorem dX12_read_113 : decode cX12_read 113 = .ok (.iadd, 1) := by decide +kernel
theorem dX12_read_114 : decode cX12_read 114 = .ok (.iaload, 1) := by decide +kernel
theorem dX12_read_115 : decode cX12_read 115 = .ok (.ifCond .le 34, 3) := by decide +kernel
theorem dX12_read_118 : decode cX12_read 118 = .ok (.aload_n 0, 1) := by decide +kernel
theorem dX12_read_119 : decode cX12_read 119 = .ok (.getfield 78, 3) := by decide +kernel
theorem dX12_read_122 : decode cX12_read 122 = .ok (.iload_n 2, 1) := by decide +kernel
theorem dX12_read_123 : decode cX12_read 123 = .ok (.iaload, 1) := by decide +kernel
theorem dX12_read_124 : decode cX12_read 124 = .ok (.aload_n 0, 1) := by decide +kernel
theorem dX12_read_125 : decode cX12_read 125 = .ok (.getfield 117, 3) := by decide +kernel
theorem dX12_read_128 : decode cX12_read 128 = .ok (.bipush 8, 2) := by decide +kernel
theorem dX12_read_130 : decode cX12_read 130 = .ok (.iload_n 1, 1) := by decide +kernel
theorem dX12_read_131 : decode cX12_read 131 = .ok (.imul, 1) := by decide +kernel
theorem dX12_read_132 : decode cX12_read 132 = .ok (.iload_n 2, 1) := by decide +kernel
theorem dX12_read_133 : decode cX12_read 133 = .ok (.iadd, 1) := by decide +kernel
theorem dX12_read_134 : decode cX12_read 134 = .ok (.iaload, 1) := by decide +kernel
theorem dX12_read_135 : decode cX12_read 135 = .ok (.iadd, 1) := by decide +kernel
theorem dX12_read_136 : decode cX12_read 136 = .ok (.sipush 1000, 3) := by decide +kernel
theorem dX12_read_139 : decode cX12_read 139 = .ok (.if_icmp .le 10, 3) := by decide +kernel
theorem dX12_read_142 : decode cX12_read 142 = .ok (.aload_n 0, 1) := by decide +kernel
theorem dX12_read_143 : decode cX12_read 143 = .ok (.ldc 204, 2) := by decide +kernel
theorem dX12_read_145 : decode cX12_read 145 = .ok (.invokevirtual 200, 3) := by decide +kernel
theorem dX12_read_148 : decode cX12_read 148 = .ok (.ireturn, 1) := by decide +kernel
theorem dX12_read_149 : decode cX12_read 149 = .ok (.iinc 2 1, 3) := by decide +kernel
theorem dX12_read_152 : decode cX12_read 152 = .ok (.goto (-58), 3) := by decide +kernel
theorem dX12_read_155 : decode cX12_read 155 = .ok (.iconst 0, 1) := by decide +kernel
theorem dX12_read_156 : decode cX12_read 156 = .ok (.istore_n 2, 1) := by decide +kernel
theorem dX12_read_157 : decode cX12_read 157 = .ok (.iconst 0, 1) := by decide +kernel
theorem dX12_read_158 : decode cX12_read 158 = .ok (.istore_n 3, 1) := by decide +kernel
theorem dX12_read_159 : decode cX12_read 159 = .ok (.iload_n 3, 1) := by decide +kernel
theorem dX12_read_160 : decode cX12_read 160 = .ok (.aload_n 0, 1) := by decide +kernel
theorem dX12_read_161 : decode cX12_read 161 = .ok (.getfield 114, 3) := by decide +kernel
theorem dX12_read_164 : decode cX12_read 164 = .ok (.iload_n 1, 1) := by decide +kernel
theorem dX12_read_165 : decode cX12_read 165 = .ok (.iaload, 1) := by decide +kernel
theorem dX12_read_166 : decode cX12_read 166 = .ok (.if_icmp .ge 56, 3) := by decide +kernel
theorem dX12_read_169 : decode cX12_read 169 = .ok (.aload_n 0, 1) := by decide +kernel
theorem dX12_read_170 : decode cX12_read 170 = .ok (.getfield 117, 3) := by decide +kernel
theorem dX12_read_173 : decode cX12_read 173 = .ok (.bipush 8, 2) := by decide +kernel
theorem dX12_read_175 : decode cX12_read 175 = .ok (.iload_n 1, 1) := by decide +kernel
theorem dX12_read_176 : decode cX12_read 176 = .ok (.imul, 1) := by decide +kernel
theorem dX12_read_177 : decode cX12_read 177 = .ok (.iload_n 3, 1) := by decide +kernel
theorem dX12_read_178 : decode cX12_read 178 = .ok (.iadd, 1) := by decide +kernel
theorem dX12_read_179 : decode cX12_read 179 = .ok (.iaload, 1) := by decide +kernel
theorem dX12_read_180 : decode cX12_read 180 = .ok (.ifCond .le 17, 3) := by decide +kernel
theorem dX12_read_183 : decode cX12_read 183 = .ok (.aload_n 0, 1) := by decide +kernel
theorem dX12_read_184 : decode cX12_read 184 = .ok (.getfield 117, 3) := by decide +kernel
theorem dX12_read_187 : decode cX12_read 187 = .ok (.bipush 8, 2) := by decide +kernel
theorem dX12_read_189 : decode cX12_read 189 = .ok (.iload_n 1, 1) := by decide +kernel
theorem dX12_read_190 : decode cX12_read 190 = .ok (.imul, 1) := by decide +kernel
theorem dX12_read_191 : decode cX12_read 191 = .ok (.iload_n 3, 1) := by decide +kernel
theorem dX12_read_192 : decode cX12_read 192 = .ok (.iadd, 1) := by decide +kernel
theorem dX12_read_193 : decode cX12_read 193 = .ok (.iaload, 1) := by decide +kernel
theorem dX12_read_194 : decode cX12_read 194 = .ok (.goto 4, 3) := by decide +kernel
theorem dX12_read_197 : decode cX12_read 197 = .ok (.iconst 0, 1) := by decide +kernel
theorem dX12_read_198 : decode cX12_read 198 = .ok (.istore 4, 2) := by decide +kernel
theorem dX12_read_200 : decode cX12_read 200 = .ok (.aload_n 0, 1) := by decide +kernel
theorem dX12_read_201 : decode cX12_read 201 = .ok (.getfield 78, 3) := by decide +kernel
theorem dX12_read_204 : decode cX12_read 204 = .ok (.iload_n 3, 1) := by decide +kernel
theorem dX12_read_205 : decode cX12_read 205 = .ok (.dup2, 1) := by decide +kernel
theorem dX12_read_206 : decode cX12_read 206 = .ok (.iaload, 1) := by decide +kernel
theorem dX12_read_207 : decode cX12_read 207 = .ok (.iload 4, 2) := by decide +kernel
theorem dX12_read_209 : decode cX12_read 209 = .ok (.iadd, 1) := by decide +kernel
theorem dX12_read_210 : decode cX12_read 210 = .ok (.iastore, 1) := by decide +kernel
theorem dX12_read_211 : decode cX12_read 211 = .ok (.iload_n 2, 1) := by decide +kernel
theorem dX12_read_212 : decode cX12_read 212 = .ok (.iload 4, 2) := by decide +kernel
theorem dX12_read_214 : decode cX12_read 214 = .ok (.iadd, 1) := by decide +kernel
theorem dX12_read_215 : decode cX12_read 215 = .ok (.istore_n 2, 1) := by decide +kernel
theorem dX12_read_216 : decode cX12_read 216 = .ok (.iinc 3 1, 3) := by decide +kernel
theorem dX12_read_219 : decode cX12_read 219 = .ok (.goto (-60), 3) := by decide +kernel
theorem dX12_read_222 : decode cX12_read 222 = .ok (.iload_n 2, 1) := by decide +kernel
theorem dX12_read_223 : decode cX12_read 223 = .ok (.ireturn, 1) := by decide +kernel
theorem dX12_told_0 : decode cX12_told 0 = .ok (.iload_n 1, 1) := by decide +kernel
theorem dX12_told_1 : decode cX12_told 1 = .ok (.tableswitch 87 0 7 #[47, 52, 57, 62, 67, 72, 77, 82], 47) := by decide +kernel
theorem dX12_told_48 : decode cX12_told 48 = .ok (.aload_n 0, 1) := by decide +kernel
theorem dX12_told_49 : decode cX12_told 49 = .ok (.getfield 186, 3) := by decide +kernel
theorem dX12_told_52 : decode cX12_told 52 = .ok (.ireturn, 1) := by decide +kernel
theorem dX12_told_53 : decode cX12_told 53 = .ok (.aload_n 0, 1) := by decide +kernel
theorem dX12_told_54 : decode cX12_told 54 = .ok (.getfield 193, 3) := by decide +kernel
theorem dX12_told_57 : decode cX12_told 57 = .ok (.ireturn, 1) := by decide +kernel
theorem dX12_told_58 : decode cX12_told 58 = .ok (.aload_n 0, 1) := by decide +kernel
theorem dX12_told_59 : decode cX12_told 59 = .ok (.getfield 196, 3) := by decide +kernel
theorem dX12_told_62 : decode cX12_told 62 = .ok (.ireturn, 1) := by decide +kernel
theorem dX12_told_63 : decode cX12_told 63 = .ok (.aload_n 0, 1) := by decide +kernel
theorem dX12_told_64 : decode cX12_told 64 = .ok (.invokevirtual 352, 3) := by decide +kernel
theorem dX12_told_67 : decode cX12_told 67 = .ok (.ireturn, 1) := by decide +kernel
theorem dX12_told_68 : decode cX12_told 68 = .ok (.aload_n 0, 1) := by decide +kernel
theorem dX12_told_69 : decode cX12_told 69 = .ok (.getfield 335, 3) := by decide +kernel
theorem dX12_told_72 : decode cX12_told 72 = .ok (.ireturn, 1) := by decide +kernel
theorem dX12_told_73 : decode cX12_told 73 = .ok (.aload_n 0, 1) := by decide +kernel
theorem dX12_told_74 : decode cX12_told 74 = .ok (.getfield 183, 3) := by decide +kernel
theorem dX12_told_77 : decode cX12_told 77 = .ok (.ireturn, 1) := by decide +kernel
theorem dX12_told_78 : decode cX12_told 78 = .ok (.aload_n 0, 1) := by decide +kernel
theorem dX12_told_79 : decode cX12_told 79 = .ok (.getfield 329, 3) := by decide +kernel
theorem dX12_told_82 : decode cX12_told 82 = .ok (.ireturn, 1) := by decide +kernel
theorem dX12_told_83 : decode cX12_told 83 = .ok (.aload_n 0, 1) := by decide +kernel
theorem dX12_told_84 : decode cX12_told 84 = .ok (.getfield 332, 3) := by decide +kernel
theorem dX12_told_87 : decode cX12_told 87 = .ok (.ireturn, 1) := by decide +kernel
theorem dX12_told_88 : decode cX12_told 88 = .ok (.aload_n 0, 1) := by decide +kernel
theorem dX12_told_89 : decode cX12_told 89 = .ok (.ldc 199, 2) := by decide +kernel
theorem dX12_told_91 : decode cX12_told 91 = .ok (.invokevirtual 200, 3) := by decide +kernel
theorem dX12_told_94 : decode cX12_told 94 = .ok (.ireturn, 1) := by decide +kernel
theorem dL_law_0 : decode cL_law 0 = .ok (.new 7, 3) := by decide +kernel
theorem dL_law_3 : decode cL_law 3 = .ok (.dup, 1) := by decide +kernel
theorem dL_law_4 : decode cL_law 4 = .ok (.invokespecial 9, 3) := by decide +kernel
theorem dL_law_7 : decode cL_law 7 = .ok (.astore_n 1, 1) := by decide +kernel
theorem dL_law_8 : decode cL_law 8 = .ok (.new 10, 3) := by decide +kernel
theorem dL_law_11 : decode cL_law 11 = .ok (.dup, 1) := by decide +kernel
theorem dL_law_12 : decode cL_law 12 = .ok (.invokespecial 12, 3) := by decide +kernel
theorem dL_law_15 : decode cL_law 15 = .ok (.astore_n 2, 1) := by decide +kernel
theorem dL_law_16 : decode cL_law 16 = .ok (.iconst 0, 1) := by decide +kernel
theorem dL_law_17 : decode cL_law 17 = .ok (.istore_n 3, 1) := by decide +kernel
theorem dL_law_18 : decode cL_law 18 = .ok (.iload_n 3, 1) := by decide +kernel
theorem dL_law_19 : decode cL_law 19 = .ok (.aload_n 0, 1) := by decide +kernel
theorem dL_law_20 : decode cL_law 20 = .ok (.arraylength, 1) := by decide +kernel
theorem dL_law_21 : decode cL_law 21 = .ok (.bipush 6, 2) := by decide +kernel
theorem dL_law_23 : decode cL_law 23 = .ok (.isub, 1) := by decide +kernel
theorem dL_law_24 : decode cL_law 24 = .ok (.if_icmp .gt 1387, 3) := by decide +kernel
theorem dL_law_27 : decode cL_law 27 = .ok (.aload_n 0, 1) := by decide +kernel
theorem dL_law_28 : decode cL_law 28 = .ok (.iload_n 3, 1) := by decide +kernel
theorem dL_law_29 : decode cL_law 29 = .ok (.iaload, 1) := by decide +kernel
theorem dL_law_30 : decode cL_law 30 = .ok (.bipush 63, 2) := by decide +kernel
theorem dL_law_32 : decode cL_law 32 = .ok (.iand, 1) := by decide +kernel
theorem dL_law_33 : decode cL_law 33 = .ok (.tableswitch 1372 0 34 #[155, 178, 241, 290, 323, 376, 419, 462, 525, 578, 631, 664, 697, 720, 743, 766, 789, 848, 871, 904, 937, 970, 993, 1016, 1039, 1062, 1075, 1088, 1121, 1144, 1177, 1220, 1263, 1326, 1349], 155) := by decide +kernel
theorem dL_law_188 : decode cL_law 188 = .ok (.aload_n 1, 1) := by decide +kernel
theorem dL_law_189 : decode cL_law 189 = .ok (.aload_n 0, 1) := by decide +kernel
theorem dL_law_190 : decode cL_law 190 = .ok (.iload_n 3, 1) := by decide +kernel
theorem dL_law_191 : decode cL_law 191 = .ok (.iconst 1, 1) := by decide +kernel
theorem dL_law_192 : decode cL_law 192 = .ok (.iadd, 1) := by decide +kernel
theorem dL_law_193 : decode cL_law 193 = .ok (.iaload, 1) := by decide +kernel
theorem dL_law_194 : decode cL_law 194 = .ok (.invokevirtual 13, 3) := by decide +kernel
theorem dL_law_197 : decode cL_law 197 = .ok (.aload_n 2, 1) := by decide +kernel
theorem dL_law_198 : decode cL_law 198 = .ok (.aload_n 0, 1) := by decide +kernel
theorem dL_law_199 : decode cL_law 199 = .ok (.iload_n 3, 1) := by decide +kernel
theorem dL_law_200 : decode cL_law 200 = .ok (.iconst 1, 1) := by decide +kernel
theorem dL_law_201 : decode cL_law 201 = .ok (.iadd, 1) := by decide +kernel
theorem dL_law_202 : decode cL_law 202 = .ok (.iaload, 1) := by decide +kernel
theorem dL_law_203 : decode cL_law 203 = .ok (.invokevirtual 17, 3) := by decide +kernel
theorem dL_law_206 : decode cL_law 206 = .ok (.if_icmp .eq 1199, 3) := by decide +kernel
theorem dL_law_209 : decode cL_law 209 = .ok (.iconst 0, 1) := by decide +kernel
theorem dL_law_210 : decode cL_law 210 = .ok (.ireturn, 1) := by decide +kernel
theorem dL_law_211 : decode cL_law 211 = .ok (.aload_n 1, 1) := by decide +kernel
theorem dL_law_212 : decode cL_law 212 = .ok (.aload_n 0, 1) := by decide +kernel
theorem dL_law_213 : decode cL_law 213 = .ok (.iload_n 3, 1) := by decide +kernel
theorem dL_law_214 : decode cL_law 214 = .ok (.iconst 1, 1) := by decide +kernel
theorem dL_law_215 : decode cL_law 215 = .ok (.iadd, 1) := by decide +kernel
theorem dL_law_216 : decode cL_law 216 = .ok (.iaload, 1) := by decide +kernel
theorem dL_law_217 : decode cL_law 217 = .ok (.aload_n 0, 1) := by decide +kernel
theorem dL_law_218 : decode cL_law 218 = .ok (.iload_n 3, 1) := by decide +kernel
theorem dL_law_219 : decode cL_law 219 = .ok (.iconst 2, 1) := by decide +kernel
theorem dL_law_220 : decode cL_law 220 = .ok (.iadd, 1) := by decide +kernel
theorem dL_law_221 : decode cL_law 221 = .ok (.iaload, 1) := by decide +kernel
theorem dL_law_222 : decode cL_law 222 = .ok (.aload_n 0, 1) := by decide +kernel
theorem dL_law_223 : decode cL_law 223 = .ok (.iload_n 3, 1) := by decide +kernel
theorem dL_law_224 : decode cL_law 224 = .ok (.iconst 3, 1) := by decide +kernel
theorem dL_law_225 : decode cL_law 225 = .ok (.iadd, 1) := by decide +kernel
theorem dL_law_226 : decode cL_law 226 = .ok (.iaload, 1) := by decide +kernel
theorem dL_law_227 : decode cL_law 227 = .ok (.aload_n 0, 1) := by decide +kernel
theorem dL_law_228 : decode cL_law 228 = .ok (.iload_n 3, 1) := by decide +kernel
theorem dL_law_229 : decode cL_law 229 = .ok (.iconst 4, 1) := by decide +kernel
theorem dL_law_230 : decode cL_law 230 = .ok (.iadd, 1) := by decide +kernel
theorem dL_law_231 : decode cL_law 231 = .ok (.iaload, 1) := by decide +kernel
theorem dL_law_232 : decode cL_law 232 = .ok (.aload_n 0, 1) := by decide +kernel
theorem dL_law_233 : decode cL_law 233 = .ok (.iload_n 3, 1) := by decide +kernel
theorem dL_law_234 : decode cL_law 234 = .ok (.iconst 5, 1) := by decide +kernel
theorem dL_law_235 : decode cL_law 235 = .ok (.iadd, 1) := by decide +kernel
theorem dL_law_236 : decode cL_law 236 = .ok (.iaload, 1) := by decide +kernel
theorem dL_law_237 : decode cL_law 237 = .ok (.invokevirtual 18, 3) := by decide +kernel
theorem dL_law_240 : decode cL_law 240 = .ok (.aload_n 2, 1) := by decide +kernel
theorem dL_law_241 : decode cL_law 241 = .ok (.aload_n 0, 1) := by decide +kernel
theorem dL_law_242 : decode cL_law 242 = .ok (.iload_n 3, 1) := by decide +kernel
theorem dL_law_243 : decode cL_law 243 = .ok (.iconst 1, 1) := by decide +kernel
theorem dL_law_244 : decode cL_law 244 = .ok (.iadd, 1) := by decide +kernel
theorem dL_law_245 : decode cL_law 245 = .ok (.iaload, 1) := by decide +kernel
theorem dL_law_246 : decode cL_law 246 = .ok (.aload_n 0, 1) := by decide +kernel
theorem dL_law_247 : decode cL_law 247 = .ok (.iload_n 3, 1) := by decide +kernel
theorem dL_law_248 : decode cL_law 248 = .ok (.iconst 2, 1) := by decide +kernel
theorem dL_law_249 : decode cL_law 249 = .ok (.iadd, 1) := by decide +kernel
theorem dL_law_250 : decode cL_law 250 = .ok (.iaload, 1) := by decide +kernel
theorem dL_law_251 : decode cL_law 251 = .ok (.aload_n 0, 1) := by decide +kernel
theorem dL_law_252 : decode cL_law 252 = .ok (.iload_n 3, 1) := by decide +kernel
theorem dL_law_253 : decode cL_law 253 = .ok (.iconst 3, 1) := by decide +kernel
theorem dL_law_254 : decode cL_law 254 = .ok (.iadd, 1) := by decide +kernel
theorem dL_law_255 : decode cL_law 255 = .ok (.iaload, 1) := by decide +kernel
theorem dL_law_256 : decode cL_law 256 = .ok (.aload_n 0, 1) := by decide +kernel
theorem dL_law_257 : decode cL_law 257 = .ok (.iload_n 3, 1) := by decide +kernel
theorem dL_law_258 : decode cL_law 258 = .ok (.iconst 4, 1) := by decide +kernel
theorem dL_law_259 : decode cL_law 259 = .ok (.iadd, 1) := by decide +kernel
theorem dL_law_260 : decode cL_law 260 = .ok (.iaload, 1) := by decide +kernel
theorem dL_law_261 : decode cL_law 261 = .ok (.aload_n 0, 1) := by decide +kernel
theorem dL_law_262 : decode cL_law 262 = .ok (.iload_n 3, 1) := by decide +kernel
theorem dL_law_263 : decode cL_law 263 = .ok (.iconst 5, 1) := by decide +kernel
theorem dL_law_264 : decode cL_law 264 = .ok (.iadd, 1) := by decide +kernel
theorem dL_law_265 : decode cL_law 265 = .ok (.iaload, 1) := by decide +kernel
theorem dL_law_266 : decode cL_law 266 = .ok (.invokevirtual 22, 3) := by decide +kernel
theorem dL_law_269 : decode cL_law 269 = .ok (.if_icmp .eq 1136, 3) := by decide +kernel
theorem dL_law_272 : decode cL_law 272 = .ok (.iconst 0, 1) := by decide +kernel
theorem dL_law_273 : decode cL_law 273 = .ok (.ireturn, 1) := by decide +kernel
theorem dL_law_274 : decode cL_law 274 = .ok (.aload_n 1, 1) := by decide +kernel
theorem dL_law_275 : decode cL_law 275 = .ok (.aload_n 0, 1) := by decide +kernel
theorem dL_law_276 : decode cL_law 276 = .ok (.iload_n 3, 1) := by decide +kernel
theorem dL_law_277 : decode cL_law 277 = .ok (.iconst 1, 1) := by decide +kernel
theorem dL_law_278 : decode cL_law 278 = .ok (.iadd, 1) := by decide +kernel
theorem dL_law_279 : decode cL_law 279 = .ok (.iaload, 1) := by decide +kernel
theorem dL_law_280 : decode cL_law 280 = .ok (.aload_n 0, 1) := by decide +kernel
theorem dL_law_281 : decode cL_law 281 = .ok (.iload_n 3, 1) := by decide +kernel
theorem dL_law_282 : decode cL_law 282 = .ok (.iconst 2, 1) := by decide +kernel
theorem dL_law_283 : decode cL_law 283 = .ok (.iadd, 1) := by decide +kernel
theorem dL_law_284 : decode cL_law 284 = .ok (.iaload, 1) := by decide +kernel
theorem dL_law_285 : decode cL_law 285 = .ok (.ifCond .eq 7, 3) := by decide +kernel
theorem dL_law_288 : decode cL_law 288 = .ok (.iconst 1, 1) := by decide +kernel
theorem dL_law_289 : decode cL_law 289 = .ok (.goto 4, 3) := by decide +kernel
theorem dL_law_292 : decode cL_law 292 = .ok (.iconst 0, 1) := by decide +kernel
theorem dL_law_293 : decode cL_law 293 = .ok (.invokevirtual 23, 3) := by decide +kernel
theorem dL_law_296 : decode cL_law 296 = .ok (.aload_n 2, 1) := by decide +kernel
theorem dL_law_297 : decode cL_law 297 = .ok (.aload_n 0, 1) := by decide +kernel
theorem dL_law_298 : decode cL_law 298 = .ok (.iload_n 3, 1) := by decide +kernel
theorem dL_law_299 : decode cL_law 299 = .ok (.iconst 1, 1) := by decide +kernel
theorem dL_law_300 : decode cL_law 300 = .ok (.iadd, 1) := by decide +kernel
theorem dL_law_301 : decode cL_law 301 = .ok (.iaload, 1) := by decide +kernel
theorem dL_law_302 : decode cL_law 302 = .ok (.aload_n 0, 1) := by decide +kernel
theorem dL_law_303 : decode cL_law 303 = .ok (.iload_n 3, 1) := by decide +kernel
theorem dL_law_304 : decode cL_law 304 = .ok (.iconst 2, 1) := by decide +kernel
theorem dL_law_305 : decode cL_law 305 = .ok (.iadd, 1) := by decide +kernel
theorem dL_law_306 : decode cL_law 306 = .ok (.iaload, 1) := by decide +kernel
theorem dL_law_307 : decode cL_law 307 = .ok (.ifCond .eq 7, 3) := by decide +kernel
theorem dL_law_310 : decode cL_law 310 = .ok (.iconst 1, 1) := by decide +kernel
theorem dL_law_311 : decode cL_law 311 = .ok (.goto 4, 3) := by decide +kernel
theorem dL_law_314 : decode cL_law 314 = .ok (.iconst 0, 1) := by decide +kernel
theorem dL_law_315 : decode cL_law 315 = .ok (.invokevirtual 27, 3) := by decide +kernel
theorem dL_law_318 : decode cL_law 318 = .ok (.if_icmp .eq 1087, 3) := by decide +kernel
theorem dL_law_321 : decode cL_law 321 = .ok (.iconst 0, 1) := by decide +kernel
theorem dL_law_322 : decode cL_law 322 = .ok (.ireturn, 1) := by decide +kernel
theorem dL_law_323 : decode cL_law 323 = .ok (.aload_n 1, 1) := by decide +kernel
theorem dL_law_324 : decode cL_law 324 = .ok (.aload_n 0, 1) := by decide +kernel
theorem dL_law_325 : decode cL_law 325 = .ok (.iload_n 3, 1) := by decide +kernel
theorem dL_law_326 : decode cL_law 326 = .ok (.iconst 1, 1) := by decide +kernel
theorem dL_law_327 : decode cL_law 327 = .ok (.iadd, 1) := by decide +kernel
theorem dL_law_328 : decode cL_law 328 = .ok (.iaload, 1) := by decide +kernel
theorem dL_law_329 : decode cL_law 329 = .ok (.aload_n 0, 1) := by decide +kernel
theorem dL_law_330 : decode cL_law 330 = .ok (.iload_n 3, 1) := by decide +kernel
theorem dL_law_331 : decode cL_law 331 = .ok (.iconst 2, 1) := by decide +kernel
theorem dL_law_332 : decode cL_law 332 = .ok (.iadd, 1) := by decide +kernel
theorem dL_law_333 : decode cL_law 333 = .ok (.iaload, 1) := by decide +kernel
theorem dL_law_334 : decode cL_law 334 = .ok (.invokevirtual 28, 3) := by decide +kernel
theorem dL_law_337 : decode cL_law 337 = .ok (.aload_n 2, 1) := by decide +kernel
theorem dL_law_338 : decode cL_law 338 = .ok (.aload_n 0, 1) := by decide +kernel
theorem dL_law_339 : decode cL_law 339 = .ok (.iload_n 3, 1) := by decide +kernel
theorem dL_law_340 : decode cL_law 340 = .ok (.iconst 1, 1) := by decide +kernel
theorem dL_law_341 : decode cL_law 341 = .ok (.iadd, 1) := by decide +kernel
theorem dL_law_342 : decode cL_law 342 = .ok (.iaload, 1) := by decide +kernel
theorem dL_law_343 : decode cL_law 343 = .ok (.aload_n 0, 1) := by decide +kernel
theorem dL_law_344 : decode cL_law 344 = .ok (.iload_n 3, 1) := by decide +kernel
theorem dL_law_345 : decode cL_law 345 = .ok (.iconst 2, 1) := by decide +kernel
theorem dL_law_346 : decode cL_law 346 = .ok (.iadd, 1) := by decide +kernel
theorem dL_law_347 : decode cL_law 347 = .ok (.iaload, 1) := by decide +kernel
theorem dL_law_348 : decode cL_law 348 = .ok (.invokevirtual 32, 3) := by decide +kernel
theorem dL_law_351 : decode cL_law 351 = .ok (.if_icmp .eq 1054, 3) := by decide +kernel
theorem dL_law_354 : decode cL_law 354 = .ok (.iconst 0, 1) := by decide +kernel
theorem dL_law_355 : decode cL_law 355 = .ok (.ireturn, 1) := by decide +kernel
theorem dL_law_356 : decode cL_law 356 = .ok (.aload_n 1, 1) := by decide +kernel
theorem dL_law_357 : decode cL_law 357 = .ok (.aload_n 0, 1) := by decide +kernel
theorem dL_law_358 : decode cL_law 358 = .ok (.iload_n 3, 1) := by decide +kernel
theorem dL_law_359 : decode cL_law 359 = .ok (.iconst 1, 1) := by decide +kernel
theorem dL_law_360 : decode cL_law 360 = .ok (.iadd, 1) := by decide +kernel
theorem dL_law_361 : decode cL_law 361 = .ok (.iaload, 1) := by decide +kernel
theorem dL_law_362 : decode cL_law 362 = .ok (.aload_n 0, 1) := by decide +kernel
theorem dL_law_363 : decode cL_law 363 = .ok (.iload_n 3, 1) := by decide +kernel
theorem dL_law_364 : decode cL_law 364 = .ok (.iconst 2, 1) := by decide +kernel
theorem dL_law_365 : decode cL_law 365 = .ok (.iadd, 1) := by decide +kernel
theorem dL_law_366 : decode cL_law 366 = .ok (.iaload, 1) := by decide +kernel
theorem dL_law_367 : decode cL_law 367 = .ok (.aload_n 0, 1) := by decide +kernel
theorem dL_law_368 : decode cL_law 368 = .ok (.iload_n 3, 1) := by decide +kernel
theorem dL_law_369 : decode cL_law 369 = .ok (.iconst 3, 1) := by decide +kernel
theorem dL_law_370 : decode cL_law 370 = .ok (.iadd, 1) := by decide +kernel
theorem dL_law_371 : decode cL_law 371 = .ok (.iaload, 1) := by decide +kernel
theorem dL_law_372 : decode cL_law 372 = .ok (.aload_n 0, 1) := by decide +kernel
theorem dL_law_373 : decode cL_law 373 = .ok (.iload_n 3, 1) := by decide +kernel
theorem dL_law_374 : decode cL_law 374 = .ok (.iconst 4, 1) := by decide +kernel
theorem dL_law_375 : decode cL_law 375 = .ok (.iadd, 1) := by decide +kernel
theorem dL_law_376 : decode cL_law 376 = .ok (.iaload, 1) := by decide +kernel
theorem dL_law_377 : decode cL_law 377 = .ok (.invokevirtual 33, 3) := by decide +kernel
theorem dL_law_380 : decode cL_law 380 = .ok (.aload_n 2, 1) := by decide +kernel
theorem dL_law_381 : decode cL_law 381 = .ok (.aload_n 0, 1) := by decide +kernel
theorem dL_law_382 : decode cL_law 382 = .ok (.iload_n 3, 1) := by decide +kernel
theorem dL_law_383 : decode cL_law 383 = .ok (.iconst 1, 1) := by decide +kernel
theorem dL_law_384 : decode cL_law 384 = .ok (.iadd, 1) := by decide +kernel
theorem dL_law_385 : decode cL_law 385 = .ok (.iaload, 1) := by decide +kernel
theorem dL_law_386 : decode cL_law 386 = .ok (.aload_n 0, 1) := by decide +kernel
theorem dL_law_387 : decode cL_law 387 = .ok (.iload_n 3, 1) := by decide +kernel
theorem dL_law_388 : decode cL_law 388 = .ok (.iconst 2, 1) := by decide +kernel
theorem dL_law_389 : decode cL_law 389 = .ok (.iadd, 1) := by decide +kernel
theorem dL_law_390 : decode cL_law 390 = .ok (.iaload, 1) := by decide +kernel
theorem dL_law_391 : decode cL_law 391 = .ok (.aload_n 0, 1) := by decide +kernel
theorem dL_law_392 : decode cL_law 392 = .ok (.iload_n 3, 1) := by decide +kernel
theorem dL_law_393 : decode cL_law 393 = .ok (.iconst 3, 1) := by decide +kernel
theorem dL_law_394 : decode cL_law 394 = .ok (.iadd, 1) := by decide +kernel
theorem dL_law_395 : decode cL_law 395 = .ok (.iaload, 1) := by decide +kernel
theorem dL_law_396 : decode cL_law 396 = .ok (.aload_n 0, 1) := by decide +kernel
theorem dL_law_397 : decode cL_law 397 = .ok (.iload_n 3, 1) := by decide +kernel
theorem dL_law_398 : decode cL_law 398 = .ok (.iconst 4, 1) := by decide +kernel
theorem dL_law_399 : decode cL_law 399 = .ok (.iadd, 1) := by decide +kernel
theorem dL_law_400 : decode cL_law 400 = .ok (.iaload, 1) := by decide +kernel
theorem dL_law_401 : decode cL_law 401 = .ok (.invokevirtual 37, 3) := by decide +kernel
theorem dL_law_404 : decode cL_law 404 = .ok (.if_icmp .eq 1001, 3) := by decide +kernel
theorem dL_law_407 : decode cL_law 407 = .ok (.iconst 0, 1) := by decide +kernel
theorem dL_law_408 : decode cL_law 408 = .ok (.ireturn, 1) := by decide +kernel
theorem dL_law_409 : decode cL_law 409 = .ok (.aload_n 1, 1) := by decide +kernel
theorem dL_law_410 : decode cL_law 410 = .ok (.aload_n 0, 1) := by decide +kernel
theorem dL_law_411 : decode cL_law 411 = .ok (.iload_n 3, 1) := by decide +kernel
theorem dL_law_412 : decode cL_law 412 = .ok (.iconst 1, 1) := by decide +kernel
theorem dL_law_413 : decode cL_law 413 = .ok (.iadd, 1) := by decide +kernel
theorem dL_law_414 : decode cL_law 414 = .ok (.iaload, 1) := by decide +kernel
theorem dL_law_415 : decode cL_law 415 = .ok (.aload_n 0, 1) := by decide +kernel
theorem dL_law_416 : decode cL_law 416 = .ok (.iload_n 3, 1) := by decide +kernel
theorem dL_law_417 : decode cL_law 417 = .ok (.iconst 2, 1) := by decide +kernel
theorem dL_law_418 : decode cL_law 418 = .ok (.iadd, 1) := by decide +kernel
theorem dL_law_419 : decode cL_law 419 = .ok (.iaload, 1) := by decide +kernel
theorem dL_law_420 : decode cL_law 420 = .ok (.aload_n 0, 1) := by decide +kernel
theorem dL_law_421 : decode cL_law 421 = .ok (.iload_n 3, 1) := by decide +kernel
theorem dL_law_422 : decode cL_law 422 = .ok (.iconst 3, 1) := by decide +kernel
theorem dL_law_423 : decode cL_law 423 = .ok (.iadd, 1) := by decide +kernel
theorem dL_law_424 : decode cL_law 424 = .ok (.iaload, 1) := by decide +kernel
theorem dL_law_425 : decode cL_law 425 = .ok (.invokevirtual 38, 3) := by decide +kernel
theorem dL_law_428 : decode cL_law 428 = .ok (.aload_n 2, 1) := by decide +kernel
theorem dL_law_429 : decode cL_law 429 = .ok (.aload_n 0, 1) := by decide +kernel
theorem dL_law_430 : decode cL_law 430 = .ok (.iload_n 3, 1) := by decide +kernel
theorem dL_law_431 : decode cL_law 431 = .ok (.iconst 1, 1) := by decide +kernel
theorem dL_law_432 : decode cL_law 432 = .ok (.iadd, 1) := by decide +kernel
theorem dL_law_433 : decode cL_law 433 = .ok (.iaload, 1) := by decide +kernel
theorem dL_law_434 : decode cL_law 434 = .ok (.aload_n 0, 1) := by decide +kernel
theorem dL_law_435 : decode cL_law 435 = .ok (.iload_n 3, 1) := by decide +kernel
theorem dL_law_436 : decode cL_law 436 = .ok (.iconst 2, 1) := by decide +kernel
theorem dL_law_437 : decode cL_law 437 = .ok (.iadd, 1) := by decide +kernel
theorem dL_law_438 : decode cL_law 438 = .ok (.iaload, 1) := by decide +kernel
theorem dL_law_439 : decode cL_law 439 = .ok (.aload_n 0, 1) := by decide +kernel
theorem dL_law_440 : decode cL_law 440 = .ok (.iload_n 3, 1) := by decide +kernel
theorem dL_law_441 : decode cL_law 441 = .ok (.iconst 3, 1) := by decide +kernel
theorem dL_law_442 : decode cL_law 442 = .ok (.iadd, 1) := by decide +kernel
theorem dL_law_443 : decode cL_law 443 = .ok (.iaload, 1) := by decide +kernel
theorem dL_law_444 : decode cL_law 444 = .ok (.invokevirtual 42, 3) := by decide +kernel
theorem dL_law_447 : decode cL_law 447 = .ok (.if_icmp .eq 958, 3) := by decide +kernel
theorem dL_law_450 : decode cL_law 450 = .ok (.iconst 0, 1) := by decide +kernel
theorem dL_law_451 : decode cL_law 451 = .ok (.ireturn, 1) := by decide +kernel
theorem dL_law_452 : decode cL_law 452 = .ok (.aload_n 1, 1) := by decide +kernel
theorem dL_law_453 : decode cL_law 453 = .ok (.aload_n 0, 1) := by decide +kernel
theorem dL_law_454 : decode cL_law 454 = .ok (.iload_n 3, 1) := by decide +kernel
theorem dL_law_455 : decode cL_law 455 = .ok (.iconst 1, 1) := by decide +kernel
theorem dL_law_456 : decode cL_law 456 = .ok (.iadd, 1) := by decide +kernel
theorem dL_law_457 : decode cL_law 457 = .ok (.iaload, 1) := by decide +kernel
theorem dL_law_458 : decode cL_law 458 = .ok (.aload_n 0, 1) := by decide +kernel
theorem dL_law_459 : decode cL_law 459 = .ok (.iload_n 3, 1) := by decide +kernel
theorem dL_law_460 : decode cL_law 460 = .ok (.iconst 2, 1) := by decide +kernel
theorem dL_law_461 : decode cL_law 461 = .ok (.iadd, 1) := by decide +kernel
theorem dL_law_462 : decode cL_law 462 = .ok (.iaload, 1) := by decide +kernel
theorem dL_law_463 : decode cL_law 463 = .ok (.aload_n 0, 1) := by decide +kernel
theorem dL_law_464 : decode cL_law 464 = .ok (.iload_n 3, 1) := by decide +kernel
theorem dL_law_465 : decode cL_law 465 = .ok (.iconst 3, 1) := by decide +kernel
theorem dL_law_466 : decode cL_law 466 = .ok (.iadd, 1) := by decide +kernel
theorem dL_law_467 : decode cL_law 467 = .ok (.iaload, 1) := by decide +kernel
theorem dL_law_468 : decode cL_law 468 = .ok (.invokevirtual 43, 3) := by decide +kernel
theorem dL_law_471 : decode cL_law 471 = .ok (.aload_n 2, 1) := by decide +kernel
theorem dL_law_472 : decode cL_law 472 = .ok (.aload_n 0, 1) := by decide +kernel
theorem dL_law_473 : decode cL_law 473 = .ok (.iload_n 3, 1) := by decide +kernel
theorem dL_law_474 : decode cL_law 474 = .ok (.iconst 1, 1) := by decide +kernel
theorem dL_law_475 : decode cL_law 475 = .ok (.iadd, 1) := by decide +kernel
theorem dL_law_476 : decode cL_law 476 = .ok (.iaload, 1) := by decide +kernel
theorem dL_law_477 : decode cL_law 477 = .ok (.aload_n 0, 1) := by decide +kernel
theorem dL_law_478 : decode cL_law 478 = .ok (.iload_n 3, 1) := by decide +kernel
theorem dL_law_479 : decode cL_law 479 = .ok (.iconst 2, 1) := by decide +kernel
theorem dL_law_480 : decode cL_law 480 = .ok (.iadd, 1) := by decide +kernel
theorem dL_law_481 : decode cL_law 481 = .ok (.iaload, 1) := by decide +kernel
theorem dL_law_482 : decode cL_law 482 = .ok (.aload_n 0, 1) := by decide +kernel
theorem dL_law_483 : decode cL_law 483 = .ok (.iload_n 3, 1) := by decide +kernel
theorem dL_law_484 : decode cL_law 484 = .ok (.iconst 3, 1) := by decide +kernel
theorem dL_law_485 : decode cL_law 485 = .ok (.iadd, 1) := by decide +kernel
theorem dL_law_486 : decode cL_law 486 = .ok (.iaload, 1) := by decide +kernel
theorem dL_law_487 : decode cL_law 487 = .ok (.invokevirtual 46, 3) := by decide +kernel
theorem dL_law_490 : decode cL_law 490 = .ok (.if_icmp .eq 915, 3) := by decide +kernel
theorem dL_law_493 : decode cL_law 493 = .ok (.iconst 0, 1) := by decide +kernel
theorem dL_law_494 : decode cL_law 494 = .ok (.ireturn, 1) := by decide +kernel
theorem dL_law_495 : decode cL_law 495 = .ok (.aload_n 1, 1) := by decide +kernel
theorem dL_law_496 : decode cL_law 496 = .ok (.aload_n 0, 1) := by decide +kernel
theorem dL_law_497 : decode cL_law 497 = .ok (.iload_n 3, 1) := by decide +kernel
theorem dL_law_498 : decode cL_law 498 = .ok (.iconst 1, 1) := by decide +kernel
theorem dL_law_499 : decode cL_law 499 = .ok (.iadd, 1) := by decide +kernel
theorem dL_law_500 : decode cL_law 500 = .ok (.iaload, 1) := by decide +kernel
theorem dL_law_501 : decode cL_law 501 = .ok (.aload_n 0, 1) := by decide +kernel
theorem dL_law_502 : decode cL_law 502 = .ok (.iload_n 3, 1) := by decide +kernel
theorem dL_law_503 : decode cL_law 503 = .ok (.iconst 2, 1) := by decide +kernel
theorem dL_law_504 : decode cL_law 504 = .ok (.iadd, 1) := by decide +kernel
theorem dL_law_505 : decode cL_law 505 = .ok (.iaload, 1) := by decide +kernel
theorem dL_law_506 : decode cL_law 506 = .ok (.aload_n 0, 1) := by decide +kernel
theorem dL_law_507 : decode cL_law 507 = .ok (.iload_n 3, 1) := by decide +kernel
theorem dL_law_508 : decode cL_law 508 = .ok (.iconst 3, 1) := by decide +kernel
theorem dL_law_509 : decode cL_law 509 = .ok (.iadd, 1) := by decide +kernel
theorem dL_law_510 : decode cL_law 510 = .ok (.iaload, 1) := by decide +kernel
theorem dL_law_511 : decode cL_law 511 = .ok (.aload_n 0, 1) := by decide +kernel
theorem dL_law_512 : decode cL_law 512 = .ok (.iload_n 3, 1) := by decide +kernel
theorem dL_law_513 : decode cL_law 513 = .ok (.iconst 4, 1) := by decide +kernel
theorem dL_law_514 : decode cL_law 514 = .ok (.iadd, 1) := by decide +kernel
theorem dL_law_515 : decode cL_law 515 = .ok (.iaload, 1) := by decide +kernel
theorem dL_law_516 : decode cL_law 516 = .ok (.aload_n 0, 1) := by decide +kernel
theorem dL_law_517 : decode cL_law 517 = .ok (.iload_n 3, 1) := by decide +kernel
theorem dL_law_518 : decode cL_law 518 = .ok (.iconst 5, 1) := by decide +kernel
theorem dL_law_519 : decode cL_law 519 = .ok (.iadd, 1) := by decide +kernel
theorem dL_law_520 : decode cL_law 520 = .ok (.iaload, 1) := by decide +kernel
theorem dL_law_521 : decode cL_law 521 = .ok (.invokevirtual 47, 3) := by decide +kernel
theorem dL_law_524 : decode cL_law 524 = .ok (.aload_n 2, 1) := by decide +kernel
theorem dL_law_525 : decode cL_law 525 = .ok (.aload_n 0, 1) := by decide +kernel
theorem dL_law_526 : decode cL_law 526 = .ok (.iload_n 3, 1) := by decide +kernel
theorem dL_law_527 : decode cL_law 527 = .ok (.iconst 1, 1) := by decide +kernel
theorem dL_law_528 : decode cL_law 528 = .ok (.iadd, 1) := by decide +kernel
theorem dL_law_529 : decode cL_law 529 = .ok (.iaload, 1) := by decide +kernel
theorem dL_law_530 : decode cL_law 530 = .ok (.aload_n 0, 1) := by decide +kernel
theorem dL_law_531 : decode cL_law 531 = .ok (.iload_n 3, 1) := by decide +kernel
theorem dL_law_532 : decode cL_law 532 = .ok (.iconst 2, 1) := by decide +kernel
theorem dL_law_533 : decode cL_law 533 = .ok (.iadd, 1) := by decide +kernel
theorem dL_law_534 : decode cL_law 534 = .ok (.iaload, 1) := by decide +kernel
theorem dL_law_535 : decode cL_law 535 = .ok (.aload_n 0, 1) := by decide +kernel
theorem dL_law_536 : decode cL_law 536 = .ok (.iload_n 3, 1) := by decide +kernel
theorem dL_law_537 : decode cL_law 537 = .ok (.iconst 3, 1) := by decide +kernel
theorem dL_law_538 : decode cL_law 538 = .ok (.iadd, 1) := by decide +kernel
theorem dL_law_539 : decode cL_law 539 = .ok (.iaload, 1) := by decide +kernel
theorem dL_law_540 : decode cL_law 540 = .ok (.aload_n 0, 1) := by decide +kernel
theorem dL_law_541 : decode cL_law 541 = .ok (.iload_n 3, 1) := by decide +kernel
theorem dL_law_542 : decode cL_law 542 = .ok (.iconst 4, 1) := by decide +kernel
theorem dL_law_543 : decode cL_law 543 = .ok (.iadd, 1) := by decide +kernel
theorem dL_law_544 : decode cL_law 544 = .ok (.iaload, 1) := by decide +kernel
theorem dL_law_545 : decode cL_law 545 = .ok (.aload_n 0, 1) := by decide +kernel
theorem dL_law_546 : decode cL_law 546 = .ok (.iload_n 3, 1) := by decide +kernel
theorem dL_law_547 : decode cL_law 547 = .ok (.iconst 5, 1) := by decide +kernel
theorem dL_law_548 : decode cL_law 548 = .ok (.iadd, 1) := by decide +kernel
theorem dL_law_549 : decode cL_law 549 = .ok (.iaload, 1) := by decide +kernel
theorem dL_law_550 : decode cL_law 550 = .ok (.invokevirtual 50, 3) := by decide +kernel
theorem dL_law_553 : decode cL_law 553 = .ok (.if_icmp .eq 852, 3) := by decide +kernel
theorem dL_law_556 : decode cL_law 556 = .ok (.iconst 0, 1) := by decide +kernel
theorem dL_law_557 : decode cL_law 557 = .ok (.ireturn, 1) := by decide +kernel
theorem dL_law_558 : decode cL_law 558 = .ok (.aload_n 1, 1) := by decide +kernel
theorem dL_law_559 : decode cL_law 559 = .ok (.aload_n 0, 1) := by decide +kernel
theorem dL_law_560 : decode cL_law 560 = .ok (.iload_n 3, 1) := by decide +kernel
theorem dL_law_561 : decode cL_law 561 = .ok (.iconst 1, 1) := by decide +kernel
theorem dL_law_562 : decode cL_law 562 = .ok (.iadd, 1) := by decide +kernel
theorem dL_law_563 : decode cL_law 563 = .ok (.iaload, 1) := by decide +kernel
theorem dL_law_564 : decode cL_law 564 = .ok (.aload_n 0, 1) := by decide +kernel
theorem dL_law_565 : decode cL_law 565 = .ok (.iload_n 3, 1) := by decide +kernel
theorem dL_law_566 : decode cL_law 566 = .ok (.iconst 2, 1) := by decide +kernel
theorem dL_law_567 : decode cL_law 567 = .ok (.iadd, 1) := by decide +kernel
theorem dL_law_568 : decode cL_law 568 = .ok (.iaload, 1) := by decide +kernel
theorem dL_law_569 : decode cL_law 569 = .ok (.aload_n 0, 1) := by decide +kernel
theorem dL_law_570 : decode cL_law 570 = .ok (.iload_n 3, 1) := by decide +kernel
theorem dL_law_571 : decode cL_law 571 = .ok (.iconst 3, 1) := by decide +kernel
theorem dL_law_572 : decode cL_law 572 = .ok (.iadd, 1) := by decide +kernel
theorem dL_law_573 : decode cL_law 573 = .ok (.iaload, 1) := by decide +kernel
theorem dL_law_574 : decode cL_law 574 = .ok (.aload_n 0, 1) := by decide +kernel
theorem dL_law_575 : decode cL_law 575 = .ok (.iload_n 3, 1) := by decide +kernel
theorem dL_law_576 : decode cL_law 576 = .ok (.iconst 4, 1) := by decide +kernel
theorem dL_law_577 : decode cL_law 577 = .ok (.iadd, 1) := by decide +kernel
theorem dL_law_578 : decode cL_law 578 = .ok (.iaload, 1) := by decide +kernel
theorem dL_law_579 : decode cL_law 579 = .ok (.invokevirtual 51, 3) := by decide +kernel
theorem dL_law_582 : decode cL_law 582 = .ok (.aload_n 2, 1) := by decide +kernel
theorem dL_law_583 : decode cL_law 583 = .ok (.aload_n 0, 1) := by decide +kernel
theorem dL_law_584 : decode cL_law 584 = .ok (.iload_n 3, 1) := by decide +kernel
theorem dL_law_585 : decode cL_law 585 = .ok (.iconst 1, 1) := by decide +kernel
theorem dL_law_586 : decode cL_law 586 = .ok (.iadd, 1) := by decide +kernel
theorem dL_law_587 : decode cL_law 587 = .ok (.iaload, 1) := by decide +kernel
theorem dL_law_588 : decode cL_law 588 = .ok (.aload_n 0, 1) := by decide +kernel
theorem dL_law_589 : decode cL_law 589 = .ok (.iload_n 3, 1) := by decide +kernel
theorem dL_law_590 : decode cL_law 590 = .ok (.iconst 2, 1) := by decide +kernel
theorem dL_law_591 : decode cL_law 591 = .ok (.iadd, 1) := by decide +kernel
theorem dL_law_592 : decode cL_law 592 = .ok (.iaload, 1) := by decide +kernel
theorem dL_law_593 : decode cL_law 593 = .ok (.aload_n 0, 1) := by decide +kernel
theorem dL_law_594 : decode cL_law 594 = .ok (.iload_n 3, 1) := by decide +kernel
theorem dL_law_595 : decode cL_law 595 = .ok (.iconst 3, 1) := by decide +kernel
theorem dL_law_596 : decode cL_law 596 = .ok (.iadd, 1) := by decide +kernel
theorem dL_law_597 : decode cL_law 597 = .ok (.iaload, 1) := by decide +kernel
theorem dL_law_598 : decode cL_law 598 = .ok (.aload_n 0, 1) := by decide +kernel
theorem dL_law_599 : decode cL_law 599 = .ok (.iload_n 3, 1) := by decide +kernel
theorem dL_law_600 : decode cL_law 600 = .ok (.iconst 4, 1) := by decide +kernel
theorem dL_law_601 : decode cL_law 601 = .ok (.iadd, 1) := by decide +kernel
theorem dL_law_602 : decode cL_law 602 = .ok (.iaload, 1) := by decide +kernel
theorem dL_law_603 : decode cL_law 603 = .ok (.invokevirtual 54, 3) := by decide +kernel
theorem dL_law_606 : decode cL_law 606 = .ok (.if_icmp .eq 799, 3) := by decide +kernel
theorem dL_law_609 : decode cL_law 609 = .ok (.iconst 0, 1) := by decide +kernel
theorem dL_law_610 : decode cL_law 610 = .ok (.ireturn, 1) := by decide +kernel
theorem dL_law_611 : decode cL_law 611 = .ok (.aload_n 1, 1) := by decide +kernel
theorem dL_law_612 : decode cL_law 612 = .ok (.aload_n 0, 1) := by decide +kernel
theorem dL_law_613 : decode cL_law 613 = .ok (.iload_n 3, 1) := by decide +kernel
theorem dL_law_614 : decode cL_law 614 = .ok (.iconst 1, 1) := by decide +kernel
theorem dL_law_615 : decode cL_law 615 = .ok (.iadd, 1) := by decide +kernel
theorem dL_law_616 : decode cL_law 616 = .ok (.iaload, 1) := by decide +kernel
theorem dL_law_617 : decode cL_law 617 = .ok (.aload_n 0, 1) := by decide +kernel
theorem dL_law_618 : decode cL_law 618 = .ok (.iload_n 3, 1) := by decide +kernel
theorem dL_law_619 : decode cL_law 619 = .ok (.iconst 2, 1) := by decide +kernel
theorem dL_law_620 : decode cL_law 620 = .ok (.iadd, 1) := by decide +kernel
theorem dL_law_621 : decode cL_law 621 = .ok (.iaload, 1) := by decide +kernel
theorem dL_law_622 : decode cL_law 622 = .ok (.aload_n 0, 1) := by decide +kernel
theorem dL_law_623 : decode cL_law 623 = .ok (.iload_n 3, 1) := by decide +kernel
theorem dL_law_624 : decode cL_law 624 = .ok (.iconst 3, 1) := by decide +kernel
theorem dL_law_625 : decode cL_law 625 = .ok (.iadd, 1) := by decide +kernel
theorem dL_law_626 : decode cL_law 626 = .ok (.iaload, 1) := by decide +kernel
theorem dL_law_627 : decode cL_law 627 = .ok (.aload_n 0, 1) := by decide +kernel
theorem dL_law_628 : decode cL_law 628 = .ok (.iload_n 3, 1) := by decide +kernel
theorem dL_law_629 : decode cL_law 629 = .ok (.iconst 4, 1) := by decide +kernel
