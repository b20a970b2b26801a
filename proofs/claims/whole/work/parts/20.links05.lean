theorem lX7_26 : mLk RX7 26 yJ9_max_7cf53 := Or.inl (TBg_mem (List.mem_of_getElem? (i := 1111) (by decide +kernel)) (by decide +kernel))
theorem lX11_339 : mLk RX11 339 yX9_offerAll := Or.inl (TBg_mem (List.mem_of_getElem? (i := 1112) (by decide +kernel)) (by decide +kernel))
theorem lL_157 : mLk RL 157 yX11_told := Or.inl (TBg_mem (List.mem_of_getElem? (i := 1116) (by decide +kernel)) (by decide +kernel))
theorem lX11_343 : mLk RX11 343 yX9_countIn := Or.inl (TBg_mem (List.mem_of_getElem? (i := 1120) (by decide +kernel)) (by decide +kernel))
theorem lX9_51 : mLk RX9 51 yX8_isIn := Or.inl (TBg_mem (List.mem_of_getElem? (i := 1124) (by decide +kernel)) (by decide +kernel))
theorem clL_10 : cLk RL 10 12 := ⟨_, rfl, (TBg_mem (List.mem_of_getElem? (i := 1125) (by decide +kernel)) (by decide +kernel)), (TBg_mem (List.mem_of_getElem? (i := 1126) (by decide +kernel)) (by decide +kernel)), (TBg_mem (List.mem_of_getElem? (i := 82) (by decide +kernel)) (by decide +kernel))⟩
theorem caL_10 : Cond.classLink RL 10 "SliceSellerModel" ∈ TBg := (TBg_mem (List.mem_of_getElem? (i := 1125) (by decide +kernel)) (by decide +kernel))
theorem lL_12 : mLk RL 12 yX12_init := Or.inl (TBg_mem (List.mem_of_getElem? (i := 1127) (by decide +kernel)) (by decide +kernel))
theorem oiX12_1 : Cond.methodLink RX12 1 Lib.objectInit ∈ TBg := (TBg_mem (List.mem_of_getElem? (i := 1130) (by decide +kernel)) (by decide +kernel))
theorem fX12_186 : fLk RX12 186 12 0 false .int := ⟨_, rfl, by decide, (TBg_mem (List.mem_of_getElem? (i := 1131) (by decide +kernel)) (by decide +kernel)), rfl, by decide +kernel⟩
theorem fX12_193 : fLk RX12 193 12 1 false .int := ⟨_, rfl, by decide, (TBg_mem (List.mem_of_getElem? (i := 1132) (by decide +kernel)) (by decide +kernel)), rfl, by decide +kernel⟩
theorem fX12_196 : fLk RX12 196 12 2 false .int := ⟨_, rfl, by decide, (TBg_mem (List.mem_of_getElem? (i := 1133) (by decide +kernel)) (by decide +kernel)), rfl, by decide +kernel⟩
theorem fX12_335 : fLk RX12 335 12 3 false .int := ⟨_, rfl, by decide, (TBg_mem (List.mem_of_getElem? (i := 1134) (by decide +kernel)) (by decide +kernel)), rfl, by decide +kernel⟩
theorem fX12_183 : fLk RX12 183 12 4 false .int := ⟨_, rfl, by decide, (TBg_mem (List.mem_of_getElem? (i := 1135) (by decide +kernel)) (by decide +kernel)), rfl, by decide +kernel⟩
theorem fX12_301 : fLk RX12 301 12 5 false .int := ⟨_, rfl, by decide, (TBg_mem (List.mem_of_getElem? (i := 1136) (by decide +kernel)) (by decide +kernel)), rfl, by decide +kernel⟩
theorem fX12_329 : fLk RX12 329 12 6 false .int := ⟨_, rfl, by decide, (TBg_mem (List.mem_of_getElem? (i := 1137) (by decide +kernel)) (by decide +kernel)), rfl, by decide +kernel⟩
theorem fX12_332 : fLk RX12 332 12 7 false .int := ⟨_, rfl, by decide, (TBg_mem (List.mem_of_getElem? (i := 1138) (by decide +kernel)) (by decide +kernel)), rfl, by decide +kernel⟩
theorem fX12_7 : fLk RX12 7 12 8 false .int := ⟨_, rfl, by decide, (TBg_mem (List.mem_of_getElem? (i := 1139) (by decide +kernel)) (by decide +kernel)), rfl, by decide +kernel⟩
theorem fX12_13 : fLk RX12 13 12 9 true (.array .int) := ⟨_, rfl, by decide, (TBg_mem (List.mem_of_getElem? (i := 1140) (by decide +kernel)) (by decide +kernel)), rfl, by decide +kernel⟩
theorem fX12_17 : fLk RX12 17 12 10 true (.array .int) := ⟨_, rfl, by decide, (TBg_mem (List.mem_of_getElem? (i := 1141) (by decide +kernel)) (by decide +kernel)), rfl, by decide +kernel⟩
theorem fX12_20 : fLk RX12 20 12 11 true (.array .int) := ⟨_, rfl, by decide, (TBg_mem (List.mem_of_getElem? (i := 1142) (by decide +kernel)) (by decide +kernel)), rfl, by decide +kernel⟩
theorem fX12_23 : fLk RX12 23 12 12 true (.array .int) := ⟨_, rfl, by decide, (TBg_mem (List.mem_of_getElem? (i := 1143) (by decide +kernel)) (by decide +kernel)), rfl, by decide +kernel⟩
theorem fX12_26 : fLk RX12 26 12 13 true (.array .int) := ⟨_, rfl, by decide, (TBg_mem (List.mem_of_getElem? (i := 1144) (by decide +kernel)) (by decide +kernel)), rfl, by decide +kernel⟩
theorem fX12_29 : fLk RX12 29 12 14 true (.array .int) := ⟨_, rfl, by decide, (TBg_mem (List.mem_of_getElem? (i := 1145) (by decide +kernel)) (by decide +kernel)), rfl, by decide +kernel⟩
theorem fX12_32 : fLk RX12 32 12 15 true (.array .int) := ⟨_, rfl, by decide, (TBg_mem (List.mem_of_getElem? (i := 1146) (by decide +kernel)) (by decide +kernel)), rfl, by decide +kernel⟩
theorem fX12_35 : fLk RX12 35 12 16 true (.array .int) := ⟨_, rfl, by decide, (TBg_mem (List.mem_of_getElem? (i := 1147) (by decide +kernel)) (by decide +kernel)), rfl, by decide +kernel⟩
theorem fX12_38 : fLk RX12 38 12 17 true (.array .int) := ⟨_, rfl, by decide, (TBg_mem (List.mem_of_getElem? (i := 1148) (by decide +kernel)) (by decide +kernel)), rfl, by decide +kernel⟩
theorem fX12_41 : fLk RX12 41 12 18 true (.array .boolean) := ⟨_, rfl, by decide, (TBg_mem (List.mem_of_getElem? (i := 1149) (by decide +kernel)) (by decide +kernel)), rfl, by decide +kernel⟩
theorem fX12_45 : fLk RX12 45 12 19 true (.array .int) := ⟨_, rfl, by decide, (TBg_mem (List.mem_of_getElem? (i := 1150) (by decide +kernel)) (by decide +kernel)), rfl, by decide +kernel⟩
theorem fX12_48 : fLk RX12 48 12 20 true (.array .int) := ⟨_, rfl, by decide, (TBg_mem (List.mem_of_getElem? (i := 1151) (by decide +kernel)) (by decide +kernel)), rfl, by decide +kernel⟩
theorem fX12_51 : fLk RX12 51 12 21 true (.array .int) := ⟨_, rfl, by decide, (TBg_mem (List.mem_of_getElem? (i := 1152) (by decide +kernel)) (by decide +kernel)), rfl, by decide +kernel⟩
theorem fX12_54 : fLk RX12 54 12 22 true (.array .int) := ⟨_, rfl, by decide, (TBg_mem (List.mem_of_getElem? (i := 1153) (by decide +kernel)) (by decide +kernel)), rfl, by decide +kernel⟩
theorem fX12_57 : fLk RX12 57 12 23 true (.array .int) := ⟨_, rfl, by decide, (TBg_mem (List.mem_of_getElem? (i := 1154) (by decide +kernel)) (by decide +kernel)), rfl, by decide +kernel⟩
theorem fX12_60 : fLk RX12 60 12 24 true (.array .int) := ⟨_, rfl, by decide, (TBg_mem (List.mem_of_getElem? (i := 1155) (by decide +kernel)) (by decide +kernel)), rfl, by decide +kernel⟩
theorem fX12_63 : fLk RX12 63 12 25 true (.array .int) := ⟨_, rfl, by decide, (TBg_mem (List.mem_of_getElem? (i := 1156) (by decide +kernel)) (by decide +kernel)), rfl, by decide +kernel⟩
theorem fX12_66 : fLk RX12 66 12 26 true (.array .int) := ⟨_, rfl, by decide, (TBg_mem (List.mem_of_getElem? (i := 1157) (by decide +kernel)) (by decide +kernel)), rfl, by decide +kernel⟩
theorem fX12_69 : fLk RX12 69 12 27 true (.array .int) := ⟨_, rfl, by decide, (TBg_mem (List.mem_of_getElem? (i := 1158) (by decide +kernel)) (by decide +kernel)), rfl, by decide +kernel⟩
theorem fX12_72 : fLk RX12 72 12 28 true (.array .int) := ⟨_, rfl, by decide, (TBg_mem (List.mem_of_getElem? (i := 1159) (by decide +kernel)) (by decide +kernel)), rfl, by decide +kernel⟩
theorem fX12_75 : fLk RX12 75 12 29 true (.array .int) := ⟨_, rfl, by decide, (TBg_mem (List.mem_of_getElem? (i := 1160) (by decide +kernel)) (by decide +kernel)), rfl, by decide +kernel⟩
theorem fX12_78 : fLk RX12 78 12 30 true (.array .int) := ⟨_, rfl, by decide, (TBg_mem (List.mem_of_getElem? (i := 1161) (by decide +kernel)) (by decide +kernel)), rfl, by decide +kernel⟩
theorem fX12_81 : fLk RX12 81 12 31 true (.array .int) := ⟨_, rfl, by decide, (TBg_mem (List.mem_of_getElem? (i := 1162) (by decide +kernel)) (by decide +kernel)), rfl, by decide +kernel⟩
theorem fX12_84 : fLk RX12 84 12 32 true (.array .int) := ⟨_, rfl, by decide, (TBg_mem (List.mem_of_getElem? (i := 1163) (by decide +kernel)) (by decide +kernel)), rfl, by decide +kernel⟩
theorem fX12_87 : fLk RX12 87 12 33 true (.array .int) := ⟨_, rfl, by decide, (TBg_mem (List.mem_of_getElem? (i := 1164) (by decide +kernel)) (by decide +kernel)), rfl, by decide +kernel⟩
theorem fX12_90 : fLk RX12 90 12 34 true (.array .int) := ⟨_, rfl, by decide, (TBg_mem (List.mem_of_getElem? (i := 1165) (by decide +kernel)) (by decide +kernel)), rfl, by decide +kernel⟩
theorem fX12_93 : fLk RX12 93 12 35 true (.array .boolean) := ⟨_, rfl, by decide, (TBg_mem (List.mem_of_getElem? (i := 1166) (by decide +kernel)) (by decide +kernel)), rfl, by decide +kernel⟩
theorem fX12_96 : fLk RX12 96 12 36 true (.array .int) := ⟨_, rfl, by decide, (TBg_mem (List.mem_of_getElem? (i := 1167) (by decide +kernel)) (by decide +kernel)), rfl, by decide +kernel⟩
theorem fX12_99 : fLk RX12 99 12 37 true (.array .int) := ⟨_, rfl, by decide, (TBg_mem (List.mem_of_getElem? (i := 1168) (by decide +kernel)) (by decide +kernel)), rfl, by decide +kernel⟩
theorem fX12_102 : fLk RX12 102 12 38 true (.array .int) := ⟨_, rfl, by decide, (TBg_mem (List.mem_of_getElem? (i := 1169) (by decide +kernel)) (by decide +kernel)), rfl, by decide +kernel⟩
theorem fX12_105 : fLk RX12 105 12 39 true (.array .int) := ⟨_, rfl, by decide, (TBg_mem (List.mem_of_getElem? (i := 1170) (by decide +kernel)) (by decide +kernel)), rfl, by decide +kernel⟩
theorem fX12_108 : fLk RX12 108 12 40 true (.array .int) := ⟨_, rfl, by decide, (TBg_mem (List.mem_of_getElem? (i := 1171) (by decide +kernel)) (by decide +kernel)), rfl, by decide +kernel⟩
theorem fX12_111 : fLk RX12 111 12 41 true (.array .int) := ⟨_, rfl, by decide, (TBg_mem (List.mem_of_getElem? (i := 1172) (by decide +kernel)) (by decide +kernel)), rfl, by decide +kernel⟩
theorem fX12_114 : fLk RX12 114 12 42 true (.array .int) := ⟨_, rfl, by decide, (TBg_mem (List.mem_of_getElem? (i := 1173) (by decide +kernel)) (by decide +kernel)), rfl, by decide +kernel⟩
theorem fX12_117 : fLk RX12 117 12 43 true (.array .int) := ⟨_, rfl, by decide, (TBg_mem (List.mem_of_getElem? (i := 1174) (by decide +kernel)) (by decide +kernel)), rfl, by decide +kernel⟩
theorem fX12_120 : fLk RX12 120 12 44 true (.array .int) := ⟨_, rfl, by decide, (TBg_mem (List.mem_of_getElem? (i := 1175) (by decide +kernel)) (by decide +kernel)), rfl, by decide +kernel⟩
theorem fX12_123 : fLk RX12 123 12 45 true (.array .int) := ⟨_, rfl, by decide, (TBg_mem (List.mem_of_getElem? (i := 1176) (by decide +kernel)) (by decide +kernel)), rfl, by decide +kernel⟩
theorem fX12_126 : fLk RX12 126 12 46 true (.array .int) := ⟨_, rfl, by decide, (TBg_mem (List.mem_of_getElem? (i := 1177) (by decide +kernel)) (by decide +kernel)), rfl, by decide +kernel⟩
theorem fX12_129 : fLk RX12 129 12 47 true (.array .int) := ⟨_, rfl, by decide, (TBg_mem (List.mem_of_getElem? (i := 1178) (by decide +kernel)) (by decide +kernel)), rfl, by decide +kernel⟩
theorem fX12_132 : fLk RX12 132 12 48 true (.array .int) := ⟨_, rfl, by decide, (TBg_mem (List.mem_of_getElem? (i := 1179) (by decide +kernel)) (by decide +kernel)), rfl, by decide +kernel⟩
theorem fX12_135 : fLk RX12 135 12 49 true (.array .int) := ⟨_, rfl, by decide, (TBg_mem (List.mem_of_getElem? (i := 1180) (by decide +kernel)) (by decide +kernel)), rfl, by decide +kernel⟩
theorem fX12_138 : fLk RX12 138 12 50 true (.array .int) := ⟨_, rfl, by decide, (TBg_mem (List.mem_of_getElem? (i := 1181) (by decide +kernel)) (by decide +kernel)), rfl, by decide +kernel⟩
theorem fX12_141 : fLk RX12 141 12 51 true (.array .int) := ⟨_, rfl, by decide, (TBg_mem (List.mem_of_getElem? (i := 1182) (by decide +kernel)) (by decide +kernel)), rfl, by decide +kernel⟩
theorem fX12_144 : fLk RX12 144 12 52 true (.array .int) := ⟨_, rfl, by decide, (TBg_mem (List.mem_of_getElem? (i := 1183) (by decide +kernel)) (by decide +kernel)), rfl, by decide +kernel⟩
theorem fX12_275 : fLk RX12 275 12 53 false .int := ⟨_, rfl, by decide, (TBg_mem (List.mem_of_getElem? (i := 1184) (by decide +kernel)) (by decide +kernel)), rfl, by decide +kernel⟩
theorem fX12_269 : fLk RX12 269 12 54 false .int := ⟨_, rfl, by decide, (TBg_mem (List.mem_of_getElem? (i := 1185) (by decide +kernel)) (by decide +kernel)), rfl, by decide +kernel⟩
theorem fX12_147 : fLk RX12 147 12 55 true (.array .int) := ⟨_, rfl, by decide, (TBg_mem (List.mem_of_getElem? (i := 1186) (by decide +kernel)) (by decide +kernel)), rfl, by decide +kernel⟩
theorem fX12_150 : fLk RX12 150 12 56 true (.array .int) := ⟨_, rfl, by decide, (TBg_mem (List.mem_of_getElem? (i := 1187) (by decide +kernel)) (by decide +kernel)), rfl, by decide +kernel⟩
theorem fX12_153 : fLk RX12 153 12 57 true (.array .int) := ⟨_, rfl, by decide, (TBg_mem (List.mem_of_getElem? (i := 1188) (by decide +kernel)) (by decide +kernel)), rfl, by decide +kernel⟩
theorem fX12_156 : fLk RX12 156 12 58 true (.array .int) := ⟨_, rfl, by decide, (TBg_mem (List.mem_of_getElem? (i := 1189) (by decide +kernel)) (by decide +kernel)), rfl, by decide +kernel⟩
theorem fX12_159 : fLk RX12 159 12 59 true (.array .boolean) := ⟨_, rfl, by decide, (TBg_mem (List.mem_of_getElem? (i := 1190) (by decide +kernel)) (by decide +kernel)), rfl, by decide +kernel⟩
theorem fX12_162 : fLk RX12 162 12 60 true (.array .int) := ⟨_, rfl, by decide, (TBg_mem (List.mem_of_getElem? (i := 1191) (by decide +kernel)) (by decide +kernel)), rfl, by decide +kernel⟩
theorem fX12_165 : fLk RX12 165 12 61 true (.array .int) := ⟨_, rfl, by decide, (TBg_mem (List.mem_of_getElem? (i := 1192) (by decide +kernel)) (by decide +kernel)), rfl, by decide +kernel⟩
theorem fX12_168 : fLk RX12 168 12 62 true (.array .int) := ⟨_, rfl, by decide, (TBg_mem (List.mem_of_getElem? (i := 1193) (by decide +kernel)) (by decide +kernel)), rfl, by decide +kernel⟩
theorem fX12_171 : fLk RX12 171 12 63 true (.array .int) := ⟨_, rfl, by decide, (TBg_mem (List.mem_of_getElem? (i := 1194) (by decide +kernel)) (by decide +kernel)), rfl, by decide +kernel⟩
theorem fX12_174 : fLk RX12 174 12 64 true (.array .int) := ⟨_, rfl, by decide, (TBg_mem (List.mem_of_getElem? (i := 1195) (by decide +kernel)) (by decide +kernel)), rfl, by decide +kernel⟩
theorem fX12_177 : fLk RX12 177 12 65 true (.array .boolean) := ⟨_, rfl, by decide, (TBg_mem (List.mem_of_getElem? (i := 1196) (by decide +kernel)) (by decide +kernel)), rfl, by decide +kernel⟩
theorem fX12_180 : fLk RX12 180 12 66 true (.array .int) := ⟨_, rfl, by decide, (TBg_mem (List.mem_of_getElem? (i := 1197) (by decide +kernel)) (by decide +kernel)), rfl, by decide +kernel⟩
theorem arc_boolean : Cond.arrayClass .boolean ∈ TBg := (TBg_mem (List.mem_of_getElem? (i := 1333) (by decide +kernel)) (by decide +kernel))
theorem lL_17 : mLk RL 17 yX12_node := Or.inl (TBg_mem (List.mem_of_getElem? (i := 1334) (by decide +kernel)) (by decide +kernel))
theorem lX12_189 : mLk RX12 189 yX12_in := Or.inl (TBg_mem (List.mem_of_getElem? (i := 1338) (by decide +kernel)) (by decide +kernel))
theorem kcX12_199 : Cond.constant RX12 199 (-1000001) ∈ TBg := (TBg_mem (List.mem_of_getElem? (i := 1341) (by decide +kernel)) (by decide +kernel))
theorem lX12_200 : mLk RX12 200 yX12_finds := Or.inl (TBg_mem (List.mem_of_getElem? (i := 1342) (by decide +kernel)) (by decide +kernel))
theorem kcX12_204 : Cond.constant RX12 204 (-1000002) ∈ TBg := (TBg_mem (List.mem_of_getElem? (i := 1346) (by decide +kernel)) (by decide +kernel))
theorem lL_22 : mLk RL 22 yX12_line := Or.inl (TBg_mem (List.mem_of_getElem? (i := 1347) (by decide +kernel)) (by decide +kernel))
theorem lX12_205 : mLk RX12 205 yX12_isNode := Or.inl (TBg_mem (List.mem_of_getElem? (i := 1351) (by decide +kernel)) (by decide +kernel))
theorem lL_27 : mLk RL 27 yX12_up := Or.inl (TBg_mem (List.mem_of_getElem? (i := 1355) (by decide +kernel)) (by decide +kernel))
theorem lX12_209 : mLk RX12 209 yX12_isLine := Or.inl (TBg_mem (List.mem_of_getElem? (i := 1359) (by decide +kernel)) (by decide +kernel))
theorem lL_32 : mLk RL 32 yX12_ways := Or.inl (TBg_mem (List.mem_of_getElem? (i := 1363) (by decide +kernel)) (by decide +kernel))
theorem lX12_224 : mLk RX12 224 yX12_areNodes := Or.inl (TBg_mem (List.mem_of_getElem? (i := 1367) (by decide +kernel)) (by decide +kernel))
theorem lX12_227 : mLk RX12 227 yX12_gather := Or.inl (TBg_mem (List.mem_of_getElem? (i := 1371) (by decide +kernel)) (by decide +kernel))
theorem lX12_212 : mLk RX12 212 yX12_has := Or.inl (TBg_mem (List.mem_of_getElem? (i := 1375) (by decide +kernel)) (by decide +kernel))
theorem lX12_216 : mLk RX12 216 yX12_record := Or.inl (TBg_mem (List.mem_of_getElem? (i := 1378) (by decide +kernel)) (by decide +kernel))
theorem lX12_220 : mLk RX12 220 yX12_isAhead := Or.inl (TBg_mem (List.mem_of_getElem? (i := 1382) (by decide +kernel)) (by decide +kernel))
theorem lL_37 : mLk RL 37 yX12_way := Or.inl (TBg_mem (List.mem_of_getElem? (i := 1386) (by decide +kernel)) (by decide +kernel))
theorem kcX12_230 : Cond.constant RX12 230 (-1000005) ∈ TBg := (TBg_mem (List.mem_of_getElem? (i := 1390) (by decide +kernel)) (by decide +kernel))
theorem lX12_231 : mLk RX12 231 yX12_digit := Or.inl (TBg_mem (List.mem_of_getElem? (i := 1391) (by decide +kernel)) (by decide +kernel))
theorem lL_50 : mLk RL 50 yX12_slice := Or.inl (TBg_mem (List.mem_of_getElem? (i := 1394) (by decide +kernel)) (by decide +kernel))
theorem lL_54 : mLk RL 54 yX12_terms := Or.inl (TBg_mem (List.mem_of_getElem? (i := 1398) (by decide +kernel)) (by decide +kernel))
theorem lX12_235 : mLk RX12 235 yX12_isSlice := Or.inl (TBg_mem (List.mem_of_getElem? (i := 1402) (by decide +kernel)) (by decide +kernel))
theorem kcX12_238 : Cond.constant RX12 238 (-1000003) ∈ TBg := (TBg_mem (List.mem_of_getElem? (i := 1406) (by decide +kernel)) (by decide +kernel))
theorem lL_58 : mLk RL 58 yX12_span := Or.inl (TBg_mem (List.mem_of_getElem? (i := 1407) (by decide +kernel)) (by decide +kernel))
theorem lX12_239 : mLk RX12 239 yX12_isTick := Or.inl (TBg_mem (List.mem_of_getElem? (i := 1411) (by decide +kernel)) (by decide +kernel))
theorem lL_62 : mLk RL 62 yX12_as := Or.inl (TBg_mem (List.mem_of_getElem? (i := 1414) (by decide +kernel)) (by decide +kernel))
theorem kcX12_242 : Cond.constant RX12 242 (-1000004) ∈ TBg := (TBg_mem (List.mem_of_getElem? (i := 1418) (by decide +kernel)) (by decide +kernel))
theorem lL_66 : mLk RL 66 yX12_of := Or.inl (TBg_mem (List.mem_of_getElem? (i := 1419) (by decide +kernel)) (by decide +kernel))
theorem lX12_243 : mLk RX12 243 yX12_need := Or.inl (TBg_mem (List.mem_of_getElem? (i := 1423) (by decide +kernel)) (by decide +kernel))
theorem lL_95 : mLk RL 95 yX12_load := Or.inl (TBg_mem (List.mem_of_getElem? (i := 1427) (by decide +kernel)) (by decide +kernel))
theorem lX12_256 : mLk RX12 256 yX12_countingAt := Or.inl (TBg_mem (List.mem_of_getElem? (i := 1431) (by decide +kernel)) (by decide +kernel))
theorem lX12_246 : mLk RX12 246 yX12_does := Or.inl (TBg_mem (List.mem_of_getElem? (i := 1435) (by decide +kernel)) (by decide +kernel))
theorem lX12_249 : mLk RX12 249 yX12_loadOf := Or.inl (TBg_mem (List.mem_of_getElem? (i := 1439) (by decide +kernel)) (by decide +kernel))
theorem lL_99 : mLk RL 99 yX12_fallRoom := Or.inl (TBg_mem (List.mem_of_getElem? (i := 1443) (by decide +kernel)) (by decide +kernel))
theorem lX12_253 : mLk RX12 253 yX12_fallOf := Or.inl (TBg_mem (List.mem_of_getElem? (i := 1447) (by decide +kernel)) (by decide +kernel))
theorem lL_103 : mLk RL 103 yX12_work := Or.inl (TBg_mem (List.mem_of_getElem? (i := 1451) (by decide +kernel)) (by decide +kernel))
theorem lX12_262 : mLk RX12 262 yX12_workOf := Or.inl (TBg_mem (List.mem_of_getElem? (i := 1455) (by decide +kernel)) (by decide +kernel))
theorem lL_107 : mLk RL 107 yX12_spare := Or.inl (TBg_mem (List.mem_of_getElem? (i := 1459) (by decide +kernel)) (by decide +kernel))
theorem lX12_265 : mLk RX12 265 yX12_leftOf := Or.inl (TBg_mem (List.mem_of_getElem? (i := 1463) (by decide +kernel)) (by decide +kernel))
theorem lL_42 : mLk RL 42 yX12_flow := Or.inl (TBg_mem (List.mem_of_getElem? (i := 1467) (by decide +kernel)) (by decide +kernel))
theorem lX12_278 : mLk RX12 278 yX12_findCut := Or.inl (TBg_mem (List.mem_of_getElem? (i := 1471) (by decide +kernel)) (by decide +kernel))
theorem kcX12_268 : Cond.constant RX12 268 (1000000) ∈ TBg := (TBg_mem (List.mem_of_getElem? (i := 1475) (by decide +kernel)) (by decide +kernel))
theorem lX12_272 : mLk RX12 272 yX12_ones := Or.inl (TBg_mem (List.mem_of_getElem? (i := 1476) (by decide +kernel)) (by decide +kernel))
theorem lL_46 : mLk RL 46 yX12_cut := Or.inl (TBg_mem (List.mem_of_getElem? (i := 1479) (by decide +kernel)) (by decide +kernel))
theorem lL_70 : mLk RL 70 yX12_places := Or.inl (TBg_mem (List.mem_of_getElem? (i := 1483) (by decide +kernel)) (by decide +kernel))
theorem lX12_284 : mLk RX12 284 yX12_start := Or.inl (TBg_mem (List.mem_of_getElem? (i := 1487) (by decide +kernel)) (by decide +kernel))
theorem lX12_288 : mLk RX12 288 yX12_advance := Or.inl (TBg_mem (List.mem_of_getElem? (i := 1491) (by decide +kernel)) (by decide +kernel))
theorem lL_74 : mLk RL 74 yX12_letIn := Or.inl (TBg_mem (List.mem_of_getElem? (i := 1495) (by decide +kernel)) (by decide +kernel))
theorem lX12_291 : mLk RX12 291 yX12_puts := Or.inl (TBg_mem (List.mem_of_getElem? (i := 1499) (by decide +kernel)) (by decide +kernel))
theorem lX12_281 : mLk RX12 281 yX12_areUp := Or.inl (TBg_mem (List.mem_of_getElem? (i := 1503) (by decide +kernel)) (by decide +kernel))
theorem lX12_294 : mLk RX12 294 yX12_holds := Or.inl (TBg_mem (List.mem_of_getElem? (i := 1507) (by decide +kernel)) (by decide +kernel))
theorem lX12_259 : mLk RX12 259 yX12_linesHold := Or.inl (TBg_mem (List.mem_of_getElem? (i := 1511) (by decide +kernel)) (by decide +kernel))
theorem lL_78 : mLk RL 78 yX12_why := Or.inl (TBg_mem (List.mem_of_getElem? (i := 1515) (by decide +kernel)) (by decide +kernel))
theorem lL_82 : mLk RL 82 yX12_out := Or.inl (TBg_mem (List.mem_of_getElem? (i := 1519) (by decide +kernel)) (by decide +kernel))
theorem lL_87 : mLk RL 87 yX12_wayOf := Or.inl (TBg_mem (List.mem_of_getElem? (i := 1523) (by decide +kernel)) (by decide +kernel))
theorem lL_91 : mLk RL 91 yX12_host := Or.inl (TBg_mem (List.mem_of_getElem? (i := 1527) (by decide +kernel)) (by decide +kernel))
theorem lL_111 : mLk RL 111 yX12_took := Or.inl (TBg_mem (List.mem_of_getElem? (i := 1531) (by decide +kernel)) (by decide +kernel))
theorem lX12_298 : mLk RX12 298 yX12_takes := Or.inl (TBg_mem (List.mem_of_getElem? (i := 1535) (by decide +kernel)) (by decide +kernel))
theorem lL_115 : mLk RL 115 yX12_lay := Or.inl (TBg_mem (List.mem_of_getElem? (i := 1539) (by decide +kernel)) (by decide +kernel))
theorem lX12_314 : mLk RX12 314 yX12_isOfThem := Or.inl (TBg_mem (List.mem_of_getElem? (i := 1543) (by decide +kernel)) (by decide +kernel))
theorem lX12_317 : mLk RX12 317 yX12_keeps := Or.inl (TBg_mem (List.mem_of_getElem? (i := 1547) (by decide +kernel)) (by decide +kernel))
theorem lX12_320 : mLk RX12 320 yX12_lays := Or.inl (TBg_mem (List.mem_of_getElem? (i := 1551) (by decide +kernel)) (by decide +kernel))
theorem lX12_305 : mLk RX12 305 yX12_after := Or.inl (TBg_mem (List.mem_of_getElem? (i := 1555) (by decide +kernel)) (by decide +kernel))
theorem lX12_308 : mLk RX12 308 yX12_comesIn := Or.inl (TBg_mem (List.mem_of_getElem? (i := 1559) (by decide +kernel)) (by decide +kernel))
theorem kcX12_304 : Cond.constant RX12 304 (-1000006) ∈ TBg := (TBg_mem (List.mem_of_getElem? (i := 1563) (by decide +kernel)) (by decide +kernel))
theorem lX12_311 : mLk RX12 311 yX12_before := Or.inl (TBg_mem (List.mem_of_getElem? (i := 1564) (by decide +kernel)) (by decide +kernel))
theorem lX12_323 : mLk RX12 323 yX12_backTo := Or.inl (TBg_mem (List.mem_of_getElem? (i := 1568) (by decide +kernel)) (by decide +kernel))
theorem lL_119 : mLk RL 119 yX12_can := Or.inl (TBg_mem (List.mem_of_getElem? (i := 1572) (by decide +kernel)) (by decide +kernel))
theorem lL_124 : mLk RL 124 yX12_best := Or.inl (TBg_mem (List.mem_of_getElem? (i := 1576) (by decide +kernel)) (by decide +kernel))
theorem lX12_326 : mLk RX12 326 yX12_worthOf := Or.inl (TBg_mem (List.mem_of_getElem? (i := 1580) (by decide +kernel)) (by decide +kernel))
theorem lL_128 : mLk RL 128 yX12_tries := Or.inl (TBg_mem (List.mem_of_getElem? (i := 1584) (by decide +kernel)) (by decide +kernel))
theorem lL_132 : mLk RL 132 yX12_offer := Or.inl (TBg_mem (List.mem_of_getElem? (i := 1588) (by decide +kernel)) (by decide +kernel))
theorem lL_136 : mLk RL 136 yX12_run := Or.inl (TBg_mem (List.mem_of_getElem? (i := 1592) (by decide +kernel)) (by decide +kernel))
theorem lX12_344 : mLk RX12 344 yX12_oneTick := Or.inl (TBg_mem (List.mem_of_getElem? (i := 1596) (by decide +kernel)) (by decide +kernel))
theorem lX12_338 : mLk RX12 338 yX12_leftIn := Or.inl (TBg_mem (List.mem_of_getElem? (i := 1600) (by decide +kernel)) (by decide +kernel))
theorem lX12_341 : mLk RX12 341 yX12_passes := Or.inl (TBg_mem (List.mem_of_getElem? (i := 1604) (by decide +kernel)) (by decide +kernel))
theorem lL_140 : mLk RL 140 yX12_about := Or.inl (TBg_mem (List.mem_of_getElem? (i := 1608) (by decide +kernel)) (by decide +kernel))
theorem lL_144 : mLk RL 144 yX12_sheet := Or.inl (TBg_mem (List.mem_of_getElem? (i := 1612) (by decide +kernel)) (by decide +kernel))
theorem lX12_347 : mLk RX12 347 yX12_isSheet := Or.inl (TBg_mem (List.mem_of_getElem? (i := 1616) (by decide +kernel)) (by decide +kernel))
theorem kcX12_350 : Cond.constant RX12 350 (-1000008) ∈ TBg := (TBg_mem (List.mem_of_getElem? (i := 1619) (by decide +kernel)) (by decide +kernel))
theorem lL_148 : mLk RL 148 yX12_write := Or.inl (TBg_mem (List.mem_of_getElem? (i := 1620) (by decide +kernel)) (by decide +kernel))
theorem kcX12_351 : Cond.constant RX12 351 (-1000007) ∈ TBg := (TBg_mem (List.mem_of_getElem? (i := 1624) (by decide +kernel)) (by decide +kernel))
theorem lL_152 : mLk RL 152 yX12_copy := Or.inl (TBg_mem (List.mem_of_getElem? (i := 1625) (by decide +kernel)) (by decide +kernel))
theorem lL_156 : mLk RL 156 yX12_read := Or.inl (TBg_mem (List.mem_of_getElem? (i := 1629) (by decide +kernel)) (by decide +kernel))
theorem lL_160 : mLk RL 160 yX12_told := Or.inl (TBg_mem (List.mem_of_getElem? (i := 1633) (by decide +kernel)) (by decide +kernel))
theorem lX12_352 : mLk RX12 352 yX12_countIn := Or.inl (TBg_mem (List.mem_of_getElem? (i := 1637) (by decide +kernel)) (by decide +kernel))
theorem oi_inst : Cond.instanceMethod Lib.objectInit ∈ TBg := (TBg_mem (List.mem_of_getElem? (i := 92) (by decide +kernel)) (by decide +kernel))
theorem oi_code : Cond.code Lib.objectInit ⟨#[0xb1]⟩ 1 none ∈ TBg := (TBg_mem (List.mem_of_getElem? (i := 93) (by decide +kernel)) (by decide +kernel))
theorem ac_nat : Cond.native arraycopyName ∈ TBg := (TBg_mem (List.mem_of_getElem? (i := 1094) (by decide +kernel)) (by decide +kernel))
theorem ac_stat : Cond.static arraycopyName ∈ TBg := (TBg_mem (List.mem_of_getElem? (i := 1093) (by decide +kernel)) (by decide +kernel))
theorem ac_ini : Cond.initialized "java/lang/System" ∈ TBg := (TBg_mem (List.mem_of_getElem? (i := 85) (by decide +kernel)) (by decide +kernel))
