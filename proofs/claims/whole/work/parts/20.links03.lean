theorem kX12_tries : yOK mX12_tries 0 := ⟨(TBg_mem (List.mem_of_getElem? (i := 1587) (by decide +kernel)) (by decide +kernel)), (TBg_mem (List.mem_of_getElem? (i := 82) (by decide +kernel)) (by decide +kernel)), ⟨by decide +kernel, by decide +kernel, by decide +kernel⟩, by decide⟩
theorem vX12_tries : vMeth mX12_tries := ⟨(TBg_mem (List.mem_of_getElem? (i := 1585) (by decide +kernel)) (by decide +kernel)), (TBg_mem (List.mem_of_getElem? (i := 1586) (by decide +kernel)) (by decide +kernel))⟩
theorem kX12_offer : yOK mX12_offer 2 := ⟨(TBg_mem (List.mem_of_getElem? (i := 1591) (by decide +kernel)) (by decide +kernel)), (TBg_mem (List.mem_of_getElem? (i := 82) (by decide +kernel)) (by decide +kernel)), ⟨by decide +kernel, by decide +kernel, by decide +kernel⟩, by decide⟩
theorem vX12_offer : vMeth mX12_offer := ⟨(TBg_mem (List.mem_of_getElem? (i := 1589) (by decide +kernel)) (by decide +kernel)), (TBg_mem (List.mem_of_getElem? (i := 1590) (by decide +kernel)) (by decide +kernel))⟩
theorem kX12_run : yOK mX12_run 1 := ⟨(TBg_mem (List.mem_of_getElem? (i := 1595) (by decide +kernel)) (by decide +kernel)), (TBg_mem (List.mem_of_getElem? (i := 82) (by decide +kernel)) (by decide +kernel)), ⟨by decide +kernel, by decide +kernel, by decide +kernel⟩, by decide⟩
theorem vX12_run : vMeth mX12_run := ⟨(TBg_mem (List.mem_of_getElem? (i := 1593) (by decide +kernel)) (by decide +kernel)), (TBg_mem (List.mem_of_getElem? (i := 1594) (by decide +kernel)) (by decide +kernel))⟩
theorem kX12_oneTick : yOK mX12_oneTick 0 := ⟨(TBg_mem (List.mem_of_getElem? (i := 1599) (by decide +kernel)) (by decide +kernel)), (TBg_mem (List.mem_of_getElem? (i := 82) (by decide +kernel)) (by decide +kernel)), ⟨by decide +kernel, by decide +kernel, by decide +kernel⟩, by decide⟩
theorem vX12_oneTick : vMeth mX12_oneTick := ⟨(TBg_mem (List.mem_of_getElem? (i := 1598) (by decide +kernel)) (by decide +kernel)), (TBg_mem (List.mem_of_getElem? (i := 65) (by decide +kernel)) (by decide +kernel))⟩
theorem kX12_leftIn : yOK mX12_leftIn 1 := ⟨(TBg_mem (List.mem_of_getElem? (i := 1603) (by decide +kernel)) (by decide +kernel)), (TBg_mem (List.mem_of_getElem? (i := 82) (by decide +kernel)) (by decide +kernel)), ⟨by decide +kernel, by decide +kernel, by decide +kernel⟩, by decide⟩
theorem vX12_leftIn : vMeth mX12_leftIn := ⟨(TBg_mem (List.mem_of_getElem? (i := 1602) (by decide +kernel)) (by decide +kernel)), (TBg_mem (List.mem_of_getElem? (i := 66) (by decide +kernel)) (by decide +kernel))⟩
theorem kX12_passes : yOK mX12_passes 3 := ⟨(TBg_mem (List.mem_of_getElem? (i := 1607) (by decide +kernel)) (by decide +kernel)), (TBg_mem (List.mem_of_getElem? (i := 82) (by decide +kernel)) (by decide +kernel)), ⟨by decide +kernel, by decide +kernel, by decide +kernel⟩, by decide⟩
theorem vX12_passes : vMeth mX12_passes := ⟨(TBg_mem (List.mem_of_getElem? (i := 1606) (by decide +kernel)) (by decide +kernel)), (TBg_mem (List.mem_of_getElem? (i := 67) (by decide +kernel)) (by decide +kernel))⟩
theorem kX12_about : yOK mX12_about 2 := ⟨(TBg_mem (List.mem_of_getElem? (i := 1611) (by decide +kernel)) (by decide +kernel)), (TBg_mem (List.mem_of_getElem? (i := 82) (by decide +kernel)) (by decide +kernel)), ⟨by decide +kernel, by decide +kernel, by decide +kernel⟩, by decide⟩
theorem vX12_about : vMeth mX12_about := ⟨(TBg_mem (List.mem_of_getElem? (i := 1609) (by decide +kernel)) (by decide +kernel)), (TBg_mem (List.mem_of_getElem? (i := 1610) (by decide +kernel)) (by decide +kernel))⟩
theorem kX12_sheet : yOK mX12_sheet 3 := ⟨(TBg_mem (List.mem_of_getElem? (i := 1615) (by decide +kernel)) (by decide +kernel)), (TBg_mem (List.mem_of_getElem? (i := 82) (by decide +kernel)) (by decide +kernel)), ⟨by decide +kernel, by decide +kernel, by decide +kernel⟩, by decide⟩
theorem vX12_sheet : vMeth mX12_sheet := ⟨(TBg_mem (List.mem_of_getElem? (i := 1613) (by decide +kernel)) (by decide +kernel)), (TBg_mem (List.mem_of_getElem? (i := 1614) (by decide +kernel)) (by decide +kernel))⟩
theorem kX12_isSheet : yOK mX12_isSheet 1 := ⟨(TBg_mem (List.mem_of_getElem? (i := 1618) (by decide +kernel)) (by decide +kernel)), (TBg_mem (List.mem_of_getElem? (i := 82) (by decide +kernel)) (by decide +kernel)), ⟨by decide +kernel, by decide +kernel, by decide +kernel⟩, by decide⟩
theorem vX12_isSheet : sMeth mX12_isSheet := (TBg_mem (List.mem_of_getElem? (i := 1617) (by decide +kernel)) (by decide +kernel))
theorem kX12_write : yOK mX12_write 3 := ⟨(TBg_mem (List.mem_of_getElem? (i := 1623) (by decide +kernel)) (by decide +kernel)), (TBg_mem (List.mem_of_getElem? (i := 82) (by decide +kernel)) (by decide +kernel)), ⟨by decide +kernel, by decide +kernel, by decide +kernel⟩, by decide⟩
theorem vX12_write : vMeth mX12_write := ⟨(TBg_mem (List.mem_of_getElem? (i := 1621) (by decide +kernel)) (by decide +kernel)), (TBg_mem (List.mem_of_getElem? (i := 1622) (by decide +kernel)) (by decide +kernel))⟩
theorem kX12_copy : yOK mX12_copy 5 := ⟨(TBg_mem (List.mem_of_getElem? (i := 1628) (by decide +kernel)) (by decide +kernel)), (TBg_mem (List.mem_of_getElem? (i := 82) (by decide +kernel)) (by decide +kernel)), ⟨by decide +kernel, by decide +kernel, by decide +kernel⟩, by decide⟩
theorem vX12_copy : vMeth mX12_copy := ⟨(TBg_mem (List.mem_of_getElem? (i := 1626) (by decide +kernel)) (by decide +kernel)), (TBg_mem (List.mem_of_getElem? (i := 1627) (by decide +kernel)) (by decide +kernel))⟩
theorem kX12_read : yOK mX12_read 1 := ⟨(TBg_mem (List.mem_of_getElem? (i := 1632) (by decide +kernel)) (by decide +kernel)), (TBg_mem (List.mem_of_getElem? (i := 82) (by decide +kernel)) (by decide +kernel)), ⟨by decide +kernel, by decide +kernel, by decide +kernel⟩, by decide⟩
theorem vX12_read : vMeth mX12_read := ⟨(TBg_mem (List.mem_of_getElem? (i := 1630) (by decide +kernel)) (by decide +kernel)), (TBg_mem (List.mem_of_getElem? (i := 1631) (by decide +kernel)) (by decide +kernel))⟩
theorem kX12_told : yOK mX12_told 1 := ⟨(TBg_mem (List.mem_of_getElem? (i := 1636) (by decide +kernel)) (by decide +kernel)), (TBg_mem (List.mem_of_getElem? (i := 82) (by decide +kernel)) (by decide +kernel)), ⟨by decide +kernel, by decide +kernel, by decide +kernel⟩, by decide⟩
theorem vX12_told : vMeth mX12_told := ⟨(TBg_mem (List.mem_of_getElem? (i := 1634) (by decide +kernel)) (by decide +kernel)), (TBg_mem (List.mem_of_getElem? (i := 1635) (by decide +kernel)) (by decide +kernel))⟩
theorem kX12_countIn : yOK mX12_countIn 0 := ⟨(TBg_mem (List.mem_of_getElem? (i := 1640) (by decide +kernel)) (by decide +kernel)), (TBg_mem (List.mem_of_getElem? (i := 82) (by decide +kernel)) (by decide +kernel)), ⟨by decide +kernel, by decide +kernel, by decide +kernel⟩, by decide⟩
theorem vX12_countIn : vMeth mX12_countIn := ⟨(TBg_mem (List.mem_of_getElem? (i := 1639) (by decide +kernel)) (by decide +kernel)), (TBg_mem (List.mem_of_getElem? (i := 68) (by decide +kernel)) (by decide +kernel))⟩
theorem clL_7 : cLk RL 7 11 := ⟨_, rfl, (TBg_mem (List.mem_of_getElem? (i := 86) (by decide +kernel)) (by decide +kernel)), (TBg_mem (List.mem_of_getElem? (i := 87) (by decide +kernel)) (by decide +kernel)), (TBg_mem (List.mem_of_getElem? (i := 70) (by decide +kernel)) (by decide +kernel))⟩
theorem caL_7 : Cond.classLink RL 7 "SliceSeller" ∈ TBg := (TBg_mem (List.mem_of_getElem? (i := 86) (by decide +kernel)) (by decide +kernel))
theorem lL_9 : mLk RL 9 yX11_init := Or.inl (TBg_mem (List.mem_of_getElem? (i := 88) (by decide +kernel)) (by decide +kernel))
theorem oiX11_3 : Cond.methodLink RX11 3 Lib.objectInit ∈ TBg := (TBg_mem (List.mem_of_getElem? (i := 91) (by decide +kernel)) (by decide +kernel))
theorem clX11_9 : cLk RX11 9 5 := ⟨_, rfl, (TBg_mem (List.mem_of_getElem? (i := 94) (by decide +kernel)) (by decide +kernel)), (TBg_mem (List.mem_of_getElem? (i := 95) (by decide +kernel)) (by decide +kernel)), (TBg_mem (List.mem_of_getElem? (i := 71) (by decide +kernel)) (by decide +kernel))⟩
theorem caX11_9 : Cond.classLink RX11 9 "SliceSeller$Net" ∈ TBg := (TBg_mem (List.mem_of_getElem? (i := 94) (by decide +kernel)) (by decide +kernel))
theorem lX11_11 : mLk RX11 11 yX5_init := Or.inl (TBg_mem (List.mem_of_getElem? (i := 96) (by decide +kernel)) (by decide +kernel))
theorem oiX5_3 : Cond.methodLink RX5 3 Lib.objectInit ∈ TBg := (TBg_mem (List.mem_of_getElem? (i := 99) (by decide +kernel)) (by decide +kernel))
theorem clX5_15 : cLk RX5 15 4 := ⟨_, rfl, (TBg_mem (List.mem_of_getElem? (i := 100) (by decide +kernel)) (by decide +kernel)), (TBg_mem (List.mem_of_getElem? (i := 127) (by decide +kernel)) (by decide +kernel)), (TBg_mem (List.mem_of_getElem? (i := 73) (by decide +kernel)) (by decide +kernel))⟩
theorem caX5_15 : Cond.classLink RX5 15 "SliceSeller$Line" ∈ TBg := (TBg_mem (List.mem_of_getElem? (i := 100) (by decide +kernel)) (by decide +kernel))
theorem aoX4 : Cond.arrayOver (.object "SliceSeller$Line") ∈ lw_tbl := (List.mem_of_getElem? (i := 101) (by decide +kernel))
theorem clX5_21 : cLk RX5 21 10 := ⟨_, rfl, (TBg_mem (List.mem_of_getElem? (i := 102) (by decide +kernel)) (by decide +kernel)), (TBg_mem (List.mem_of_getElem? (i := 103) (by decide +kernel)) (by decide +kernel)), (TBg_mem (List.mem_of_getElem? (i := 72) (by decide +kernel)) (by decide +kernel))⟩
theorem caX5_21 : Cond.classLink RX5 21 "SliceSeller$Ways" ∈ TBg := (TBg_mem (List.mem_of_getElem? (i := 102) (by decide +kernel)) (by decide +kernel))
theorem lX5_23 : mLk RX5 23 yX10_init := Or.inr ⟨"SliceSeller", (List.mem_of_getElem? (i := 104) (by decide +kernel))⟩
theorem oiX10_5 : Cond.methodLink RX10 5 Lib.objectInit ∈ TBg := (TBg_mem (List.mem_of_getElem? (i := 107) (by decide +kernel)) (by decide +kernel))
theorem fX10_11 : fLk RX10 11 10 0 true (.array .int) := ⟨_, rfl, by decide, (TBg_mem (List.mem_of_getElem? (i := 108) (by decide +kernel)) (by decide +kernel)), rfl, by decide +kernel⟩
theorem fX10_15 : fLk RX10 15 10 1 false .int := ⟨_, rfl, by decide, (TBg_mem (List.mem_of_getElem? (i := 109) (by decide +kernel)) (by decide +kernel)), rfl, by decide +kernel⟩
theorem fX10_19 : fLk RX10 19 10 2 false .int := ⟨_, rfl, by decide, (TBg_mem (List.mem_of_getElem? (i := 110) (by decide +kernel)) (by decide +kernel)), rfl, by decide +kernel⟩
theorem fX10_22 : fLk RX10 22 10 3 false .int := ⟨_, rfl, by decide, (TBg_mem (List.mem_of_getElem? (i := 111) (by decide +kernel)) (by decide +kernel)), rfl, by decide +kernel⟩
theorem fX11_100 : fLk RX11 100 10 4 false .int := ⟨_, rfl, by decide, (TBg_mem (List.mem_of_getElem? (i := 112) (by decide +kernel)) (by decide +kernel)), rfl, by decide +kernel⟩
theorem fX6_57 : fLk RX6 57 10 4 false .int := ⟨_, rfl, by decide, (TBg_mem (List.mem_of_getElem? (i := 113) (by decide +kernel)) (by decide +kernel)), rfl, by decide +kernel⟩
theorem fX10_36 : fLk RX10 36 10 4 false .int := ⟨_, rfl, by decide, (TBg_mem (List.mem_of_getElem? (i := 114) (by decide +kernel)) (by decide +kernel)), rfl, by decide +kernel⟩
theorem arc_int : Cond.arrayClass .int ∈ TBg := (TBg_mem (List.mem_of_getElem? (i := 126) (by decide +kernel)) (by decide +kernel))
theorem lX5_28 : mLk RX5 28 yX4_init := Or.inr ⟨"SliceSeller", (List.mem_of_getElem? (i := 128) (by decide +kernel))⟩
theorem oiX4_1 : Cond.methodLink RX4 1 Lib.objectInit ∈ TBg := (TBg_mem (List.mem_of_getElem? (i := 131) (by decide +kernel)) (by decide +kernel))
theorem fX4_7 : fLk RX4 7 4 0 false .int := ⟨_, rfl, by decide, (TBg_mem (List.mem_of_getElem? (i := 132) (by decide +kernel)) (by decide +kernel)), rfl, by decide +kernel⟩
theorem fX1_53 : fLk RX1 53 4 0 false .int := ⟨_, rfl, by decide, (TBg_mem (List.mem_of_getElem? (i := 133) (by decide +kernel)) (by decide +kernel)), rfl, by decide +kernel⟩
theorem fX5_40 : fLk RX5 40 4 0 false .int := ⟨_, rfl, by decide, (TBg_mem (List.mem_of_getElem? (i := 134) (by decide +kernel)) (by decide +kernel)), rfl, by decide +kernel⟩
theorem fX4_13 : fLk RX4 13 4 1 false .int := ⟨_, rfl, by decide, (TBg_mem (List.mem_of_getElem? (i := 135) (by decide +kernel)) (by decide +kernel)), rfl, by decide +kernel⟩
theorem fX1_58 : fLk RX1 58 4 1 false .int := ⟨_, rfl, by decide, (TBg_mem (List.mem_of_getElem? (i := 136) (by decide +kernel)) (by decide +kernel)), rfl, by decide +kernel⟩
theorem fX5_43 : fLk RX5 43 4 1 false .int := ⟨_, rfl, by decide, (TBg_mem (List.mem_of_getElem? (i := 137) (by decide +kernel)) (by decide +kernel)), rfl, by decide +kernel⟩
theorem fX4_16 : fLk RX4 16 4 2 false .int := ⟨_, rfl, by decide, (TBg_mem (List.mem_of_getElem? (i := 138) (by decide +kernel)) (by decide +kernel)), rfl, by decide +kernel⟩
theorem fX0_34 : fLk RX0 34 4 2 false .int := ⟨_, rfl, by decide, (TBg_mem (List.mem_of_getElem? (i := 139) (by decide +kernel)) (by decide +kernel)), rfl, by decide +kernel⟩
theorem fX5_46 : fLk RX5 46 4 2 false .int := ⟨_, rfl, by decide, (TBg_mem (List.mem_of_getElem? (i := 140) (by decide +kernel)) (by decide +kernel)), rfl, by decide +kernel⟩
theorem fX4_31 : fLk RX4 31 4 3 false .int := ⟨_, rfl, by decide, (TBg_mem (List.mem_of_getElem? (i := 141) (by decide +kernel)) (by decide +kernel)), rfl, by decide +kernel⟩
theorem fX5_49 : fLk RX5 49 4 3 false .int := ⟨_, rfl, by decide, (TBg_mem (List.mem_of_getElem? (i := 142) (by decide +kernel)) (by decide +kernel)), rfl, by decide +kernel⟩
theorem fX10_60 : fLk RX10 60 4 3 false .int := ⟨_, rfl, by decide, (TBg_mem (List.mem_of_getElem? (i := 143) (by decide +kernel)) (by decide +kernel)), rfl, by decide +kernel⟩
theorem fX4_28 : fLk RX4 28 4 4 false .int := ⟨_, rfl, by decide, (TBg_mem (List.mem_of_getElem? (i := 144) (by decide +kernel)) (by decide +kernel)), rfl, by decide +kernel⟩
theorem fX5_52 : fLk RX5 52 4 4 false .int := ⟨_, rfl, by decide, (TBg_mem (List.mem_of_getElem? (i := 145) (by decide +kernel)) (by decide +kernel)), rfl, by decide +kernel⟩
theorem fX2_123 : fLk RX2 123 4 4 false .int := ⟨_, rfl, by decide, (TBg_mem (List.mem_of_getElem? (i := 146) (by decide +kernel)) (by decide +kernel)), rfl, by decide +kernel⟩
theorem fX4_22 : fLk RX4 22 4 5 false .int := ⟨_, rfl, by decide, (TBg_mem (List.mem_of_getElem? (i := 147) (by decide +kernel)) (by decide +kernel)), rfl, by decide +kernel⟩
theorem fX4_19 : fLk RX4 19 4 6 false .int := ⟨_, rfl, by decide, (TBg_mem (List.mem_of_getElem? (i := 148) (by decide +kernel)) (by decide +kernel)), rfl, by decide +kernel⟩
theorem fX2_44 : fLk RX2 44 4 6 false .int := ⟨_, rfl, by decide, (TBg_mem (List.mem_of_getElem? (i := 149) (by decide +kernel)) (by decide +kernel)), rfl, by decide +kernel⟩
theorem fX4_25 : fLk RX4 25 4 7 false .int := ⟨_, rfl, by decide, (TBg_mem (List.mem_of_getElem? (i := 150) (by decide +kernel)) (by decide +kernel)), rfl, by decide +kernel⟩
theorem fX5_9 : fLk RX5 9 5 0 true (.array .int) := ⟨_, rfl, by decide, (TBg_mem (List.mem_of_getElem? (i := 168) (by decide +kernel)) (by decide +kernel)), rfl, by decide +kernel⟩
theorem fX5_17 : fLk RX5 17 5 1 true (.array (.object "SliceSeller$Line")) := ⟨_, rfl, by decide, (TBg_mem (List.mem_of_getElem? (i := 169) (by decide +kernel)) (by decide +kernel)), rfl, by decide +kernel⟩
theorem fX5_24 : fLk RX5 24 5 2 true (.object "SliceSeller$Ways") := ⟨_, rfl, by decide, (TBg_mem (List.mem_of_getElem? (i := 170) (by decide +kernel)) (by decide +kernel)), rfl, by decide +kernel⟩
theorem fX5_29 : fLk RX5 29 5 3 false .int := ⟨_, rfl, by decide, (TBg_mem (List.mem_of_getElem? (i := 171) (by decide +kernel)) (by decide +kernel)), rfl, by decide +kernel⟩
theorem fX11_69 : fLk RX11 69 5 3 false .int := ⟨_, rfl, by decide, (TBg_mem (List.mem_of_getElem? (i := 172) (by decide +kernel)) (by decide +kernel)), rfl, by decide +kernel⟩
theorem fX1_34 : fLk RX1 34 5 3 false .int := ⟨_, rfl, by decide, (TBg_mem (List.mem_of_getElem? (i := 173) (by decide +kernel)) (by decide +kernel)), rfl, by decide +kernel⟩
theorem fX6_86 : fLk RX6 86 5 3 false .int := ⟨_, rfl, by decide, (TBg_mem (List.mem_of_getElem? (i := 174) (by decide +kernel)) (by decide +kernel)), rfl, by decide +kernel⟩
theorem fX1_15 : fLk RX1 15 5 4 false .int := ⟨_, rfl, by decide, (TBg_mem (List.mem_of_getElem? (i := 175) (by decide +kernel)) (by decide +kernel)), rfl, by decide +kernel⟩
theorem fX5_33 : fLk RX5 33 5 4 false .int := ⟨_, rfl, by decide, (TBg_mem (List.mem_of_getElem? (i := 176) (by decide +kernel)) (by decide +kernel)), rfl, by decide +kernel⟩
theorem fX2_35 : fLk RX2 35 5 4 false .int := ⟨_, rfl, by decide, (TBg_mem (List.mem_of_getElem? (i := 177) (by decide +kernel)) (by decide +kernel)), rfl, by decide +kernel⟩
theorem fX11_81 : fLk RX11 81 5 4 false .int := ⟨_, rfl, by decide, (TBg_mem (List.mem_of_getElem? (i := 178) (by decide +kernel)) (by decide +kernel)), rfl, by decide +kernel⟩
theorem fX6_22 : fLk RX6 22 5 4 false .int := ⟨_, rfl, by decide, (TBg_mem (List.mem_of_getElem? (i := 179) (by decide +kernel)) (by decide +kernel)), rfl, by decide +kernel⟩
theorem fX10_31 : fLk RX10 31 5 4 false .int := ⟨_, rfl, by decide, (TBg_mem (List.mem_of_getElem? (i := 180) (by decide +kernel)) (by decide +kernel)), rfl, by decide +kernel⟩
theorem fX0_79 : fLk RX0 79 5 4 false .int := ⟨_, rfl, by decide, (TBg_mem (List.mem_of_getElem? (i := 181) (by decide +kernel)) (by decide +kernel)), rfl, by decide +kernel⟩
theorem fX2_111 : fLk RX2 111 5 5 false .int := ⟨_, rfl, by decide, (TBg_mem (List.mem_of_getElem? (i := 182) (by decide +kernel)) (by decide +kernel)), rfl, by decide +kernel⟩
theorem fX5_55 : fLk RX5 55 5 5 false .int := ⟨_, rfl, by decide, (TBg_mem (List.mem_of_getElem? (i := 183) (by decide +kernel)) (by decide +kernel)), rfl, by decide +kernel⟩
theorem fX11_255 : fLk RX11 255 5 5 false .int := ⟨_, rfl, by decide, (TBg_mem (List.mem_of_getElem? (i := 184) (by decide +kernel)) (by decide +kernel)), rfl, by decide +kernel⟩
theorem clX11_12 : cLk RX11 12 9 := ⟨_, rfl, (TBg_mem (List.mem_of_getElem? (i := 198) (by decide +kernel)) (by decide +kernel)), (TBg_mem (List.mem_of_getElem? (i := 199) (by decide +kernel)) (by decide +kernel)), (TBg_mem (List.mem_of_getElem? (i := 74) (by decide +kernel)) (by decide +kernel))⟩
theorem caX11_12 : Cond.classLink RX11 12 "SliceSeller$Slices" ∈ TBg := (TBg_mem (List.mem_of_getElem? (i := 198) (by decide +kernel)) (by decide +kernel))
theorem lX11_14 : mLk RX11 14 yX9_init := Or.inl (TBg_mem (List.mem_of_getElem? (i := 200) (by decide +kernel)) (by decide +kernel))
theorem oiX9_3 : Cond.methodLink RX9 3 Lib.objectInit ∈ TBg := (TBg_mem (List.mem_of_getElem? (i := 203) (by decide +kernel)) (by decide +kernel))
theorem clX9_9 : cLk RX9 9 8 := ⟨_, rfl, (TBg_mem (List.mem_of_getElem? (i := 204) (by decide +kernel)) (by decide +kernel)), (TBg_mem (List.mem_of_getElem? (i := 206) (by decide +kernel)) (by decide +kernel)), (TBg_mem (List.mem_of_getElem? (i := 75) (by decide +kernel)) (by decide +kernel))⟩
theorem caX9_9 : Cond.classLink RX9 9 "SliceSeller$Slice" ∈ TBg := (TBg_mem (List.mem_of_getElem? (i := 204) (by decide +kernel)) (by decide +kernel))
theorem aoX8 : Cond.arrayOver (.object "SliceSeller$Slice") ∈ lw_tbl := (List.mem_of_getElem? (i := 205) (by decide +kernel))
theorem lX9_17 : mLk RX9 17 yX8_init := Or.inr ⟨"SliceSeller", (List.mem_of_getElem? (i := 207) (by decide +kernel))⟩
theorem oiX8_3 : Cond.methodLink RX8 3 Lib.objectInit ∈ TBg := (TBg_mem (List.mem_of_getElem? (i := 210) (by decide +kernel)) (by decide +kernel))
theorem clX8_9 : cLk RX8 9 6 := ⟨_, rfl, (TBg_mem (List.mem_of_getElem? (i := 211) (by decide +kernel)) (by decide +kernel)), (TBg_mem (List.mem_of_getElem? (i := 212) (by decide +kernel)) (by decide +kernel)), (TBg_mem (List.mem_of_getElem? (i := 76) (by decide +kernel)) (by decide +kernel))⟩
theorem caX8_9 : Cond.classLink RX8 9 "SliceSeller$Places" ∈ TBg := (TBg_mem (List.mem_of_getElem? (i := 211) (by decide +kernel)) (by decide +kernel))
theorem lX8_11 : mLk RX8 11 yX6_init := Or.inr ⟨"SliceSeller", (List.mem_of_getElem? (i := 213) (by decide +kernel))⟩
theorem oiX6_3 : Cond.methodLink RX6 3 Lib.objectInit ∈ TBg := (TBg_mem (List.mem_of_getElem? (i := 216) (by decide +kernel)) (by decide +kernel))
theorem fX6_9 : fLk RX6 9 6 0 false (.array .int) := ⟨_, rfl, by decide, (TBg_mem (List.mem_of_getElem? (i := 217) (by decide +kernel)) (by decide +kernel)), rfl, by decide +kernel⟩
theorem fX6_15 : fLk RX6 15 6 1 false (.array .int) := ⟨_, rfl, by decide, (TBg_mem (List.mem_of_getElem? (i := 218) (by decide +kernel)) (by decide +kernel)), rfl, by decide +kernel⟩
theorem fX6_18 : fLk RX6 18 6 2 false .int := ⟨_, rfl, by decide, (TBg_mem (List.mem_of_getElem? (i := 219) (by decide +kernel)) (by decide +kernel)), rfl, by decide +kernel⟩
theorem fX6_43 : fLk RX6 43 6 3 false .int := ⟨_, rfl, by decide, (TBg_mem (List.mem_of_getElem? (i := 220) (by decide +kernel)) (by decide +kernel)), rfl, by decide +kernel⟩
theorem fX11_174 : fLk RX11 174 6 3 false .int := ⟨_, rfl, by decide, (TBg_mem (List.mem_of_getElem? (i := 221) (by decide +kernel)) (by decide +kernel)), rfl, by decide +kernel⟩
theorem fX6_46 : fLk RX6 46 6 4 false .int := ⟨_, rfl, by decide, (TBg_mem (List.mem_of_getElem? (i := 222) (by decide +kernel)) (by decide +kernel)), rfl, by decide +kernel⟩
theorem fX3_126 : fLk RX3 126 6 4 false .int := ⟨_, rfl, by decide, (TBg_mem (List.mem_of_getElem? (i := 223) (by decide +kernel)) (by decide +kernel)), rfl, by decide +kernel⟩
theorem fX11_204 : fLk RX11 204 6 4 false .int := ⟨_, rfl, by decide, (TBg_mem (List.mem_of_getElem? (i := 224) (by decide +kernel)) (by decide +kernel)), rfl, by decide +kernel⟩
theorem fX8_40 : fLk RX8 40 8 0 false .int := ⟨_, rfl, by decide, (TBg_mem (List.mem_of_getElem? (i := 236) (by decide +kernel)) (by decide +kernel)), rfl, by decide +kernel⟩
theorem fX9_22 : fLk RX9 22 8 0 false .int := ⟨_, rfl, by decide, (TBg_mem (List.mem_of_getElem? (i := 237) (by decide +kernel)) (by decide +kernel)), rfl, by decide +kernel⟩
theorem fX6_27 : fLk RX6 27 8 1 false .int := ⟨_, rfl, by decide, (TBg_mem (List.mem_of_getElem? (i := 238) (by decide +kernel)) (by decide +kernel)), rfl, by decide +kernel⟩
theorem fX9_25 : fLk RX9 25 8 1 false .int := ⟨_, rfl, by decide, (TBg_mem (List.mem_of_getElem? (i := 239) (by decide +kernel)) (by decide +kernel)), rfl, by decide +kernel⟩
theorem fX8_64 : fLk RX8 64 8 1 false .int := ⟨_, rfl, by decide, (TBg_mem (List.mem_of_getElem? (i := 240) (by decide +kernel)) (by decide +kernel)), rfl, by decide +kernel⟩
theorem fX11_215 : fLk RX11 215 8 1 false .int := ⟨_, rfl, by decide, (TBg_mem (List.mem_of_getElem? (i := 241) (by decide +kernel)) (by decide +kernel)), rfl, by decide +kernel⟩
theorem fX6_32 : fLk RX6 32 8 2 false .int := ⟨_, rfl, by decide, (TBg_mem (List.mem_of_getElem? (i := 242) (by decide +kernel)) (by decide +kernel)), rfl, by decide +kernel⟩
theorem fX9_28 : fLk RX9 28 8 2 false .int := ⟨_, rfl, by decide, (TBg_mem (List.mem_of_getElem? (i := 243) (by decide +kernel)) (by decide +kernel)), rfl, by decide +kernel⟩
theorem fX8_67 : fLk RX8 67 8 2 false .int := ⟨_, rfl, by decide, (TBg_mem (List.mem_of_getElem? (i := 244) (by decide +kernel)) (by decide +kernel)), rfl, by decide +kernel⟩
theorem fX9_31 : fLk RX9 31 8 3 false .int := ⟨_, rfl, by decide, (TBg_mem (List.mem_of_getElem? (i := 245) (by decide +kernel)) (by decide +kernel)), rfl, by decide +kernel⟩
theorem fX2_97 : fLk RX2 97 8 3 false .int := ⟨_, rfl, by decide, (TBg_mem (List.mem_of_getElem? (i := 246) (by decide +kernel)) (by decide +kernel)), rfl, by decide +kernel⟩
theorem fX8_54 : fLk RX8 54 8 3 false .int := ⟨_, rfl, by decide, (TBg_mem (List.mem_of_getElem? (i := 247) (by decide +kernel)) (by decide +kernel)), rfl, by decide +kernel⟩
theorem fX11_143 : fLk RX11 143 8 3 false .int := ⟨_, rfl, by decide, (TBg_mem (List.mem_of_getElem? (i := 248) (by decide +kernel)) (by decide +kernel)), rfl, by decide +kernel⟩
theorem fX9_34 : fLk RX9 34 8 4 false .int := ⟨_, rfl, by decide, (TBg_mem (List.mem_of_getElem? (i := 249) (by decide +kernel)) (by decide +kernel)), rfl, by decide +kernel⟩
theorem fX6_66 : fLk RX6 66 8 4 false .int := ⟨_, rfl, by decide, (TBg_mem (List.mem_of_getElem? (i := 250) (by decide +kernel)) (by decide +kernel)), rfl, by decide +kernel⟩
theorem fX8_70 : fLk RX8 70 8 4 false .int := ⟨_, rfl, by decide, (TBg_mem (List.mem_of_getElem? (i := 251) (by decide +kernel)) (by decide +kernel)), rfl, by decide +kernel⟩
theorem fX8_18 : fLk RX8 18 8 5 false .int := ⟨_, rfl, by decide, (TBg_mem (List.mem_of_getElem? (i := 252) (by decide +kernel)) (by decide +kernel)), rfl, by decide +kernel⟩
theorem fX8_22 : fLk RX8 22 8 6 false .int := ⟨_, rfl, by decide, (TBg_mem (List.mem_of_getElem? (i := 253) (by decide +kernel)) (by decide +kernel)), rfl, by decide +kernel⟩
theorem fX0_67 : fLk RX0 67 8 6 false .int := ⟨_, rfl, by decide, (TBg_mem (List.mem_of_getElem? (i := 254) (by decide +kernel)) (by decide +kernel)), rfl, by decide +kernel⟩
theorem fX8_25 : fLk RX8 25 8 7 false .int := ⟨_, rfl, by decide, (TBg_mem (List.mem_of_getElem? (i := 255) (by decide +kernel)) (by decide +kernel)), rfl, by decide +kernel⟩
theorem fX3_144 : fLk RX3 144 8 7 false .int := ⟨_, rfl, by decide, (TBg_mem (List.mem_of_getElem? (i := 256) (by decide +kernel)) (by decide +kernel)), rfl, by decide +kernel⟩
theorem fX8_28 : fLk RX8 28 8 8 false .int := ⟨_, rfl, by decide, (TBg_mem (List.mem_of_getElem? (i := 257) (by decide +kernel)) (by decide +kernel)), rfl, by decide +kernel⟩
theorem fX8_31 : fLk RX8 31 8 9 false .int := ⟨_, rfl, by decide, (TBg_mem (List.mem_of_getElem? (i := 258) (by decide +kernel)) (by decide +kernel)), rfl, by decide +kernel⟩
theorem fX8_34 : fLk RX8 34 8 10 false .int := ⟨_, rfl, by decide, (TBg_mem (List.mem_of_getElem? (i := 259) (by decide +kernel)) (by decide +kernel)), rfl, by decide +kernel⟩
theorem fX8_37 : fLk RX8 37 8 11 false .int := ⟨_, rfl, by decide, (TBg_mem (List.mem_of_getElem? (i := 260) (by decide +kernel)) (by decide +kernel)), rfl, by decide +kernel⟩
theorem fX2_104 : fLk RX2 104 8 11 false .int := ⟨_, rfl, by decide, (TBg_mem (List.mem_of_getElem? (i := 261) (by decide +kernel)) (by decide +kernel)), rfl, by decide +kernel⟩
theorem fX3_115 : fLk RX3 115 8 11 false .int := ⟨_, rfl, by decide, (TBg_mem (List.mem_of_getElem? (i := 262) (by decide +kernel)) (by decide +kernel)), rfl, by decide +kernel⟩
theorem fX11_186 : fLk RX11 186 8 11 false .int := ⟨_, rfl, by decide, (TBg_mem (List.mem_of_getElem? (i := 263) (by decide +kernel)) (by decide +kernel)), rfl, by decide +kernel⟩
theorem fX8_47 : fLk RX8 47 8 12 false .int := ⟨_, rfl, by decide, (TBg_mem (List.mem_of_getElem? (i := 264) (by decide +kernel)) (by decide +kernel)), rfl, by decide +kernel⟩
theorem fX11_218 : fLk RX11 218 8 12 false .int := ⟨_, rfl, by decide, (TBg_mem (List.mem_of_getElem? (i := 265) (by decide +kernel)) (by decide +kernel)), rfl, by decide +kernel⟩
theorem fX2_65 : fLk RX2 65 8 13 false .int := ⟨_, rfl, by decide, (TBg_mem (List.mem_of_getElem? (i := 266) (by decide +kernel)) (by decide +kernel)), rfl, by decide +kernel⟩
theorem fX9_58 : fLk RX9 58 8 13 false .int := ⟨_, rfl, by decide, (TBg_mem (List.mem_of_getElem? (i := 267) (by decide +kernel)) (by decide +kernel)), rfl, by decide +kernel⟩
theorem fX8_77 : fLk RX8 77 8 13 false .int := ⟨_, rfl, by decide, (TBg_mem (List.mem_of_getElem? (i := 268) (by decide +kernel)) (by decide +kernel)), rfl, by decide +kernel⟩
theorem fX11_285 : fLk RX11 285 8 13 false .int := ⟨_, rfl, by decide, (TBg_mem (List.mem_of_getElem? (i := 269) (by decide +kernel)) (by decide +kernel)), rfl, by decide +kernel⟩
theorem fX8_80 : fLk RX8 80 8 14 false .int := ⟨_, rfl, by decide, (TBg_mem (List.mem_of_getElem? (i := 270) (by decide +kernel)) (by decide +kernel)), rfl, by decide +kernel⟩
theorem fX2_126 : fLk RX2 126 8 14 false .int := ⟨_, rfl, by decide, (TBg_mem (List.mem_of_getElem? (i := 271) (by decide +kernel)) (by decide +kernel)), rfl, by decide +kernel⟩
theorem fX2_90 : fLk RX2 90 8 15 false .int := ⟨_, rfl, by decide, (TBg_mem (List.mem_of_getElem? (i := 272) (by decide +kernel)) (by decide +kernel)), rfl, by decide +kernel⟩
theorem fX8_83 : fLk RX8 83 8 15 false .int := ⟨_, rfl, by decide, (TBg_mem (List.mem_of_getElem? (i := 273) (by decide +kernel)) (by decide +kernel)), rfl, by decide +kernel⟩
theorem fX8_86 : fLk RX8 86 8 16 false .int := ⟨_, rfl, by decide, (TBg_mem (List.mem_of_getElem? (i := 274) (by decide +kernel)) (by decide +kernel)), rfl, by decide +kernel⟩
theorem fX2_129 : fLk RX2 129 8 16 false .int := ⟨_, rfl, by decide, (TBg_mem (List.mem_of_getElem? (i := 275) (by decide +kernel)) (by decide +kernel)), rfl, by decide +kernel⟩
theorem fX2_58 : fLk RX2 58 8 17 false .int := ⟨_, rfl, by decide, (TBg_mem (List.mem_of_getElem? (i := 276) (by decide +kernel)) (by decide +kernel)), rfl, by decide +kernel⟩
theorem fX8_89 : fLk RX8 89 8 17 false .int := ⟨_, rfl, by decide, (TBg_mem (List.mem_of_getElem? (i := 277) (by decide +kernel)) (by decide +kernel)), rfl, by decide +kernel⟩
theorem fX8_12 : fLk RX8 12 8 18 true (.object "SliceSeller$Places") := ⟨_, rfl, by decide, (TBg_mem (List.mem_of_getElem? (i := 278) (by decide +kernel)) (by decide +kernel)), rfl, by decide +kernel⟩
theorem fX9_41 : fLk RX9 41 8 18 true (.object "SliceSeller$Places") := ⟨_, rfl, by decide, (TBg_mem (List.mem_of_getElem? (i := 279) (by decide +kernel)) (by decide +kernel)), rfl, by decide +kernel⟩
theorem fX3_122 : fLk RX3 122 8 18 true (.object "SliceSeller$Places") := ⟨_, rfl, by decide, (TBg_mem (List.mem_of_getElem? (i := 280) (by decide +kernel)) (by decide +kernel)), rfl, by decide +kernel⟩
theorem fX9_11 : fLk RX9 11 9 0 true (.array (.object "SliceSeller$Slice")) := ⟨_, rfl, by decide, (TBg_mem (List.mem_of_getElem? (i := 320) (by decide +kernel)) (by decide +kernel)), rfl, by decide +kernel⟩
theorem fX9_18 : fLk RX9 18 9 1 false .int := ⟨_, rfl, by decide, (TBg_mem (List.mem_of_getElem? (i := 321) (by decide +kernel)) (by decide +kernel)), rfl, by decide +kernel⟩
theorem fX3_56 : fLk RX3 56 9 1 false .int := ⟨_, rfl, by decide, (TBg_mem (List.mem_of_getElem? (i := 322) (by decide +kernel)) (by decide +kernel)), rfl, by decide +kernel⟩
theorem fX2_49 : fLk RX2 49 9 1 false .int := ⟨_, rfl, by decide, (TBg_mem (List.mem_of_getElem? (i := 323) (by decide +kernel)) (by decide +kernel)), rfl, by decide +kernel⟩
theorem fX11_132 : fLk RX11 132 9 1 false .int := ⟨_, rfl, by decide, (TBg_mem (List.mem_of_getElem? (i := 324) (by decide +kernel)) (by decide +kernel)), rfl, by decide +kernel⟩
theorem clX11_23 : cLk RX11 23 0 := ⟨_, rfl, (TBg_mem (List.mem_of_getElem? (i := 330) (by decide +kernel)) (by decide +kernel)), (TBg_mem (List.mem_of_getElem? (i := 331) (by decide +kernel)) (by decide +kernel)), (TBg_mem (List.mem_of_getElem? (i := 77) (by decide +kernel)) (by decide +kernel))⟩
theorem caX11_23 : Cond.classLink RX11 23 "SliceSeller$Book" ∈ TBg := (TBg_mem (List.mem_of_getElem? (i := 330) (by decide +kernel)) (by decide +kernel))
theorem lX11_25 : mLk RX11 25 yX0_init := Or.inr ⟨"SliceSeller", (List.mem_of_getElem? (i := 332) (by decide +kernel))⟩
theorem oiX0_3 : Cond.methodLink RX0 3 Lib.objectInit ∈ TBg := (TBg_mem (List.mem_of_getElem? (i := 335) (by decide +kernel)) (by decide +kernel))
theorem fX0_9 : fLk RX0 9 0 0 true (.array .int) := ⟨_, rfl, by decide, (TBg_mem (List.mem_of_getElem? (i := 336) (by decide +kernel)) (by decide +kernel)), rfl, by decide +kernel⟩
theorem fX0_15 : fLk RX0 15 0 1 true (.array .int) := ⟨_, rfl, by decide, (TBg_mem (List.mem_of_getElem? (i := 337) (by decide +kernel)) (by decide +kernel)), rfl, by decide +kernel⟩
theorem fX0_18 : fLk RX0 18 0 2 true (.array .int) := ⟨_, rfl, by decide, (TBg_mem (List.mem_of_getElem? (i := 338) (by decide +kernel)) (by decide +kernel)), rfl, by decide +kernel⟩
theorem fX0_21 : fLk RX0 21 0 3 true (.array .int) := ⟨_, rfl, by decide, (TBg_mem (List.mem_of_getElem? (i := 339) (by decide +kernel)) (by decide +kernel)), rfl, by decide +kernel⟩
theorem fX0_24 : fLk RX0 24 0 4 false .int := ⟨_, rfl, by decide, (TBg_mem (List.mem_of_getElem? (i := 340) (by decide +kernel)) (by decide +kernel)), rfl, by decide +kernel⟩
theorem fX3_98 : fLk RX3 98 0 4 false .int := ⟨_, rfl, by decide, (TBg_mem (List.mem_of_getElem? (i := 341) (by decide +kernel)) (by decide +kernel)), rfl, by decide +kernel⟩
theorem clX11_30 : cLk RX11 30 1 := ⟨_, rfl, (TBg_mem (List.mem_of_getElem? (i := 353) (by decide +kernel)) (by decide +kernel)), (TBg_mem (List.mem_of_getElem? (i := 354) (by decide +kernel)) (by decide +kernel)), (TBg_mem (List.mem_of_getElem? (i := 78) (by decide +kernel)) (by decide +kernel))⟩
theorem caX11_30 : Cond.classLink RX11 30 "SliceSeller$Cut" ∈ TBg := (TBg_mem (List.mem_of_getElem? (i := 353) (by decide +kernel)) (by decide +kernel))
theorem lX11_32 : mLk RX11 32 yX1_init := Or.inr ⟨"SliceSeller", (List.mem_of_getElem? (i := 355) (by decide +kernel))⟩
theorem oiX1_3 : Cond.methodLink RX1 3 Lib.objectInit ∈ TBg := (TBg_mem (List.mem_of_getElem? (i := 358) (by decide +kernel)) (by decide +kernel))
theorem fX1_9 : fLk RX1 9 1 0 true (.array .int) := ⟨_, rfl, by decide, (TBg_mem (List.mem_of_getElem? (i := 359) (by decide +kernel)) (by decide +kernel)), rfl, by decide +kernel⟩
theorem fX1_61 : fLk RX1 61 1 1 false .int := ⟨_, rfl, by decide, (TBg_mem (List.mem_of_getElem? (i := 360) (by decide +kernel)) (by decide +kernel)), rfl, by decide +kernel⟩
theorem fX11_123 : fLk RX11 123 1 1 false .int := ⟨_, rfl, by decide, (TBg_mem (List.mem_of_getElem? (i := 361) (by decide +kernel)) (by decide +kernel)), rfl, by decide +kernel⟩
theorem fX1_31 : fLk RX1 31 1 2 false .int := ⟨_, rfl, by decide, (TBg_mem (List.mem_of_getElem? (i := 362) (by decide +kernel)) (by decide +kernel)), rfl, by decide +kernel⟩
theorem fX11_126 : fLk RX11 126 1 2 false .int := ⟨_, rfl, by decide, (TBg_mem (List.mem_of_getElem? (i := 363) (by decide +kernel)) (by decide +kernel)), rfl, by decide +kernel⟩
theorem clX11_37 : cLk RX11 37 3 := ⟨_, rfl, (TBg_mem (List.mem_of_getElem? (i := 371) (by decide +kernel)) (by decide +kernel)), (TBg_mem (List.mem_of_getElem? (i := 372) (by decide +kernel)) (by decide +kernel)), (TBg_mem (List.mem_of_getElem? (i := 79) (by decide +kernel)) (by decide +kernel))⟩
theorem caX11_37 : Cond.classLink RX11 37 "SliceSeller$Layer" ∈ TBg := (TBg_mem (List.mem_of_getElem? (i := 371) (by decide +kernel)) (by decide +kernel))
theorem lX11_39 : mLk RX11 39 yX3_init := Or.inl (TBg_mem (List.mem_of_getElem? (i := 373) (by decide +kernel)) (by decide +kernel))
theorem oiX3_3 : Cond.methodLink RX3 3 Lib.objectInit ∈ TBg := (TBg_mem (List.mem_of_getElem? (i := 376) (by decide +kernel)) (by decide +kernel))
theorem clX3_9 : cLk RX3 9 0 := ⟨_, rfl, (TBg_mem (List.mem_of_getElem? (i := 377) (by decide +kernel)) (by decide +kernel)), (TBg_mem (List.mem_of_getElem? (i := 331) (by decide +kernel)) (by decide +kernel)), (TBg_mem (List.mem_of_getElem? (i := 77) (by decide +kernel)) (by decide +kernel))⟩
theorem caX3_9 : Cond.classLink RX3 9 "SliceSeller$Book" ∈ TBg := (TBg_mem (List.mem_of_getElem? (i := 377) (by decide +kernel)) (by decide +kernel))
theorem lX3_11 : mLk RX3 11 yX0_init := Or.inr ⟨"SliceSeller", (List.mem_of_getElem? (i := 378) (by decide +kernel))⟩
theorem fX3_40 : fLk RX3 40 3 0 true (.object "SliceSeller$Net") := ⟨_, rfl, by decide, (TBg_mem (List.mem_of_getElem? (i := 379) (by decide +kernel)) (by decide +kernel)), rfl, by decide +kernel⟩
theorem fX3_44 : fLk RX3 44 3 1 true (.object "SliceSeller$Slices") := ⟨_, rfl, by decide, (TBg_mem (List.mem_of_getElem? (i := 380) (by decide +kernel)) (by decide +kernel)), rfl, by decide +kernel⟩
theorem fX3_12 : fLk RX3 12 3 2 true (.object "SliceSeller$Book") := ⟨_, rfl, by decide, (TBg_mem (List.mem_of_getElem? (i := 381) (by decide +kernel)) (by decide +kernel)), rfl, by decide +kernel⟩
theorem fX3_18 : fLk RX3 18 3 3 true (.array .int) := ⟨_, rfl, by decide, (TBg_mem (List.mem_of_getElem? (i := 382) (by decide +kernel)) (by decide +kernel)), rfl, by decide +kernel⟩
theorem fX3_22 : fLk RX3 22 3 4 true (.array .int) := ⟨_, rfl, by decide, (TBg_mem (List.mem_of_getElem? (i := 383) (by decide +kernel)) (by decide +kernel)), rfl, by decide +kernel⟩
theorem fX3_25 : fLk RX3 25 3 5 true (.array .int) := ⟨_, rfl, by decide, (TBg_mem (List.mem_of_getElem? (i := 384) (by decide +kernel)) (by decide +kernel)), rfl, by decide +kernel⟩
theorem fX3_28 : fLk RX3 28 3 6 true (.array .int) := ⟨_, rfl, by decide, (TBg_mem (List.mem_of_getElem? (i := 385) (by decide +kernel)) (by decide +kernel)), rfl, by decide +kernel⟩
theorem fX3_31 : fLk RX3 31 3 7 true (.array .int) := ⟨_, rfl, by decide, (TBg_mem (List.mem_of_getElem? (i := 386) (by decide +kernel)) (by decide +kernel)), rfl, by decide +kernel⟩
theorem fX3_34 : fLk RX3 34 3 8 true (.array .int) := ⟨_, rfl, by decide, (TBg_mem (List.mem_of_getElem? (i := 387) (by decide +kernel)) (by decide +kernel)), rfl, by decide +kernel⟩
theorem fX3_37 : fLk RX3 37 3 9 true (.array .int) := ⟨_, rfl, by decide, (TBg_mem (List.mem_of_getElem? (i := 388) (by decide +kernel)) (by decide +kernel)), rfl, by decide +kernel⟩
theorem fX3_78 : fLk RX3 78 3 10 false .int := ⟨_, rfl, by decide, (TBg_mem (List.mem_of_getElem? (i := 389) (by decide +kernel)) (by decide +kernel)), rfl, by decide +kernel⟩
theorem fX3_48 : fLk RX3 48 3 11 false .int := ⟨_, rfl, by decide, (TBg_mem (List.mem_of_getElem? (i := 390) (by decide +kernel)) (by decide +kernel)), rfl, by decide +kernel⟩
theorem fX11_282 : fLk RX11 282 3 11 false .int := ⟨_, rfl, by decide, (TBg_mem (List.mem_of_getElem? (i := 391) (by decide +kernel)) (by decide +kernel)), rfl, by decide +kernel⟩
theorem fX3_52 : fLk RX3 52 3 12 false .boolean := ⟨_, rfl, by decide, (TBg_mem (List.mem_of_getElem? (i := 392) (by decide +kernel)) (by decide +kernel)), rfl, by decide +kernel⟩
theorem fX11_270 : fLk RX11 270 3 12 false .boolean := ⟨_, rfl, by decide, (TBg_mem (List.mem_of_getElem? (i := 393) (by decide +kernel)) (by decide +kernel)), rfl, by decide +kernel⟩
theorem clX11_46 : cLk RX11 46 2 := ⟨_, rfl, (TBg_mem (List.mem_of_getElem? (i := 421) (by decide +kernel)) (by decide +kernel)), (TBg_mem (List.mem_of_getElem? (i := 422) (by decide +kernel)) (by decide +kernel)), (TBg_mem (List.mem_of_getElem? (i := 80) (by decide +kernel)) (by decide +kernel))⟩
theorem caX11_46 : Cond.classLink RX11 46 "SliceSeller$Day" ∈ TBg := (TBg_mem (List.mem_of_getElem? (i := 421) (by decide +kernel)) (by decide +kernel))
theorem lX11_48 : mLk RX11 48 yX2_init := Or.inl (TBg_mem (List.mem_of_getElem? (i := 423) (by decide +kernel)) (by decide +kernel))
theorem oiX2_3 : Cond.methodLink RX2 3 Lib.objectInit ∈ TBg := (TBg_mem (List.mem_of_getElem? (i := 426) (by decide +kernel)) (by decide +kernel))
theorem fX2_15 : fLk RX2 15 2 0 true (.object "SliceSeller$Net") := ⟨_, rfl, by decide, (TBg_mem (List.mem_of_getElem? (i := 427) (by decide +kernel)) (by decide +kernel)), rfl, by decide +kernel⟩
theorem fX2_19 : fLk RX2 19 2 1 true (.object "SliceSeller$Slices") := ⟨_, rfl, by decide, (TBg_mem (List.mem_of_getElem? (i := 428) (by decide +kernel)) (by decide +kernel)), rfl, by decide +kernel⟩
theorem fX2_9 : fLk RX2 9 2 2 false .int := ⟨_, rfl, by decide, (TBg_mem (List.mem_of_getElem? (i := 429) (by decide +kernel)) (by decide +kernel)), rfl, by decide +kernel⟩
theorem fX2_32 : fLk RX2 32 2 3 false .int := ⟨_, rfl, by decide, (TBg_mem (List.mem_of_getElem? (i := 430) (by decide +kernel)) (by decide +kernel)), rfl, by decide +kernel⟩
theorem fX11_346 : fLk RX11 346 2 3 false .int := ⟨_, rfl, by decide, (TBg_mem (List.mem_of_getElem? (i := 431) (by decide +kernel)) (by decide +kernel)), rfl, by decide +kernel⟩
theorem fX2_132 : fLk RX2 132 2 4 false .int := ⟨_, rfl, by decide, (TBg_mem (List.mem_of_getElem? (i := 432) (by decide +kernel)) (by decide +kernel)), rfl, by decide +kernel⟩
theorem fX11_288 : fLk RX11 288 2 4 false .int := ⟨_, rfl, by decide, (TBg_mem (List.mem_of_getElem? (i := 433) (by decide +kernel)) (by decide +kernel)), rfl, by decide +kernel⟩
theorem fX2_133 : fLk RX2 133 2 5 false .int := ⟨_, rfl, by decide, (TBg_mem (List.mem_of_getElem? (i := 434) (by decide +kernel)) (by decide +kernel)), rfl, by decide +kernel⟩
theorem fX11_352 : fLk RX11 352 2 5 false .int := ⟨_, rfl, by decide, (TBg_mem (List.mem_of_getElem? (i := 435) (by decide +kernel)) (by decide +kernel)), rfl, by decide +kernel⟩
theorem clX11_53 : cLk RX11 53 7 := ⟨_, rfl, (TBg_mem (List.mem_of_getElem? (i := 449) (by decide +kernel)) (by decide +kernel)), (TBg_mem (List.mem_of_getElem? (i := 451) (by decide +kernel)) (by decide +kernel)), (TBg_mem (List.mem_of_getElem? (i := 81) (by decide +kernel)) (by decide +kernel))⟩
theorem caX11_53 : Cond.classLink RX11 53 "SliceSeller$Sheet" ∈ TBg := (TBg_mem (List.mem_of_getElem? (i := 449) (by decide +kernel)) (by decide +kernel))
theorem aoX7 : Cond.arrayOver (.object "SliceSeller$Sheet") ∈ lw_tbl := (List.mem_of_getElem? (i := 450) (by decide +kernel))
theorem lX11_55 : mLk RX11 55 yX7_init := Or.inr ⟨"SliceSeller", (List.mem_of_getElem? (i := 452) (by decide +kernel))⟩
theorem oiX7_3 : Cond.methodLink RX7 3 Lib.objectInit ∈ TBg := (TBg_mem (List.mem_of_getElem? (i := 455) (by decide +kernel)) (by decide +kernel))
theorem fX7_9 : fLk RX7 9 7 0 true (.array .int) := ⟨_, rfl, by decide, (TBg_mem (List.mem_of_getElem? (i := 456) (by decide +kernel)) (by decide +kernel)), rfl, by decide +kernel⟩
