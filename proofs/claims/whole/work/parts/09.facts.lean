def D_X11_within : vt_MD := (yX11_within, cX11_within, 3, some .boolean)
theorem ok_X11_within : vt_okS D_X11_within 3 := ⟨⟨tb2 (List.mem_of_getElem? (i := 186) rfl) rfl, tb1 (List.mem_of_getElem? (i := 1) rfl) rfl, ⟨by decide, by decide, by decide +kernel⟩, by decide +kernel, by decide⟩, tb2 (List.mem_of_getElem? (i := 185) rfl) rfl⟩
def D_X11_isPlace : vt_MD := (yX11_isPlace, cX11_isPlace, 1, some .boolean)
theorem ok_X11_isPlace : vt_okS D_X11_isPlace 1 := ⟨⟨tb2 (List.mem_of_getElem? (i := 183) rfl) rfl, tb1 (List.mem_of_getElem? (i := 1) rfl) rfl, ⟨by decide, by decide, by decide +kernel⟩, by decide +kernel, by decide⟩, tb2 (List.mem_of_getElem? (i := 182) rfl) rfl⟩
theorem mk_RX11_117 : Cond.methodLink "ArcadeRents" 117 yX11_within ∈ vt_tbl := tb2 (List.mem_of_getElem? (i := 184) rfl) rfl
def D_X11_isFeet : vt_MD := (yX11_isFeet, cX11_isFeet, 1, some .boolean)
theorem ok_X11_isFeet : vt_okS D_X11_isFeet 1 := ⟨⟨tb2 (List.mem_of_getElem? (i := 189) rfl) rfl, tb1 (List.mem_of_getElem? (i := 1) rfl) rfl, ⟨by decide, by decide, by decide +kernel⟩, by decide +kernel, by decide⟩, tb2 (List.mem_of_getElem? (i := 188) rfl) rfl⟩
def D_X11_isPeople : vt_MD := (yX11_isPeople, cX11_isPeople, 1, some .boolean)
theorem ok_X11_isPeople : vt_okS D_X11_isPeople 1 := ⟨⟨tb2 (List.mem_of_getElem? (i := 212) rfl) rfl, tb1 (List.mem_of_getElem? (i := 1) rfl) rfl, ⟨by decide, by decide, by decide +kernel⟩, by decide +kernel, by decide⟩, tb2 (List.mem_of_getElem? (i := 211) rfl) rfl⟩
def D_X11_isTries : vt_MD := (yX11_isTries, cX11_isTries, 1, some .boolean)
theorem ok_X11_isTries : vt_okS D_X11_isTries 1 := ⟨⟨tb4 (List.mem_of_getElem? (i := 137) rfl) rfl, tb1 (List.mem_of_getElem? (i := 1) rfl) rfl, ⟨by decide, by decide, by decide +kernel⟩, by decide +kernel, by decide⟩, tb4 (List.mem_of_getElem? (i := 136) rfl) rfl⟩
theorem ct_RX11_284 : Cond.constant "ArcadeRents" 284 (50000) ∈ vt_tbl := tb4 (List.mem_of_getElem? (i := 138) rfl) rfl
def D_X11_isMonth : vt_MD := (yX11_isMonth, cX11_isMonth, 2, some .boolean)
theorem ok_X11_isMonth : vt_okV D_X11_isMonth 1 := ⟨⟨tb3 (List.mem_of_getElem? (i := 42) rfl) rfl, tb1 (List.mem_of_getElem? (i := 1) rfl) rfl, ⟨by decide, by decide, by decide +kernel⟩, by decide +kernel, by decide⟩, tb3 (List.mem_of_getElem? (i := 41) rfl) rfl, vt_in (List.mem_append_left _ (List.mem_of_getElem? (i := 2) (by rfl))) rfl⟩
theorem fF_RX11_10 : vt_F "ArcadeRents" 10 11 0 := ⟨_, _, _, rfl, by decide, inX11_ok, tb2 (List.mem_of_getElem? (i := 143) rfl) rfl⟩
theorem fl_0_0 : vt_fld 0 11 0 (some 1) := ⟨_, rfl, rfl⟩
theorem fF_RX11_137 : vt_F "ArcadeRents" 137 0 9 := ⟨_, _, _, rfl, by decide, inX0_ok, tb1 (List.mem_of_getElem? (i := 210) rfl) rfl⟩
theorem fl_1_9 : vt_fld 1 0 9 none := ⟨_, rfl, rfl⟩
def D_X3_has : vt_MD := (yX3_has, cX3_has, 2, some .boolean)
theorem ok_X3_has : vt_okV D_X3_has 1 := ⟨⟨tb2 (List.mem_of_getElem? (i := 225) rfl) rfl, tb1 (List.mem_of_getElem? (i := 3) rfl) rfl, ⟨by decide, by decide, by decide +kernel⟩, by decide +kernel, by decide⟩, tb2 (List.mem_of_getElem? (i := 223) rfl) rfl, tb2 (List.mem_of_getElem? (i := 224) rfl) rfl⟩
theorem fF_RX3_18 : vt_F "ArcadeRents$Doors" 18 3 2 := ⟨_, _, _, rfl, by decide, inX3_ok, tb1 (List.mem_of_getElem? (i := 47) rfl) rfl⟩
theorem fl_4_2 : vt_fld 4 3 2 none := ⟨_, rfl, rfl⟩
def D_X10_has : vt_MD := (yX10_has, cX10_has, 2, some .boolean)
theorem ok_X10_has : vt_okV D_X10_has 1 := ⟨⟨tb3 (List.mem_of_getElem? (i := 2) rfl) rfl, tb1 (List.mem_of_getElem? (i := 4) rfl) rfl, ⟨by decide, by decide, by decide +kernel⟩, by decide +kernel, by decide⟩, tb3 (List.mem_of_getElem? (i := 0) rfl) rfl, tb3 (List.mem_of_getElem? (i := 1) rfl) rfl⟩
theorem fF_RX10_33 : vt_F "ArcadeRents$Shops" 33 10 7 := ⟨_, _, _, rfl, by decide, inX10_ok, tb1 (List.mem_of_getElem? (i := 80) rfl) rfl⟩
theorem fl_7_7 : vt_fld 7 10 7 none := ⟨_, rfl, rfl⟩
def D_X5_has : vt_MD := (yX5_has, cX5_has, 2, some .boolean)
theorem ok_X5_has : vt_okV D_X5_has 1 := ⟨⟨tb3 (List.mem_of_getElem? (i := 87) rfl) rfl, tb1 (List.mem_of_getElem? (i := 6) rfl) rfl, ⟨by decide, by decide, by decide +kernel⟩, by decide +kernel, by decide⟩, tb3 (List.mem_of_getElem? (i := 85) rfl) rfl, tb3 (List.mem_of_getElem? (i := 86) rfl) rfl⟩
theorem fF_RX5_27 : vt_F "ArcadeRents$Lines" 27 5 5 := ⟨_, _, _, rfl, by decide, inX5_ok, tb1 (List.mem_of_getElem? (i := 141) rfl) rfl⟩
theorem fl_19_5 : vt_fld 19 5 5 none := ⟨_, rfl, rfl⟩
def D_X9_isSheet : vt_MD := (yX9_isSheet, cX9_isSheet, 1, some .boolean)
theorem ok_X9_isSheet : vt_okS D_X9_isSheet 1 := ⟨⟨tb2 (List.mem_of_getElem? (i := 197) rfl) rfl, tb1 (List.mem_of_getElem? (i := 10) rfl) rfl, ⟨by decide, by decide, by decide +kernel⟩, by decide +kernel, by decide⟩, tb2 (List.mem_of_getElem? (i := 196) rfl) rfl⟩
def D_X9_isMissing : vt_MD := (yX9_isMissing, cX9_isMissing, 2, some .boolean)
theorem ok_X9_isMissing : vt_okV D_X9_isMissing 1 := ⟨⟨tb2 (List.mem_of_getElem? (i := 201) rfl) rfl, tb1 (List.mem_of_getElem? (i := 10) rfl) rfl, ⟨by decide, by decide, by decide +kernel⟩, by decide +kernel, by decide⟩, tb2 (List.mem_of_getElem? (i := 199) rfl) rfl, tb2 (List.mem_of_getElem? (i := 200) rfl) rfl⟩
theorem fF_RX9_14 : vt_F "ArcadeRents$Sheets" 14 9 1 := ⟨_, _, _, rfl, by decide, inX9_ok, tb2 (List.mem_of_getElem? (i := 44) rfl) rfl⟩
theorem fl_111_1 : vt_fld 111 9 1 (some 115) := ⟨_, rfl, rfl⟩
theorem ar_115 : vt_ar 115 0 2 := ⟨_, rfl⟩
def D_X9_reaches : vt_MD := (yX9_reaches, cX9_reaches, 4, some .boolean)
theorem ok_X9_reaches : vt_okV D_X9_reaches 3 := ⟨⟨tb5 (List.mem_of_getElem? (i := 1) rfl) rfl, tb1 (List.mem_of_getElem? (i := 10) rfl) rfl, ⟨by decide, by decide, by decide +kernel⟩, by decide +kernel, by decide⟩, tb4 (List.mem_of_getElem? (i := 239) rfl) rfl, tb5 (List.mem_of_getElem? (i := 0) rfl) rfl⟩
def D_X10_rivals : vt_MD := (yX10_rivals, cX10_rivals, 4, some .boolean)
theorem ok_X10_rivals : vt_okV D_X10_rivals 3 := ⟨⟨tb4 (List.mem_of_getElem? (i := 129) rfl) rfl, tb1 (List.mem_of_getElem? (i := 4) rfl) rfl, ⟨by decide, by decide, by decide +kernel⟩, by decide +kernel, by decide⟩, tb4 (List.mem_of_getElem? (i := 127) rfl) rfl, tb4 (List.mem_of_getElem? (i := 128) rfl) rfl⟩
theorem fF_RX10_15 : vt_F "ArcadeRents$Shops" 15 10 1 := ⟨_, _, _, rfl, by decide, inX10_ok, tb1 (List.mem_of_getElem? (i := 68) rfl) rfl⟩
theorem fl_7_1 : vt_fld 7 10 1 (some 9) := ⟨_, rfl, rfl⟩
theorem ar_9 : vt_ar 9 0 12 := ⟨_, rfl⟩
theorem fF_RX10_24 : vt_F "ArcadeRents$Shops" 24 10 4 := ⟨_, _, _, rfl, by decide, inX10_ok, tb1 (List.mem_of_getElem? (i := 74) rfl) rfl⟩
theorem fl_7_4 : vt_fld 7 10 4 (some 12) := ⟨_, rfl, rfl⟩
theorem ar_12 : vt_ar 12 0 12 := ⟨_, rfl⟩
theorem mk_RX10_37 : Cond.methodLink "ArcadeRents$Shops" 37 Lib.Math.max.name ∈ vt_tbl := tb4 (List.mem_of_getElem? (i := 130) rfl) rfl
theorem sta_max : Cond.static Lib.Math.max.name ∈ vt_tbl := tb3 (List.mem_of_getElem? (i := 105) rfl) rfl
theorem ini_math : Cond.initialized "java/lang/Math" ∈ vt_tbl := tb1 (List.mem_of_getElem? (i := 15) rfl) rfl
theorem cod_max : Cond.code Lib.Math.max.name Lib.Math.max.code 2 (some .int) ∈ vt_tbl := tb3 (List.mem_of_getElem? (i := 106) rfl) rfl
def D_X2_others : vt_MD := (yX2_others, cX2_others, 2, some .int)
theorem ok_X2_others : vt_okV D_X2_others 1 := ⟨⟨tb3 (List.mem_of_getElem? (i := 50) rfl) rfl, tb1 (List.mem_of_getElem? (i := 11) rfl) rfl, ⟨by decide, by decide, by decide +kernel⟩, by decide +kernel, by decide⟩, tb3 (List.mem_of_getElem? (i := 48) rfl) rfl, tb3 (List.mem_of_getElem? (i := 49) rfl) rfl⟩
theorem fF_RX2_9 : vt_F "ArcadeRents$Crowd" 9 2 3 := ⟨_, _, _, rfl, by decide, inX2_ok, tb2 (List.mem_of_getElem? (i := 65) rfl) rfl⟩
theorem fl_116_3 : vt_fld 116 2 3 (some 117) := ⟨_, rfl, rfl⟩
theorem ar_117 : vt_ar 117 0 12 := ⟨_, rfl⟩
theorem ct_RX2_32 : Cond.constant "ArcadeRents$Crowd" 32 (-1000000005) ∈ vt_tbl := tb3 (List.mem_of_getElem? (i := 12) rfl) rfl
theorem fF_RX2_61 : vt_F "ArcadeRents$Crowd" 61 2 2 := ⟨_, _, _, rfl, by decide, inX2_ok, tb2 (List.mem_of_getElem? (i := 63) rfl) rfl⟩
theorem fl_116_2 : vt_fld 116 2 2 none := ⟨_, rfl, rfl⟩
def D_X2_breaks : vt_MD := (yX2_breaks, cX2_breaks, 4, some .boolean)
theorem ok_X2_breaks : vt_okV D_X2_breaks 2 := ⟨⟨tb4 (List.mem_of_getElem? (i := 125) rfl) rfl, tb1 (List.mem_of_getElem? (i := 11) rfl) rfl, ⟨by decide, by decide, by decide +kernel⟩, by decide +kernel, by decide⟩, tb4 (List.mem_of_getElem? (i := 123) rfl) rfl, tb4 (List.mem_of_getElem? (i := 124) rfl) rfl⟩
theorem mk_RX2_101 : Cond.methodLink "ArcadeRents$Crowd" 101 Lib.Math.abs.name ∈ vt_tbl := tb3 (List.mem_of_getElem? (i := 63) rfl) rfl
theorem sta_abs : Cond.static Lib.Math.abs.name ∈ vt_tbl := tb3 (List.mem_of_getElem? (i := 64) rfl) rfl
theorem cod_abs : Cond.code Lib.Math.abs.name Lib.Math.abs.code 1 (some .int) ∈ vt_tbl := tb3 (List.mem_of_getElem? (i := 65) rfl) rfl
theorem fF_RX2_24 : vt_F "ArcadeRents$Crowd" 24 2 0 := ⟨_, _, _, rfl, by decide, inX2_ok, tb2 (List.mem_of_getElem? (i := 58) rfl) rfl⟩
theorem fl_116_0 : vt_fld 116 2 0 (some 1) := ⟨_, rfl, rfl⟩
theorem fF_RX2_64 : vt_F "ArcadeRents$Crowd" 64 0 3 := ⟨_, _, _, rfl, by decide, inX0_ok, tb1 (List.mem_of_getElem? (i := 193) rfl) rfl⟩
theorem fl_1_3 : vt_fld 1 0 3 (some 7) := ⟨_, rfl, rfl⟩
theorem mk_RX2_110 : Cond.methodLink "ArcadeRents$Crowd" 110 yX10_rivals ∈ vt_tbl := tb4 (List.mem_of_getElem? (i := 126) rfl) rfl
theorem rc_7 {g : vt_GT} : vt_rcv g RX10 (g.2.1 7) := vt_rcvO (ci := 10) (q := (RX10, TX10, _)) rfl rfl
def D_X5_counts : vt_MD := (yX5_counts, cX5_counts, 3, some .boolean)
theorem ok_X5_counts : vt_okV D_X5_counts 2 := ⟨⟨tb3 (List.mem_of_getElem? (i := 103) rfl) rfl, tb1 (List.mem_of_getElem? (i := 6) rfl) rfl, ⟨by decide, by decide, by decide +kernel⟩, by decide +kernel, by decide⟩, tb3 (List.mem_of_getElem? (i := 102) rfl) rfl, vt_in (List.mem_append_left _ (List.mem_of_getElem? (i := 3) (by rfl))) rfl⟩
theorem fF_RX5_21 : vt_F "ArcadeRents$Lines" 21 5 3 := ⟨_, _, _, rfl, by decide, inX5_ok, tb1 (List.mem_of_getElem? (i := 137) rfl) rfl⟩
theorem fl_19_3 : vt_fld 19 5 3 (some 23) := ⟨_, rfl, rfl⟩
theorem ar_23 : vt_ar 23 0 100 := ⟨_, rfl⟩
theorem fF_RX5_24 : vt_F "ArcadeRents$Lines" 24 5 4 := ⟨_, _, _, rfl, by decide, inX5_ok, tb1 (List.mem_of_getElem? (i := 139) rfl) rfl⟩
theorem fl_19_4 : vt_fld 19 5 4 (some 24) := ⟨_, rfl, rfl⟩
theorem ar_24 : vt_ar 24 0 100 := ⟨_, rfl⟩
theorem ct_RX5_31 : Cond.constant "ArcadeRents$Lines" 31 (-1000000005) ∈ vt_tbl := tb3 (List.mem_of_getElem? (i := 79) rfl) rfl
def D_X8_isDigit : vt_MD := (yX8_isDigit, cX8_isDigit, 1, some .boolean)
theorem ok_X8_isDigit : vt_okS D_X8_isDigit 1 := ⟨⟨tb3 (List.mem_of_getElem? (i := 138) rfl) rfl, tb1 (List.mem_of_getElem? (i := 9) rfl) rfl, ⟨by decide, by decide, by decide +kernel⟩, by decide +kernel, by decide⟩, tb3 (List.mem_of_getElem? (i := 137) rfl) rfl⟩
def D_X8_isLetter : vt_MD := (yX8_isLetter, cX8_isLetter, 1, some .boolean)
theorem ok_X8_isLetter : vt_okS D_X8_isLetter 1 := ⟨⟨tb3 (List.mem_of_getElem? (i := 141) rfl) rfl, tb1 (List.mem_of_getElem? (i := 9) rfl) rfl, ⟨by decide, by decide, by decide +kernel⟩, by decide +kernel, by decide⟩, tb3 (List.mem_of_getElem? (i := 140) rfl) rfl⟩
def D_X8_levelOf : vt_MD := (yX8_levelOf, cX8_levelOf, 1, some .int)
theorem ok_X8_levelOf : vt_okS D_X8_levelOf 1 := ⟨⟨tb4 (List.mem_of_getElem? (i := 35) rfl) rfl, tb1 (List.mem_of_getElem? (i := 9) rfl) rfl, ⟨by decide, by decide, by decide +kernel⟩, by decide +kernel, by decide⟩, tb4 (List.mem_of_getElem? (i := 34) rfl) rfl⟩
def D_X1_join : vt_MD := (yX1_join, cX1_join, 3, some .int)
theorem ok_X1_join : vt_okS D_X1_join 3 := ⟨⟨tb4 (List.mem_of_getElem? (i := 79) rfl) rfl, tb1 (List.mem_of_getElem? (i := 12) rfl) rfl, ⟨by decide, by decide, by decide +kernel⟩, by decide +kernel, by decide⟩, tb4 (List.mem_of_getElem? (i := 78) rfl) rfl⟩
def D_X12_within : vt_MD := (yX12_within, cX12_within, 3, some .boolean)
theorem ok_X12_within : vt_okS D_X12_within 3 := ⟨⟨tb5 (List.mem_of_getElem? (i := 124) rfl) rfl, tb1 (List.mem_of_getElem? (i := 14) rfl) rfl, ⟨by decide, by decide, by decide +kernel⟩, by decide +kernel, by decide⟩, tb5 (List.mem_of_getElem? (i := 123) rfl) rfl⟩
def D_X12_isPlace : vt_MD := (yX12_isPlace, cX12_isPlace, 1, some .boolean)
theorem ok_X12_isPlace : vt_okS D_X12_isPlace 1 := ⟨⟨tb5 (List.mem_of_getElem? (i := 121) rfl) rfl, tb1 (List.mem_of_getElem? (i := 14) rfl) rfl, ⟨by decide, by decide, by decide +kernel⟩, by decide +kernel, by decide⟩, tb5 (List.mem_of_getElem? (i := 120) rfl) rfl⟩
theorem mk_RX12_49 : Cond.methodLink "ArcadeRentsModel" 49 yX12_within ∈ vt_tbl := tb5 (List.mem_of_getElem? (i := 122) rfl) rfl
def D_X12_isShop : vt_MD := (yX12_isShop, cX12_isShop, 2, some .boolean)
theorem ok_X12_isShop : vt_okV D_X12_isShop 1 := ⟨⟨tb5 (List.mem_of_getElem? (i := 155) rfl) rfl, tb1 (List.mem_of_getElem? (i := 14) rfl) rfl, ⟨by decide, by decide, by decide +kernel⟩, by decide +kernel, by decide⟩, tb5 (List.mem_of_getElem? (i := 154) rfl) rfl, vt_in (List.mem_append_left _ (List.mem_of_getElem? (i := 24) (by rfl))) rfl⟩
theorem fF_RX12_9 : vt_F "ArcadeRentsModel" 9 12 0 := ⟨_, _, _, rfl, by decide, inX12_ok, tb5 (List.mem_of_getElem? (i := 30) rfl) rfl⟩
theorem fl_168_0 : vt_fld 168 12 0 (some 169) := ⟨_, rfl, rfl⟩
theorem ar_169 : vt_ar 169 0 2220 := ⟨_, rfl⟩
def D_X12_isPast : vt_MD := (yX12_isPast, cX12_isPast, 2, some .boolean)
theorem ok_X12_isPast : vt_okV D_X12_isPast 1 := ⟨⟨tb5 (List.mem_of_getElem? (i := 193) rfl) rfl, tb1 (List.mem_of_getElem? (i := 14) rfl) rfl, ⟨by decide, by decide, by decide +kernel⟩, by decide +kernel, by decide⟩, tb5 (List.mem_of_getElem? (i := 192) rfl) rfl, vt_in (List.mem_append_left _ (List.mem_of_getElem? (i := 29) (by rfl))) rfl⟩
def D_X12_of : vt_MD := (yX12_of, cX12_of, 2, some .int)
theorem ok_X12_of : vt_okS D_X12_of 2 := ⟨⟨tb5 (List.mem_of_getElem? (i := 147) rfl) rfl, tb1 (List.mem_of_getElem? (i := 14) rfl) rfl, ⟨by decide, by decide, by decide +kernel⟩, by decide +kernel, by decide⟩, tb5 (List.mem_of_getElem? (i := 146) rfl) rfl⟩
def D_X12_gone : vt_MD := (yX12_gone, cX12_gone, 2, some .int)
theorem ok_X12_gone : vt_okV D_X12_gone 1 := ⟨⟨tb5 (List.mem_of_getElem? (i := 237) rfl) rfl, tb1 (List.mem_of_getElem? (i := 14) rfl) rfl, ⟨by decide, by decide, by decide +kernel⟩, by decide +kernel, by decide⟩, tb5 (List.mem_of_getElem? (i := 236) rfl) rfl, vt_in (List.mem_append_left _ (List.mem_of_getElem? (i := 36) (by rfl))) rfl⟩
theorem ct_RX12_120 : Cond.constant "ArcadeRentsModel" 120 (175692) ∈ vt_tbl := tb5 (List.mem_of_getElem? (i := 238) rfl) rfl
def D_X12_hasLease : vt_MD := (yX12_hasLease, cX12_hasLease, 2, some .boolean)
theorem ok_X12_hasLease : vt_okV D_X12_hasLease 1 := ⟨⟨tb6 (List.mem_of_getElem? (i := 108) rfl) rfl, tb1 (List.mem_of_getElem? (i := 14) rfl) rfl, ⟨by decide, by decide, by decide +kernel⟩, by decide +kernel, by decide⟩, tb6 (List.mem_of_getElem? (i := 107) rfl) rfl, vt_in (List.mem_append_left _ (List.mem_of_getElem? (i := 53) (by rfl))) rfl⟩
theorem mk_RX12_61 : Cond.methodLink "ArcadeRentsModel" 61 yX12_of ∈ vt_tbl := tb5 (List.mem_of_getElem? (i := 145) rfl) rfl
def D_X12_pays : vt_MD := (yX12_pays, cX12_pays, 2, some .boolean)
theorem ok_X12_pays : vt_okV D_X12_pays 1 := ⟨⟨tb6 (List.mem_of_getElem? (i := 132) rfl) rfl, tb1 (List.mem_of_getElem? (i := 14) rfl) rfl, ⟨by decide, by decide, by decide +kernel⟩, by decide +kernel, by decide⟩, tb6 (List.mem_of_getElem? (i := 131) rfl) rfl, vt_in (List.mem_append_left _ (List.mem_of_getElem? (i := 56) (by rfl))) rfl⟩
theorem fF_RX12_28 : vt_F "ArcadeRentsModel" 28 12 9 := ⟨_, _, _, rfl, by decide, inX12_ok, tb5 (List.mem_of_getElem? (i := 39) rfl) rfl⟩
theorem fl_168_9 : vt_fld 168 12 9 (some 175) := ⟨_, rfl, rfl⟩
theorem ar_175 : vt_ar 175 0 12 := ⟨_, rfl⟩
def D_X12_isLetter : vt_MD := (yX12_isLetter, cX12_isLetter, 2, some .boolean)
theorem ok_X12_isLetter : vt_okV D_X12_isLetter 1 := ⟨⟨tb6 (List.mem_of_getElem? (i := 35) rfl) rfl, tb1 (List.mem_of_getElem? (i := 14) rfl) rfl, ⟨by decide, by decide, by decide +kernel⟩, by decide +kernel, by decide⟩, tb6 (List.mem_of_getElem? (i := 34) rfl) rfl, vt_in (List.mem_append_left _ (List.mem_of_getElem? (i := 39) (by rfl))) rfl⟩
theorem fF_RX12_129 : vt_F "ArcadeRentsModel" 129 12 4 := ⟨_, _, _, rfl, by decide, inX12_ok, tb5 (List.mem_of_getElem? (i := 34) rfl) rfl⟩
theorem fl_168_4 : vt_fld 168 12 4 none := ⟨_, rfl, rfl⟩
theorem fF_RX12_16 : vt_F "ArcadeRentsModel" 16 12 3 := ⟨_, _, _, rfl, by decide, inX12_ok, tb5 (List.mem_of_getElem? (i := 33) rfl) rfl⟩
theorem fl_168_3 : vt_fld 168 12 3 (some 171) := ⟨_, rfl, rfl⟩
theorem ar_171 : vt_ar 171 0 132 := ⟨_, rfl⟩
def D_X12_isDigit : vt_MD := (yX12_isDigit, cX12_isDigit, 2, some .boolean)
theorem ok_X12_isDigit : vt_okV D_X12_isDigit 1 := ⟨⟨tb6 (List.mem_of_getElem? (i := 39) rfl) rfl, tb1 (List.mem_of_getElem? (i := 14) rfl) rfl, ⟨by decide, by decide, by decide +kernel⟩, by decide +kernel, by decide⟩, tb6 (List.mem_of_getElem? (i := 38) rfl) rfl, vt_in (List.mem_append_left _ (List.mem_of_getElem? (i := 40) (by rfl))) rfl⟩
def D_X12_done : vt_MD := (yX12_done, cX12_done, 3, some .int)
theorem ok_X12_done : vt_okS D_X12_done 3 := ⟨⟨tb6 (List.mem_of_getElem? (i := 119) rfl) rfl, tb1 (List.mem_of_getElem? (i := 14) rfl) rfl, ⟨by decide, by decide, by decide +kernel⟩, by decide +kernel, by decide⟩, tb6 (List.mem_of_getElem? (i := 118) rfl) rfl⟩
def D_J0_length_8abf5 : vt_MD := (yJ0_length_8abf5, cJ0_length_8abf5, 1, some .int)
theorem ok_J0_length_8abf5 : vt_okV D_J0_length_8abf5 0 := ⟨⟨tb3 (List.mem_of_getElem? (i := 168) rfl) rfl, tb1 (List.mem_of_getElem? (i := 16) rfl) rfl, ⟨by decide, by decide, by decide +kernel⟩, by decide +kernel, by decide⟩, tb3 (List.mem_of_getElem? (i := 166) rfl) rfl, tb3 (List.mem_of_getElem? (i := 167) rfl) rfl⟩
theorem fS_RJ0_9 : Cond.fieldLink "java/lang/String" 9 "java/lang/String" "value" "[B" ∈ vt_tbl := tb6 (List.mem_of_getElem? (i := 218) rfl) rfl
theorem mk_RJ0_335 : Cond.methodLink "java/lang/String" 335 yJ0_coder_7d493 ∈ vt_tbl := tb3 (List.mem_of_getElem? (i := 169) rfl) rfl
def D_J0_coder_7d493 : vt_MD := (yJ0_coder_7d493, cJ0_coder_7d493, 1, some .byte)
theorem ok_J0_coder_7d493 : vt_okV D_J0_coder_7d493 0 := ⟨⟨tb3 (List.mem_of_getElem? (i := 172) rfl) rfl, tb1 (List.mem_of_getElem? (i := 16) rfl) rfl, ⟨by decide, by decide, by decide +kernel⟩, by decide +kernel, by decide⟩, tb3 (List.mem_of_getElem? (i := 170) rfl) rfl, tb3 (List.mem_of_getElem? (i := 171) rfl) rfl⟩
def D_J0_charAt_5068e : vt_MD := (yJ0_charAt_5068e, cJ0_charAt_5068e, 2, some .char)
theorem ok_J0_charAt_5068e : vt_okV D_J0_charAt_5068e 1 := ⟨⟨tb4 (List.mem_of_getElem? (i := 2) rfl) rfl, tb1 (List.mem_of_getElem? (i := 16) rfl) rfl, ⟨by decide, by decide, by decide +kernel⟩, by decide +kernel, by decide⟩, tb4 (List.mem_of_getElem? (i := 0) rfl) rfl, tb4 (List.mem_of_getElem? (i := 1) rfl) rfl⟩
theorem mk_RJ0_492 : Cond.methodLink "java/lang/String" 492 yJ0_isLatin1_aae02 ∈ vt_tbl := tb3 (List.mem_of_getElem? (i := 159) rfl) rfl
def D_J0_isLatin1_aae02 : vt_MD := (yJ0_isLatin1_aae02, cJ0_isLatin1_aae02, 1, some .boolean)
theorem ok_J0_isLatin1_aae02 : vt_okV D_J0_isLatin1_aae02 0 := ⟨⟨tb3 (List.mem_of_getElem? (i := 162) rfl) rfl, tb1 (List.mem_of_getElem? (i := 16) rfl) rfl, ⟨by decide, by decide, by decide +kernel⟩, by decide +kernel, by decide⟩, tb3 (List.mem_of_getElem? (i := 160) rfl) rfl, tb3 (List.mem_of_getElem? (i := 161) rfl) rfl⟩
theorem mk_RJ0_495 : Cond.methodLink "java/lang/String" 495 yJ1_charAt_3b067 ∈ vt_tbl := tb4 (List.mem_of_getElem? (i := 3) rfl) rfl
def D_J1_charAt_3b067 : vt_MD := (yJ1_charAt_3b067, cJ1_charAt_3b067, 2, some .char)
theorem ok_J1_charAt_3b067 : vt_okS D_J1_charAt_3b067 2 := ⟨⟨tb4 (List.mem_of_getElem? (i := 5) rfl) rfl, tb1 (List.mem_of_getElem? (i := 17) rfl) rfl, ⟨by decide, by decide, by decide +kernel⟩, by decide +kernel, by decide⟩, tb4 (List.mem_of_getElem? (i := 4) rfl) rfl⟩
def D_J0_indexOf_0f7a4 : vt_MD := (yJ0_indexOf_0f7a4, cJ0_indexOf_0f7a4, 2, some .int)
theorem ok_J0_indexOf_0f7a4 : vt_okV D_J0_indexOf_0f7a4 1 := ⟨⟨tb3 (List.mem_of_getElem? (i := 154) rfl) rfl, tb1 (List.mem_of_getElem? (i := 16) rfl) rfl, ⟨by decide, by decide, by decide +kernel⟩, by decide +kernel, by decide⟩, tb3 (List.mem_of_getElem? (i := 152) rfl) rfl, tb3 (List.mem_of_getElem? (i := 153) rfl) rfl⟩
theorem mk_RJ0_633 : Cond.methodLink "java/lang/String" 633 yJ0_indexOf_7cf53 ∈ vt_tbl := tb3 (List.mem_of_getElem? (i := 155) rfl) rfl
def D_J0_indexOf_7cf53 : vt_MD := (yJ0_indexOf_7cf53, cJ0_indexOf_7cf53, 3, some .int)
theorem ok_J0_indexOf_7cf53 : vt_okV D_J0_indexOf_7cf53 2 := ⟨⟨tb3 (List.mem_of_getElem? (i := 158) rfl) rfl, tb1 (List.mem_of_getElem? (i := 16) rfl) rfl, ⟨by decide, by decide, by decide +kernel⟩, by decide +kernel, by decide⟩, tb3 (List.mem_of_getElem? (i := 156) rfl) rfl, tb3 (List.mem_of_getElem? (i := 157) rfl) rfl⟩
theorem mk_RJ0_505 : Cond.methodLink "java/lang/String" 505 yJ0_length_8abf5 ∈ vt_tbl := tb3 (List.mem_of_getElem? (i := 165) rfl) rfl
theorem mk_RJ0_637 : Cond.methodLink "java/lang/String" 637 yJ1_indexOf_4cfef ∈ vt_tbl := tb3 (List.mem_of_getElem? (i := 173) rfl) rfl
def D_J1_indexOf_4cfef : vt_MD := (yJ1_indexOf_4cfef, cJ1_indexOf_4cfef, 4, some .int)
theorem ok_J1_indexOf_4cfef : vt_okS D_J1_indexOf_4cfef 4 := ⟨⟨tb3 (List.mem_of_getElem? (i := 175) rfl) rfl, tb1 (List.mem_of_getElem? (i := 17) rfl) rfl, ⟨by decide, by decide, by decide +kernel⟩, by decide +kernel, by decide⟩, tb3 (List.mem_of_getElem? (i := 174) rfl) rfl⟩
theorem fS_RJ0_38 : Cond.fieldLink "java/lang/String" 38 "java/lang/String" "COMPACT_STRINGS" "Z" ∈ vt_tbl := tb3 (List.mem_of_getElem? (i := 163) rfl) rfl
theorem fS_RJ0_15 : Cond.fieldLink "java/lang/String" 15 "java/lang/String" "coder" "B" ∈ vt_tbl := tb6 (List.mem_of_getElem? (i := 217) rfl) rfl
def D_J0_checkIndex_df160 : vt_MD := (yJ0_checkIndex_df160, cJ0_checkIndex_df160, 2, none)
theorem ok_J0_checkIndex_df160 : vt_okS D_J0_checkIndex_df160 2 := ⟨⟨tb4 (List.mem_of_getElem? (i := 8) rfl) rfl, tb1 (List.mem_of_getElem? (i := 16) rfl) rfl, ⟨by decide, by decide, by decide +kernel⟩, by decide +kernel, by decide⟩, tb4 (List.mem_of_getElem? (i := 7) rfl) rfl⟩
theorem fS_RJ0_1053 : Cond.fieldLink "java/lang/String" 1053 "jdk/internal/util/Preconditions" "SIOOBE_FORMATTER" "Ljava/util/function/BiFunction;" ∈ vt_tbl := tb3 (List.mem_of_getElem? (i := 202) rfl) rfl
theorem mk_RJ0_1059 : Cond.methodLink "java/lang/String" 1059 yJ3_checkIndex_8e157 ∈ vt_tbl := tb4 (List.mem_of_getElem? (i := 9) rfl) rfl
def D_J3_checkIndex_8e157 : vt_MD := (yJ3_checkIndex_8e157, cJ3_checkIndex_8e157, 3, some .int)
theorem ok_J3_checkIndex_8e157 : vt_okS D_J3_checkIndex_8e157 3 := ⟨⟨tb4 (List.mem_of_getElem? (i := 11) rfl) rfl, tb1 (List.mem_of_getElem? (i := 19) rfl) rfl, ⟨by decide, by decide, by decide +kernel⟩, by decide +kernel, by decide⟩, tb4 (List.mem_of_getElem? (i := 10) rfl) rfl⟩
theorem mk_RJ1_9 : Cond.methodLink "java/lang/StringLatin1" 9 yJ0_checkIndex_df160 ∈ vt_tbl := tb4 (List.mem_of_getElem? (i := 6) rfl) rfl
def D_J1_canEncode_9a6ad : vt_MD := (yJ1_canEncode_9a6ad, cJ1_canEncode_9a6ad, 1, some .boolean)
theorem ok_J1_canEncode_9a6ad : vt_okS D_J1_canEncode_9a6ad 1 := ⟨⟨tb3 (List.mem_of_getElem? (i := 178) rfl) rfl, tb1 (List.mem_of_getElem? (i := 17) rfl) rfl, ⟨by decide, by decide, by decide +kernel⟩, by decide +kernel, by decide⟩, tb3 (List.mem_of_getElem? (i := 177) rfl) rfl⟩
theorem mk_RJ1_88 : Cond.methodLink "java/lang/StringLatin1" 88 yJ1_canEncode_9a6ad ∈ vt_tbl := tb3 (List.mem_of_getElem? (i := 176) rfl) rfl
theorem mk_RJ1_92 : Cond.methodLink "java/lang/StringLatin1" 92 Lib.Math.max.name ∈ vt_tbl := tb3 (List.mem_of_getElem? (i := 179) rfl) rfl
theorem mk_RJ1_38 : Cond.methodLink "java/lang/StringLatin1" 38 Lib.Math.min.name ∈ vt_tbl := tb3 (List.mem_of_getElem? (i := 180) rfl) rfl
theorem sta_min : Cond.static Lib.Math.min.name ∈ vt_tbl := tb2 (List.mem_of_getElem? (i := 204) rfl) rfl
theorem cod_min : Cond.code Lib.Math.min.name Lib.Math.min.code 2 (some .int) ∈ vt_tbl := tb2 (List.mem_of_getElem? (i := 205) rfl) rfl
theorem mk_RJ1_95 : Cond.methodLink "java/lang/StringLatin1" 95 yJ1_indexOfChar_4cfef ∈ vt_tbl := tb3 (List.mem_of_getElem? (i := 181) rfl) rfl
def D_J1_indexOfChar_4cfef : vt_MD := (yJ1_indexOfChar_4cfef, cJ1_indexOfChar_4cfef, 6, some .int)
theorem ok_J1_indexOfChar_4cfef : vt_okS D_J1_indexOfChar_4cfef 4 := ⟨⟨tb3 (List.mem_of_getElem? (i := 183) rfl) rfl, tb1 (List.mem_of_getElem? (i := 17) rfl) rfl, ⟨by decide, by decide, by decide +kernel⟩, by decide +kernel, by decide⟩, tb3 (List.mem_of_getElem? (i := 182) rfl) rfl⟩
def D_J7_fill_53178 : vt_MD := (yJ7_fill_53178, cJ7_fill_53178, 4, none)
theorem ok_J7_fill_53178 : vt_okS D_J7_fill_53178 2 := ⟨⟨tb1 (List.mem_of_getElem? (i := 180) rfl) rfl, tb1 (List.mem_of_getElem? (i := 8) rfl) rfl, ⟨by decide, by decide, by decide +kernel⟩, by decide +kernel, by decide⟩, tb1 (List.mem_of_getElem? (i := 179) rfl) rfl⟩
def D_J7_fill_fb410 : vt_MD := (yJ7_fill_fb410, cJ7_fill_fb410, 4, none)
theorem ok_J7_fill_fb410 : vt_okS D_J7_fill_fb410 2 := ⟨⟨tb4 (List.mem_of_getElem? (i := 233) rfl) rfl, tb1 (List.mem_of_getElem? (i := 8) rfl) rfl, ⟨by decide, by decide, by decide +kernel⟩, by decide +kernel, by decide⟩, tb4 (List.mem_of_getElem? (i := 232) rfl) rfl⟩
def D_X0_become : vt_MD := (yX0_become, cX0_become, 2, none)
theorem ok_X0_become : vt_okV D_X0_become 1 := ⟨⟨tb4 (List.mem_of_getElem? (i := 192) rfl) rfl, tb1 (List.mem_of_getElem? (i := 2) rfl) rfl, ⟨by decide, by decide, by decide +kernel⟩, by decide +kernel, by decide⟩, tb4 (List.mem_of_getElem? (i := 190) rfl) rfl, tb4 (List.mem_of_getElem? (i := 191) rfl) rfl⟩
theorem fF_RX0_9 : vt_F "ArcadeRents$Arcade" 9 0 0 := ⟨_, _, _, rfl, by decide, inX0_ok, tb1 (List.mem_of_getElem? (i := 181) rfl) rfl⟩
theorem fl_1_0 : vt_fld 1 0 0 (some 2) := ⟨_, rfl, rfl⟩
theorem fl_54_0 : vt_fld 54 0 0 (some 55) := ⟨_, rfl, rfl⟩
theorem mk_RX0_62 : Cond.methodLink "ArcadeRents$Arcade" 62 arraycopyName ∈ vt_tbl := tb4 (List.mem_of_getElem? (i := 193) rfl) rfl
theorem ar_55 : vt_ar 55 0 12 := ⟨_, rfl⟩
theorem ar_2 : vt_ar 2 0 12 := ⟨_, rfl⟩
theorem nat_copy : Cond.native arraycopyName ∈ vt_tbl := tb4 (List.mem_of_getElem? (i := 43) rfl) rfl
theorem sta_copy : Cond.static arraycopyName ∈ vt_tbl := tb4 (List.mem_of_getElem? (i := 42) rfl) rfl
theorem ini_sys : Cond.initialized "java/lang/System" ∈ vt_tbl := tb1 (List.mem_of_getElem? (i := 21) rfl) rfl
theorem fF_RX0_15 : vt_F "ArcadeRents$Arcade" 15 0 1 := ⟨_, _, _, rfl, by decide, inX0_ok, tb1 (List.mem_of_getElem? (i := 186) rfl) rfl⟩
theorem fl_1_1 : vt_fld 1 0 1 (some 3) := ⟨_, rfl, rfl⟩
theorem fl_54_1 : vt_fld 54 0 1 (some 56) := ⟨_, rfl, rfl⟩
theorem ar_56 : vt_ar 56 0 2 := ⟨_, rfl⟩
theorem ar_3 : vt_ar 3 0 2 := ⟨_, rfl⟩
theorem fF_RX0_21 : vt_F "ArcadeRents$Arcade" 21 0 2 := ⟨_, _, _, rfl, by decide, inX0_ok, tb1 (List.mem_of_getElem? (i := 188) rfl) rfl⟩
theorem fl_54_2 : vt_fld 54 0 2 (some 57) := ⟨_, rfl, rfl⟩
theorem fl_1_2 : vt_fld 1 0 2 (some 4) := ⟨_, rfl, rfl⟩
theorem mk_RX0_68 : Cond.methodLink "ArcadeRents$Arcade" 68 yX3_become ∈ vt_tbl := tb4 (List.mem_of_getElem? (i := 194) rfl) rfl
def D_X3_become : vt_MD := (yX3_become, cX3_become, 2, none)
theorem ok_X3_become : vt_okV D_X3_become 1 := ⟨⟨tb4 (List.mem_of_getElem? (i := 197) rfl) rfl, tb1 (List.mem_of_getElem? (i := 3) rfl) rfl, ⟨by decide, by decide, by decide +kernel⟩, by decide +kernel, by decide⟩, tb4 (List.mem_of_getElem? (i := 195) rfl) rfl, tb4 (List.mem_of_getElem? (i := 196) rfl) rfl⟩
theorem rc_57 {g : vt_GT} : vt_rcv g RX3 (g.2.1 57) := vt_rcvO (ci := 3) (q := (RX3, TX3, _)) rfl rfl
theorem fF_RX0_28 : vt_F "ArcadeRents$Arcade" 28 0 3 := ⟨_, _, _, rfl, by decide, inX0_ok, tb1 (List.mem_of_getElem? (i := 191) rfl) rfl⟩
theorem fl_54_3 : vt_fld 54 0 3 (some 60) := ⟨_, rfl, rfl⟩
theorem mk_RX0_72 : Cond.methodLink "ArcadeRents$Arcade" 72 yX10_become ∈ vt_tbl := tb4 (List.mem_of_getElem? (i := 199) rfl) rfl
def D_X10_become : vt_MD := (yX10_become, cX10_become, 2, none)
theorem ok_X10_become : vt_okV D_X10_become 1 := ⟨⟨tb4 (List.mem_of_getElem? (i := 202) rfl) rfl, tb1 (List.mem_of_getElem? (i := 4) rfl) rfl, ⟨by decide, by decide, by decide +kernel⟩, by decide +kernel, by decide⟩, tb4 (List.mem_of_getElem? (i := 200) rfl) rfl, tb4 (List.mem_of_getElem? (i := 201) rfl) rfl⟩
theorem rc_60 {g : vt_GT} : vt_rcv g RX10 (g.2.1 60) := vt_rcvO (ci := 10) (q := (RX10, TX10, _)) rfl rfl
theorem fF_RX0_35 : vt_F "ArcadeRents$Arcade" 35 0 4 := ⟨_, _, _, rfl, by decide, inX0_ok, tb1 (List.mem_of_getElem? (i := 196) rfl) rfl⟩
theorem fl_54_4 : vt_fld 54 0 4 (some 68) := ⟨_, rfl, rfl⟩
theorem fl_1_4 : vt_fld 1 0 4 (some 15) := ⟨_, rfl, rfl⟩
theorem mk_RX0_75 : Cond.methodLink "ArcadeRents$Arcade" 75 yX7_become ∈ vt_tbl := tb4 (List.mem_of_getElem? (i := 204) rfl) rfl
def D_X7_become : vt_MD := (yX7_become, cX7_become, 2, none)
theorem ok_X7_become : vt_okV D_X7_become 1 := ⟨⟨tb4 (List.mem_of_getElem? (i := 207) rfl) rfl, tb1 (List.mem_of_getElem? (i := 5) rfl) rfl, ⟨by decide, by decide, by decide +kernel⟩, by decide +kernel, by decide⟩, tb4 (List.mem_of_getElem? (i := 205) rfl) rfl, tb4 (List.mem_of_getElem? (i := 206) rfl) rfl⟩
theorem rc_68 {g : vt_GT} : vt_rcv g RX7 (g.2.1 68) := vt_rcvO (ci := 7) (q := (RX7, TX7, _)) rfl rfl
theorem fF_RX0_42 : vt_F "ArcadeRents$Arcade" 42 0 5 := ⟨_, _, _, rfl, by decide, inX0_ok, tb1 (List.mem_of_getElem? (i := 199) rfl) rfl⟩
theorem fl_54_5 : vt_fld 54 0 5 (some 72) := ⟨_, rfl, rfl⟩
theorem fl_1_5 : vt_fld 1 0 5 (some 19) := ⟨_, rfl, rfl⟩
theorem mk_RX0_78 : Cond.methodLink "ArcadeRents$Arcade" 78 yX5_become ∈ vt_tbl := tb4 (List.mem_of_getElem? (i := 209) rfl) rfl
def D_X5_become : vt_MD := (yX5_become, cX5_become, 2, none)
theorem ok_X5_become : vt_okV D_X5_become 1 := ⟨⟨tb4 (List.mem_of_getElem? (i := 212) rfl) rfl, tb1 (List.mem_of_getElem? (i := 6) rfl) rfl, ⟨by decide, by decide, by decide +kernel⟩, by decide +kernel, by decide⟩, tb4 (List.mem_of_getElem? (i := 210) rfl) rfl, tb4 (List.mem_of_getElem? (i := 211) rfl) rfl⟩
theorem rc_72 {g : vt_GT} : vt_rcv g RX5 (g.2.1 72) := vt_rcvO (ci := 5) (q := (RX5, TX5, _)) rfl rfl
theorem fF_RX0_49 : vt_F "ArcadeRents$Arcade" 49 0 6 := ⟨_, _, _, rfl, by decide, inX0_ok, tb1 (List.mem_of_getElem? (i := 202) rfl) rfl⟩
theorem fl_54_6 : vt_fld 54 0 6 (some 78) := ⟨_, rfl, rfl⟩
theorem fl_1_6 : vt_fld 1 0 6 (some 25) := ⟨_, rfl, rfl⟩
theorem mk_RX0_81 : Cond.methodLink "ArcadeRents$Arcade" 81 yX4_become ∈ vt_tbl := tb4 (List.mem_of_getElem? (i := 214) rfl) rfl
def D_X4_become : vt_MD := (yX4_become, cX4_become, 3, none)
theorem ok_X4_become : vt_okV D_X4_become 1 := ⟨⟨tb4 (List.mem_of_getElem? (i := 217) rfl) rfl, tb1 (List.mem_of_getElem? (i := 7) rfl) rfl, ⟨by decide, by decide, by decide +kernel⟩, by decide +kernel, by decide⟩, tb4 (List.mem_of_getElem? (i := 215) rfl) rfl, tb4 (List.mem_of_getElem? (i := 216) rfl) rfl⟩
theorem rc_78 {g : vt_GT} : vt_rcv g RX4 (g.2.1 78) := vt_rcvO (ci := 4) (q := (RX4, TX4, _)) rfl rfl
theorem fF_RX0_53 : vt_F "ArcadeRents$Arcade" 53 0 7 := ⟨_, _, _, rfl, by decide, inX0_ok, tb1 (List.mem_of_getElem? (i := 205) rfl) rfl⟩
theorem fl_1_7 : vt_fld 1 0 7 (some 53) := ⟨_, rfl, rfl⟩
theorem fl_54_7 : vt_fld 54 0 7 (some 106) := ⟨_, rfl, rfl⟩
theorem ar_106 : vt_ar 106 0 12 := ⟨_, rfl⟩
theorem ar_53 : vt_ar 53 0 12 := ⟨_, rfl⟩
theorem fF_RX0_84 : vt_F "ArcadeRents$Arcade" 84 0 8 := ⟨_, _, _, rfl, by decide, inX0_ok, tb1 (List.mem_of_getElem? (i := 207) rfl) rfl⟩
theorem fl_1_8 : vt_fld 1 0 8 none := ⟨_, rfl, rfl⟩
theorem fP_0_8 : vt_FP 0 8 .int := fun C T N h => by cases h; exact ⟨tyX0, tyX0_ok, nmX0, rfl, rfl⟩
theorem fl_54_8 : vt_fld 54 0 8 none := ⟨_, rfl, rfl⟩
theorem fF_RX0_88 : vt_F "ArcadeRents$Arcade" 88 0 9 := ⟨_, _, _, rfl, by decide, inX0_ok, tb1 (List.mem_of_getElem? (i := 209) rfl) rfl⟩
theorem fP_0_9 : vt_FP 0 9 .int := fun C T N h => by cases h; exact ⟨tyX0, tyX0_ok, nmX0, rfl, rfl⟩
theorem fl_54_9 : vt_fld 54 0 9 none := ⟨_, rfl, rfl⟩
theorem rc_4 {g : vt_GT} : vt_rcv g RX3 (g.2.1 4) := vt_rcvO (ci := 3) (q := (RX3, TX3, _)) rfl rfl
theorem rc_15 {g : vt_GT} : vt_rcv g RX7 (g.2.1 15) := vt_rcvO (ci := 7) (q := (RX7, TX7, _)) rfl rfl
theorem rc_19 {g : vt_GT} : vt_rcv g RX5 (g.2.1 19) := vt_rcvO (ci := 5) (q := (RX5, TX5, _)) rfl rfl
theorem rc_25 {g : vt_GT} : vt_rcv g RX4 (g.2.1 25) := vt_rcvO (ci := 4) (q := (RX4, TX4, _)) rfl rfl
def D_X1_work : vt_MD := (yX1_work, cX1_work, 10, some .int)
theorem ok_X1_work : vt_okV D_X1_work 4 := ⟨⟨tb4 (List.mem_of_getElem? (i := 59) rfl) rfl, tb1 (List.mem_of_getElem? (i := 12) rfl) rfl, ⟨by decide, by decide, by decide +kernel⟩, by decide +kernel, by decide⟩, tb4 (List.mem_of_getElem? (i := 57) rfl) rfl, tb4 (List.mem_of_getElem? (i := 58) rfl) rfl⟩
theorem fF_RX1_15 : vt_F "ArcadeRents$Calc" 15 2 0 := ⟨_, _, _, rfl, by decide, inX2_ok, tb2 (List.mem_of_getElem? (i := 59) rfl) rfl⟩
theorem fF_RX1_21 : vt_F "ArcadeRents$Calc" 21 0 6 := ⟨_, _, _, rfl, by decide, inX0_ok, tb1 (List.mem_of_getElem? (i := 203) rfl) rfl⟩
theorem fF_RX1_27 : vt_F "ArcadeRents$Calc" 27 4 2 := ⟨_, _, _, rfl, by decide, inX4_ok, tb1 (List.mem_of_getElem? (i := 169) rfl) rfl⟩
theorem fl_25_2 : vt_fld 25 4 2 (some 40) := ⟨_, rfl, rfl⟩
theorem ar2_40 : vt_ar2 40 4 12 41 := rfl
theorem rwN_40 : ∀ i, i < 12 → vt_lay[41 + i]? = some (.inl (0, 3, 0)) := fun i hi => by
  match i, hi with
  | 0, _ => rfl
  | 1, _ => rfl
  | 2, _ => rfl
  | 3, _ => rfl
  | 4, _ => rfl
  | 5, _ => rfl
  | 6, _ => rfl
  | 7, _ => rfl
  | 8, _ => rfl
  | 9, _ => rfl
  | 10, _ => rfl
  | 11, _ => rfl
theorem rw_40 {x : Int32} (h : vp_in x 12) : vt_ar (41 + x.toNatClampNeg) 0 3 := ⟨0, rwN_40 _ (Nat.not_le.mp fun q => h (Or.inr q))⟩
theorem fF_RX1_33 : vt_F "ArcadeRents$Calc" 33 1 1 := ⟨_, _, _, rfl, by decide, inX1_ok, tb2 (List.mem_of_getElem? (i := 100) rfl) rfl⟩
theorem fP_1_1 : vt_FP 1 1 .int := fun C T N h => by cases h; exact ⟨tyX1, tyX1_ok, nmX1, rfl, rfl⟩
theorem fl_121_1 : vt_fld 121 1 1 none := ⟨_, rfl, rfl⟩
theorem fF_RX1_9 : vt_F "ArcadeRents$Calc" 9 1 0 := ⟨_, _, _, rfl, by decide, inX1_ok, tb2 (List.mem_of_getElem? (i := 99) rfl) rfl⟩
theorem fl_121_0 : vt_fld 121 1 0 (some 122) := ⟨_, rfl, rfl⟩
theorem ar_122 : vt_ar 122 0 132 := ⟨_, rfl⟩
theorem fF_RX1_37 : vt_F "ArcadeRents$Calc" 37 4 1 := ⟨_, _, _, rfl, by decide, inX4_ok, tb1 (List.mem_of_getElem? (i := 167) rfl) rfl⟩
theorem fl_25_1 : vt_fld 25 4 1 (some 27) := ⟨_, rfl, rfl⟩
theorem ar2_27 : vt_ar2 27 4 12 28 := rfl
theorem rwN_27 : ∀ i, i < 12 → vt_lay[28 + i]? = some (.inl (0, 132, 0)) := fun i hi => by
  match i, hi with
  | 0, _ => rfl
  | 1, _ => rfl
  | 2, _ => rfl
  | 3, _ => rfl
  | 4, _ => rfl
  | 5, _ => rfl
  | 6, _ => rfl
  | 7, _ => rfl
  | 8, _ => rfl
  | 9, _ => rfl
  | 10, _ => rfl
  | 11, _ => rfl
theorem rw_27 {x : Int32} (h : vp_in x 12) : vt_ar (28 + x.toNatClampNeg) 0 132 := ⟨0, rwN_27 _ (Nat.not_le.mp fun q => h (Or.inr q))⟩
theorem mk_RX1_48 : Cond.methodLink "ArcadeRents$Calc" 48 yX1_apply ∈ vt_tbl := tb4 (List.mem_of_getElem? (i := 73) rfl) rfl
def D_X1_apply : vt_MD := (yX1_apply, cX1_apply, 2, none)
theorem ok_X1_apply : vt_okV D_X1_apply 1 := ⟨⟨tb4 (List.mem_of_getElem? (i := 76) rfl) rfl, tb1 (List.mem_of_getElem? (i := 12) rfl) rfl, ⟨by decide, by decide, by decide +kernel⟩, by decide +kernel, by decide⟩, tb4 (List.mem_of_getElem? (i := 75) rfl) rfl, vt_in (List.mem_append_left _ (List.mem_of_getElem? (i := 14) (by rfl))) rfl⟩
theorem rc_121 {g : vt_GT} : vt_rcv g RX1 (g.2.1 121) := vt_rcvO (ci := 1) (q := (RX1, TX1, _)) rfl rfl
theorem mk_RX1_44 : Cond.methodLink "ArcadeRents$Calc" 44 yX1_valueOf ∈ vt_tbl := tb4 (List.mem_of_getElem? (i := 64) rfl) rfl
def D_X1_valueOf : vt_MD := (yX1_valueOf, cX1_valueOf, 5, some .int)
theorem ok_X1_valueOf : vt_okS D_X1_valueOf 4 := ⟨⟨tb4 (List.mem_of_getElem? (i := 66) rfl) rfl, tb1 (List.mem_of_getElem? (i := 12) rfl) rfl, ⟨by decide, by decide, by decide +kernel⟩, by decide +kernel, by decide⟩, tb4 (List.mem_of_getElem? (i := 65) rfl) rfl⟩
theorem mk_RX1_40 : Cond.methodLink "ArcadeRents$Calc" 40 yX1_push ∈ vt_tbl := tb4 (List.mem_of_getElem? (i := 60) rfl) rfl
def D_X1_push : vt_MD := (yX1_push, cX1_push, 2, none)
theorem ok_X1_push : vt_okV D_X1_push 1 := ⟨⟨tb4 (List.mem_of_getElem? (i := 63) rfl) rfl, tb1 (List.mem_of_getElem? (i := 12) rfl) rfl, ⟨by decide, by decide, by decide +kernel⟩, by decide +kernel, by decide⟩, tb4 (List.mem_of_getElem? (i := 62) rfl) rfl, vt_in (List.mem_append_left _ (List.mem_of_getElem? (i := 13) (by rfl))) rfl⟩
theorem mk_RX1_51 : Cond.methodLink "ArcadeRents$Calc" 51 yX1_join ∈ vt_tbl := tb4 (List.mem_of_getElem? (i := 77) rfl) rfl
theorem fF_RX1_55 : vt_F "ArcadeRents$Calc" 55 2 3 := ⟨_, _, _, rfl, by decide, inX2_ok, tb2 (List.mem_of_getElem? (i := 67) rfl) rfl⟩
theorem ct_RX1_58 : Cond.constant "ArcadeRents$Calc" 58 (-1000000005) ∈ vt_tbl := tb4 (List.mem_of_getElem? (i := 67) rfl) rfl
theorem fF_RX1_100 : vt_F "ArcadeRents$Calc" 100 2 5 := ⟨_, _, _, rfl, by decide, inX2_ok, tb2 (List.mem_of_getElem? (i := 73) rfl) rfl⟩
theorem fl_116_5 : vt_fld 116 2 5 (some 119) := ⟨_, rfl, rfl⟩
theorem ar_119 : vt_ar 119 0 12 := ⟨_, rfl⟩
theorem mk_RX1_96 : Cond.methodLink "ArcadeRents$Calc" 96 yX2_rivalNear ∈ vt_tbl := tb4 (List.mem_of_getElem? (i := 72) rfl) rfl
def D_X2_rivalNear : vt_MD := (yX2_rivalNear, cX2_rivalNear, 6, some .boolean)
theorem ok_X2_rivalNear : vt_okV D_X2_rivalNear 1 := ⟨⟨tb3 (List.mem_of_getElem? (i := 62) rfl) rfl, tb1 (List.mem_of_getElem? (i := 11) rfl) rfl, ⟨by decide, by decide, by decide +kernel⟩, by decide +kernel, by decide⟩, tb3 (List.mem_of_getElem? (i := 60) rfl) rfl, tb3 (List.mem_of_getElem? (i := 61) rfl) rfl⟩
theorem rc_116 {g : vt_GT} : vt_rcv g RX2 (g.2.1 116) := vt_rcvO (ci := 2) (q := (RX2, TX2, _)) rfl rfl
theorem fF_RX1_81 : vt_F "ArcadeRents$Calc" 81 2 6 := ⟨_, _, _, rfl, by decide, inX2_ok, tb2 (List.mem_of_getElem? (i := 76) rfl) rfl⟩
theorem fl_116_6 : vt_fld 116 2 6 (some 120) := ⟨_, rfl, rfl⟩
theorem ar_120 : vt_ar 120 0 12 := ⟨_, rfl⟩
theorem fF_RX1_59 : vt_F "ArcadeRents$Calc" 59 0 5 := ⟨_, _, _, rfl, by decide, inX0_ok, tb1 (List.mem_of_getElem? (i := 200) rfl) rfl⟩
theorem fF_RX1_63 : vt_F "ArcadeRents$Calc" 63 2 1 := ⟨_, _, _, rfl, by decide, inX2_ok, tb2 (List.mem_of_getElem? (i := 62) rfl) rfl⟩
theorem fl_116_1 : vt_fld 116 2 1 none := ⟨_, rfl, rfl⟩
theorem mk_RX1_66 : Cond.methodLink "ArcadeRents$Calc" 66 yX5_sum ∈ vt_tbl := tb4 (List.mem_of_getElem? (i := 68) rfl) rfl
def D_X5_sum : vt_MD := (yX5_sum, cX5_sum, 6, some .int)
theorem ok_X5_sum : vt_okV D_X5_sum 3 := ⟨⟨tb3 (List.mem_of_getElem? (i := 99) rfl) rfl, tb1 (List.mem_of_getElem? (i := 6) rfl) rfl, ⟨by decide, by decide, by decide +kernel⟩, by decide +kernel, by decide⟩, tb3 (List.mem_of_getElem? (i := 97) rfl) rfl, tb3 (List.mem_of_getElem? (i := 98) rfl) rfl⟩
theorem mk_RX1_78 : Cond.methodLink "ArcadeRents$Calc" 78 yX2_others ∈ vt_tbl := tb4 (List.mem_of_getElem? (i := 70) rfl) rfl
theorem mk_RX1_93 : Cond.methodLink "ArcadeRents$Calc" 93 yX2_beside ∈ vt_tbl := tb4 (List.mem_of_getElem? (i := 71) rfl) rfl
def D_X2_beside : vt_MD := (yX2_beside, cX2_beside, 3, some .int)
theorem ok_X2_beside : vt_okV D_X2_beside 1 := ⟨⟨tb3 (List.mem_of_getElem? (i := 58) rfl) rfl, tb1 (List.mem_of_getElem? (i := 11) rfl) rfl, ⟨by decide, by decide, by decide +kernel⟩, by decide +kernel, by decide⟩, tb3 (List.mem_of_getElem? (i := 56) rfl) rfl, tb3 (List.mem_of_getElem? (i := 57) rfl) rfl⟩
theorem fF_RX1_84 : vt_F "ArcadeRents$Calc" 84 0 3 := ⟨_, _, _, rfl, by decide, inX0_ok, tb1 (List.mem_of_getElem? (i := 195) rfl) rfl⟩
theorem fF_RX1_88 : vt_F "ArcadeRents$Calc" 88 10 0 := ⟨_, _, _, rfl, by decide, inX10_ok, tb1 (List.mem_of_getElem? (i := 65) rfl) rfl⟩
theorem fl_7_0 : vt_fld 7 10 0 (some 8) := ⟨_, rfl, rfl⟩
theorem ar_8 : vt_ar 8 0 12 := ⟨_, rfl⟩
theorem fF_RX1_71 : vt_F "ArcadeRents$Calc" 71 0 0 := ⟨_, _, _, rfl, by decide, inX0_ok, tb1 (List.mem_of_getElem? (i := 184) rfl) rfl⟩
theorem mk_RX1_74 : Cond.methodLink "ArcadeRents$Calc" 74 yX2_anchors ∈ vt_tbl := tb4 (List.mem_of_getElem? (i := 69) rfl) rfl
def D_X2_anchors : vt_MD := (yX2_anchors, cX2_anchors, 5, some .int)
theorem ok_X2_anchors : vt_okV D_X2_anchors 1 := ⟨⟨tb3 (List.mem_of_getElem? (i := 54) rfl) rfl, tb1 (List.mem_of_getElem? (i := 11) rfl) rfl, ⟨by decide, by decide, by decide +kernel⟩, by decide +kernel, by decide⟩, tb3 (List.mem_of_getElem? (i := 52) rfl) rfl, tb3 (List.mem_of_getElem? (i := 53) rfl) rfl⟩
def D_X2_look : vt_MD := (yX2_look, cX2_look, 4, none)
theorem ok_X2_look : vt_okV D_X2_look 1 := ⟨⟨tb3 (List.mem_of_getElem? (i := 11) rfl) rfl, tb1 (List.mem_of_getElem? (i := 11) rfl) rfl, ⟨by decide, by decide, by decide +kernel⟩, by decide +kernel, by decide⟩, tb3 (List.mem_of_getElem? (i := 9) rfl) rfl, tb3 (List.mem_of_getElem? (i := 10) rfl) rfl⟩
theorem fF_RX2_28 : vt_F "ArcadeRents$Crowd" 28 2 1 := ⟨_, _, _, rfl, by decide, inX2_ok, tb2 (List.mem_of_getElem? (i := 61) rfl) rfl⟩
theorem fP_2_1 : vt_FP 2 1 .int := fun C T N h => by cases h; exact ⟨tyX2, tyX2_ok, nmX2, rfl, rfl⟩
theorem mk_RX2_33 : Cond.methodLink "ArcadeRents$Crowd" 33 yJ7_fill_53178 ∈ vt_tbl := tb3 (List.mem_of_getElem? (i := 13) rfl) rfl
theorem fF_RX2_39 : vt_F "ArcadeRents$Crowd" 39 0 4 := ⟨_, _, _, rfl, by decide, inX0_ok, tb1 (List.mem_of_getElem? (i := 197) rfl) rfl⟩
theorem fF_RX2_45 : vt_F "ArcadeRents$Crowd" 45 7 3 := ⟨_, _, _, rfl, by decide, inX7_ok, tb1 (List.mem_of_getElem? (i := 114) rfl) rfl⟩
theorem fl_15_3 : vt_fld 15 7 3 none := ⟨_, rfl, rfl⟩
theorem mk_RX2_58 : Cond.methodLink "ArcadeRents$Crowd" 58 yX2_settle ∈ vt_tbl := tb3 (List.mem_of_getElem? (i := 14) rfl) rfl
def D_X2_settle : vt_MD := (yX2_settle, cX2_settle, 4, none)
theorem ok_X2_settle : vt_okV D_X2_settle 0 := ⟨⟨tb3 (List.mem_of_getElem? (i := 17) rfl) rfl, tb1 (List.mem_of_getElem? (i := 11) rfl) rfl, ⟨by decide, by decide, by decide +kernel⟩, by decide +kernel, by decide⟩, tb3 (List.mem_of_getElem? (i := 16) rfl) rfl, vt_in (List.mem_append_left _ (List.mem_of_getElem? (i := 0) (by rfl))) rfl⟩
theorem fF_RX2_50 : vt_F "ArcadeRents$Crowd" 50 7 1 := ⟨_, _, _, rfl, by decide, inX7_ok, tb1 (List.mem_of_getElem? (i := 110) rfl) rfl⟩
theorem fl_15_1 : vt_fld 15 7 1 (some 17) := ⟨_, rfl, rfl⟩
theorem ar_17 : vt_ar 17 0 200 := ⟨_, rfl⟩
theorem fF_RX2_52 : vt_F "ArcadeRents$Crowd" 52 7 0 := ⟨_, _, _, rfl, by decide, inX7_ok, tb1 (List.mem_of_getElem? (i := 108) rfl) rfl⟩
theorem fl_15_0 : vt_fld 15 7 0 (some 16) := ⟨_, rfl, rfl⟩
theorem ar_16 : vt_ar 16 0 200 := ⟨_, rfl⟩
theorem fF_RX2_55 : vt_F "ArcadeRents$Crowd" 55 7 2 := ⟨_, _, _, rfl, by decide, inX7_ok, tb1 (List.mem_of_getElem? (i := 112) rfl) rfl⟩
theorem fl_15_2 : vt_fld 15 7 2 (some 18) := ⟨_, rfl, rfl⟩
theorem ar_18 : vt_ar 18 0 200 := ⟨_, rfl⟩
def D_X2_sendOut : vt_MD := (yX2_sendOut, cX2_sendOut, 2, none)
theorem ok_X2_sendOut : vt_okV D_X2_sendOut 1 := ⟨⟨tb4 (List.mem_of_getElem? (i := 109) rfl) rfl, tb1 (List.mem_of_getElem? (i := 11) rfl) rfl, ⟨by decide, by decide, by decide +kernel⟩, by decide +kernel, by decide⟩, tb4 (List.mem_of_getElem? (i := 107) rfl) rfl, tb4 (List.mem_of_getElem? (i := 108) rfl) rfl⟩
theorem fF_RX2_15 : vt_F "ArcadeRents$Crowd" 15 2 4 := ⟨_, _, _, rfl, by decide, inX2_ok, tb2 (List.mem_of_getElem? (i := 69) rfl) rfl⟩
theorem fl_116_4 : vt_fld 116 2 4 (some 118) := ⟨_, rfl, rfl⟩
theorem fF_RX2_18 : vt_F "ArcadeRents$Crowd" 18 2 5 := ⟨_, _, _, rfl, by decide, inX2_ok, tb2 (List.mem_of_getElem? (i := 72) rfl) rfl⟩
theorem fF_RX2_21 : vt_F "ArcadeRents$Crowd" 21 2 6 := ⟨_, _, _, rfl, by decide, inX2_ok, tb2 (List.mem_of_getElem? (i := 75) rfl) rfl⟩
theorem fP_2_2 : vt_FP 2 2 .int := fun C T N h => by cases h; exact ⟨tyX2, tyX2_ok, nmX2, rfl, rfl⟩
theorem fF_RX2_68 : vt_F "ArcadeRents$Crowd" 68 10 7 := ⟨_, _, _, rfl, by decide, inX10_ok, tb1 (List.mem_of_getElem? (i := 82) rfl) rfl⟩
theorem ar_118 : vt_ar 118 0 12 := ⟨_, rfl⟩
theorem fF_RX2_71 : vt_F "ArcadeRents$Crowd" 71 10 2 := ⟨_, _, _, rfl, by decide, inX10_ok, tb1 (List.mem_of_getElem? (i := 71) rfl) rfl⟩
theorem fl_7_2 : vt_fld 7 10 2 (some 10) := ⟨_, rfl, rfl⟩
theorem ar_10 : vt_ar 10 0 12 := ⟨_, rfl⟩
theorem fF_RX2_74 : vt_F "ArcadeRents$Crowd" 74 0 2 := ⟨_, _, _, rfl, by decide, inX0_ok, tb1 (List.mem_of_getElem? (i := 190) rfl) rfl⟩
theorem fF_RX2_78 : vt_F "ArcadeRents$Crowd" 78 3 2 := ⟨_, _, _, rfl, by decide, inX3_ok, tb1 (List.mem_of_getElem? (i := 49) rfl) rfl⟩
theorem mk_RX2_81 : Cond.methodLink "ArcadeRents$Crowd" 81 yX2_walk ∈ vt_tbl := tb3 (List.mem_of_getElem? (i := 18) rfl) rfl
def D_X2_walk : vt_MD := (yX2_walk, cX2_walk, 9, none)
theorem ok_X2_walk : vt_okV D_X2_walk 3 := ⟨⟨tb3 (List.mem_of_getElem? (i := 21) rfl) rfl, tb1 (List.mem_of_getElem? (i := 11) rfl) rfl, ⟨by decide, by decide, by decide +kernel⟩, by decide +kernel, by decide⟩, tb3 (List.mem_of_getElem? (i := 20) rfl) rfl, vt_in (List.mem_append_left _ (List.mem_of_getElem? (i := 1) (by rfl))) rfl⟩
theorem fF_RX2_85 : vt_F "ArcadeRents$Crowd" 85 3 1 := ⟨_, _, _, rfl, by decide, inX3_ok, tb1 (List.mem_of_getElem? (i := 45) rfl) rfl⟩
theorem fl_4_1 : vt_fld 4 3 1 (some 6) := ⟨_, rfl, rfl⟩
theorem ar_6 : vt_ar 6 0 4 := ⟨_, rfl⟩
theorem fF_RX2_88 : vt_F "ArcadeRents$Crowd" 88 3 0 := ⟨_, _, _, rfl, by decide, inX3_ok, tb1 (List.mem_of_getElem? (i := 43) rfl) rfl⟩
theorem fl_4_0 : vt_fld 4 3 0 (some 5) := ⟨_, rfl, rfl⟩
theorem ar_5 : vt_ar 5 0 4 := ⟨_, rfl⟩
def D_X2_foretold : vt_MD := (yX2_foretold, cX2_foretold, 4, some .int)
theorem ok_X2_foretold : vt_okV D_X2_foretold 1 := ⟨⟨tb3 (List.mem_of_getElem? (i := 46) rfl) rfl, tb1 (List.mem_of_getElem? (i := 11) rfl) rfl, ⟨by decide, by decide, by decide +kernel⟩, by decide +kernel, by decide⟩, tb3 (List.mem_of_getElem? (i := 44) rfl) rfl, tb3 (List.mem_of_getElem? (i := 45) rfl) rfl⟩
theorem fF_RX2_89 : vt_F "ArcadeRents$Crowd" 89 10 3 := ⟨_, _, _, rfl, by decide, inX10_ok, tb1 (List.mem_of_getElem? (i := 73) rfl) rfl⟩
theorem fl_7_3 : vt_fld 7 10 3 (some 11) := ⟨_, rfl, rfl⟩
theorem ar_11 : vt_ar 11 0 12 := ⟨_, rfl⟩
theorem fF_RX2_92 : vt_F "ArcadeRents$Crowd" 92 10 5 := ⟨_, _, _, rfl, by decide, inX10_ok, tb1 (List.mem_of_getElem? (i := 77) rfl) rfl⟩
theorem fl_7_5 : vt_fld 7 10 5 (some 13) := ⟨_, rfl, rfl⟩
theorem ar_13 : vt_ar 13 0 12 := ⟨_, rfl⟩
theorem fF_RX2_95 : vt_F "ArcadeRents$Crowd" 95 10 0 := ⟨_, _, _, rfl, by decide, inX10_ok, tb1 (List.mem_of_getElem? (i := 67) rfl) rfl⟩
theorem fF_RX2_98 : vt_F "ArcadeRents$Crowd" 98 10 1 := ⟨_, _, _, rfl, by decide, inX10_ok, tb1 (List.mem_of_getElem? (i := 69) rfl) rfl⟩
theorem fF_RX2_107 : vt_F "ArcadeRents$Crowd" 107 10 4 := ⟨_, _, _, rfl, by decide, inX10_ok, tb1 (List.mem_of_getElem? (i := 75) rfl) rfl⟩
def D_X2_chargedFeet : vt_MD := (yX2_chargedFeet, cX2_chargedFeet, 3, some .int)
theorem ok_X2_chargedFeet : vt_okV D_X2_chargedFeet 1 := ⟨⟨tb4 (List.mem_of_getElem? (i := 93) rfl) rfl, tb1 (List.mem_of_getElem? (i := 11) rfl) rfl, ⟨by decide, by decide, by decide +kernel⟩, by decide +kernel, by decide⟩, tb4 (List.mem_of_getElem? (i := 91) rfl) rfl, tb4 (List.mem_of_getElem? (i := 92) rfl) rfl⟩
theorem fF_RX2_114 : vt_F "ArcadeRents$Crowd" 114 0 0 := ⟨_, _, _, rfl, by decide, inX0_ok, tb1 (List.mem_of_getElem? (i := 185) rfl) rfl⟩
def D_X3_add : vt_MD := (yX3_add, cX3_add, 3, some .int)
theorem ok_X3_add : vt_okV D_X3_add 2 := ⟨⟨tb2 (List.mem_of_getElem? (i := 217) rfl) rfl, tb1 (List.mem_of_getElem? (i := 3) rfl) rfl, ⟨by decide, by decide, by decide +kernel⟩, by decide +kernel, by decide⟩, tb2 (List.mem_of_getElem? (i := 215) rfl) rfl, tb2 (List.mem_of_getElem? (i := 216) rfl) rfl⟩
theorem fF_RX3_9 : vt_F "ArcadeRents$Doors" 9 3 0 := ⟨_, _, _, rfl, by decide, inX3_ok, tb1 (List.mem_of_getElem? (i := 42) rfl) rfl⟩
theorem fF_RX3_15 : vt_F "ArcadeRents$Doors" 15 3 1 := ⟨_, _, _, rfl, by decide, inX3_ok, tb1 (List.mem_of_getElem? (i := 44) rfl) rfl⟩
theorem fP_3_2 : vt_FP 3 2 .int := fun C T N h => by cases h; exact ⟨tyX3, tyX3_ok, nmX3, rfl, rfl⟩
theorem fl_57_0 : vt_fld 57 3 0 (some 58) := ⟨_, rfl, rfl⟩
theorem mk_RX3_22 : Cond.methodLink "ArcadeRents$Doors" 22 arraycopyName ∈ vt_tbl := tb4 (List.mem_of_getElem? (i := 198) rfl) rfl
theorem ar_58 : vt_ar 58 0 4 := ⟨_, rfl⟩
theorem fl_57_1 : vt_fld 57 3 1 (some 59) := ⟨_, rfl, rfl⟩
theorem ar_59 : vt_ar 59 0 4 := ⟨_, rfl⟩
theorem fl_57_2 : vt_fld 57 3 2 none := ⟨_, rfl, rfl⟩
def D_X4_store : vt_MD := (yX4_store, cX4_store, 3, none)
theorem ok_X4_store : vt_okV D_X4_store 2 := ⟨⟨tb4 (List.mem_of_getElem? (i := 40) rfl) rfl, tb1 (List.mem_of_getElem? (i := 7) rfl) rfl, ⟨by decide, by decide, by decide +kernel⟩, by decide +kernel, by decide⟩, tb4 (List.mem_of_getElem? (i := 38) rfl) rfl, tb4 (List.mem_of_getElem? (i := 39) rfl) rfl⟩
theorem fF_RX4_23 : vt_F "ArcadeRents$Leases" 23 8 1 := ⟨_, _, _, rfl, by decide, inX8_ok, tb2 (List.mem_of_getElem? (i := 1) rfl) rfl⟩
theorem fl_107_1 : vt_fld 107 8 1 (some 108) := ⟨_, rfl, rfl⟩
theorem fF_RX4_17 : vt_F "ArcadeRents$Leases" 17 4 1 := ⟨_, _, _, rfl, by decide, inX4_ok, tb1 (List.mem_of_getElem? (i := 166) rfl) rfl⟩
theorem mk_RX4_28 : Cond.methodLink "ArcadeRents$Leases" 28 arraycopyName ∈ vt_tbl := tb4 (List.mem_of_getElem? (i := 41) rfl) rfl
theorem ar_108 : vt_ar 108 0 132 := ⟨_, rfl⟩
theorem fF_RX4_34 : vt_F "ArcadeRents$Leases" 34 8 2 := ⟨_, _, _, rfl, by decide, inX8_ok, tb2 (List.mem_of_getElem? (i := 3) rfl) rfl⟩
theorem fl_107_2 : vt_fld 107 8 2 (some 109) := ⟨_, rfl, rfl⟩
theorem fF_RX4_20 : vt_F "ArcadeRents$Leases" 20 4 2 := ⟨_, _, _, rfl, by decide, inX4_ok, tb1 (List.mem_of_getElem? (i := 168) rfl) rfl⟩
theorem ar_109 : vt_ar 109 0 3 := ⟨_, rfl⟩
theorem fF_RX4_9 : vt_F "ArcadeRents$Leases" 9 4 0 := ⟨_, _, _, rfl, by decide, inX4_ok, tb1 (List.mem_of_getElem? (i := 164) rfl) rfl⟩
theorem fl_25_0 : vt_fld 25 4 0 (some 26) := ⟨_, rfl, rfl⟩
theorem ar_26 : vt_ar 26 3 12 := ⟨_, rfl⟩
def D_X4_countHeld : vt_MD := (yX4_countHeld, cX4_countHeld, 3, some .int)
theorem ok_X4_countHeld : vt_okV D_X4_countHeld 0 := ⟨⟨tb5 (List.mem_of_getElem? (i := 23) rfl) rfl, tb1 (List.mem_of_getElem? (i := 7) rfl) rfl, ⟨by decide, by decide, by decide +kernel⟩, by decide +kernel, by decide⟩, tb5 (List.mem_of_getElem? (i := 21) rfl) rfl, tb5 (List.mem_of_getElem? (i := 22) rfl) rfl⟩
theorem fl_78_0 : vt_fld 78 4 0 (some 79) := ⟨_, rfl, rfl⟩
theorem ar_79 : vt_ar 79 3 12 := ⟨_, rfl⟩
theorem fl_78_1 : vt_fld 78 4 1 (some 80) := ⟨_, rfl, rfl⟩
theorem ar2_80 : vt_ar2 80 4 12 81 := rfl
theorem rwN_80 : ∀ i, i < 12 → vt_lay[81 + i]? = some (.inl (0, 132, 0)) := fun i hi => by
  match i, hi with
  | 0, _ => rfl
  | 1, _ => rfl
  | 2, _ => rfl
  | 3, _ => rfl
  | 4, _ => rfl
  | 5, _ => rfl
  | 6, _ => rfl
  | 7, _ => rfl
  | 8, _ => rfl
  | 9, _ => rfl
  | 10, _ => rfl
  | 11, _ => rfl
theorem rw_80 {x : Int32} (h : vp_in x 12) : vt_ar (81 + x.toNatClampNeg) 0 132 := ⟨0, rwN_80 _ (Nat.not_le.mp fun q => h (Or.inr q))⟩
theorem fl_78_2 : vt_fld 78 4 2 (some 93) := ⟨_, rfl, rfl⟩
theorem ar2_93 : vt_ar2 93 4 12 94 := rfl
theorem rwN_93 : ∀ i, i < 12 → vt_lay[94 + i]? = some (.inl (0, 3, 0)) := fun i hi => by
  match i, hi with
  | 0, _ => rfl
  | 1, _ => rfl
  | 2, _ => rfl
  | 3, _ => rfl
  | 4, _ => rfl
  | 5, _ => rfl
  | 6, _ => rfl
  | 7, _ => rfl
  | 8, _ => rfl
  | 9, _ => rfl
  | 10, _ => rfl
  | 11, _ => rfl
theorem rw_93 {x : Int32} (h : vp_in x 12) : vt_ar (94 + x.toNatClampNeg) 0 3 := ⟨0, rwN_93 _ (Nat.not_le.mp fun q => h (Or.inr q))⟩
def D_X5_add : vt_MD := (yX5_add, cX5_add, 5, some .int)
theorem ok_X5_add : vt_okV D_X5_add 4 := ⟨⟨tb3 (List.mem_of_getElem? (i := 78) rfl) rfl, tb1 (List.mem_of_getElem? (i := 6) rfl) rfl, ⟨by decide, by decide, by decide +kernel⟩, by decide +kernel, by decide⟩, tb3 (List.mem_of_getElem? (i := 76) rfl) rfl, tb3 (List.mem_of_getElem? (i := 77) rfl) rfl⟩
theorem fF_RX5_9 : vt_F "ArcadeRents$Lines" 9 5 0 := ⟨_, _, _, rfl, by decide, inX5_ok, tb1 (List.mem_of_getElem? (i := 131) rfl) rfl⟩
theorem fl_19_0 : vt_fld 19 5 0 (some 20) := ⟨_, rfl, rfl⟩
theorem ar_20 : vt_ar 20 0 100 := ⟨_, rfl⟩
theorem fF_RX5_15 : vt_F "ArcadeRents$Lines" 15 5 1 := ⟨_, _, _, rfl, by decide, inX5_ok, tb1 (List.mem_of_getElem? (i := 133) rfl) rfl⟩
theorem fl_19_1 : vt_fld 19 5 1 (some 21) := ⟨_, rfl, rfl⟩
theorem ar_21 : vt_ar 21 0 100 := ⟨_, rfl⟩
theorem fF_RX5_18 : vt_F "ArcadeRents$Lines" 18 5 2 := ⟨_, _, _, rfl, by decide, inX5_ok, tb1 (List.mem_of_getElem? (i := 135) rfl) rfl⟩
theorem fl_19_2 : vt_fld 19 5 2 (some 22) := ⟨_, rfl, rfl⟩
theorem ar_22 : vt_ar 22 0 100 := ⟨_, rfl⟩
theorem fP_5_5 : vt_FP 5 5 .int := fun C T N h => by cases h; exact ⟨tyX5, tyX5_ok, nmX5, rfl, rfl⟩
theorem mk_RX5_36 : Cond.methodLink "ArcadeRents$Lines" 36 Lib.Math.max.name ∈ vt_tbl := tb3 (List.mem_of_getElem? (i := 104) rfl) rfl
theorem mk_RX5_32 : Cond.methodLink "ArcadeRents$Lines" 32 yX5_counts ∈ vt_tbl := tb3 (List.mem_of_getElem? (i := 100) rfl) rfl
def D_X5_countWithdrawn : vt_MD := (yX5_countWithdrawn, cX5_countWithdrawn, 3, some .int)
theorem ok_X5_countWithdrawn : vt_okV D_X5_countWithdrawn 0 := ⟨⟨tb5 (List.mem_of_getElem? (i := 19) rfl) rfl, tb1 (List.mem_of_getElem? (i := 6) rfl) rfl, ⟨by decide, by decide, by decide +kernel⟩, by decide +kernel, by decide⟩, tb5 (List.mem_of_getElem? (i := 17) rfl) rfl, tb5 (List.mem_of_getElem? (i := 18) rfl) rfl⟩
theorem fl_72_0 : vt_fld 72 5 0 (some 73) := ⟨_, rfl, rfl⟩
theorem mk_RX5_42 : Cond.methodLink "ArcadeRents$Lines" 42 arraycopyName ∈ vt_tbl := tb4 (List.mem_of_getElem? (i := 213) rfl) rfl
theorem ar_73 : vt_ar 73 0 100 := ⟨_, rfl⟩
theorem fl_72_1 : vt_fld 72 5 1 (some 74) := ⟨_, rfl, rfl⟩
theorem ar_74 : vt_ar 74 0 100 := ⟨_, rfl⟩
theorem fl_72_2 : vt_fld 72 5 2 (some 75) := ⟨_, rfl, rfl⟩
theorem ar_75 : vt_ar 75 0 100 := ⟨_, rfl⟩
theorem fl_72_3 : vt_fld 72 5 3 (some 76) := ⟨_, rfl, rfl⟩
theorem ar_76 : vt_ar 76 0 100 := ⟨_, rfl⟩
theorem fl_72_4 : vt_fld 72 5 4 (some 77) := ⟨_, rfl, rfl⟩
theorem ar_77 : vt_ar 77 0 100 := ⟨_, rfl⟩
theorem fl_72_5 : vt_fld 72 5 5 none := ⟨_, rfl, rfl⟩
def D_X6_search : vt_MD := (yX6_search, cX6_search, 4, some .boolean)
theorem ok_X6_search : vt_okV D_X6_search 2 := ⟨⟨tb4 (List.mem_of_getElem? (i := 146) rfl) rfl, tb1 (List.mem_of_getElem? (i := 13) rfl) rfl, ⟨by decide, by decide, by decide +kernel⟩, by decide +kernel, by decide⟩, tb4 (List.mem_of_getElem? (i := 144) rfl) rfl, tb4 (List.mem_of_getElem? (i := 145) rfl) rfl⟩
theorem fF_RX6_29 : vt_F "ArcadeRents$Mix" 29 6 8 := ⟨_, _, _, rfl, by decide, inX6_ok, tb2 (List.mem_of_getElem? (i := 123) rfl) rfl⟩
theorem fP_6_8 : vt_FP 6 8 .int := fun C T N h => by cases h; exact ⟨tyX6, tyX6_ok, nmX6, rfl, rfl⟩
theorem fl_123_8 : vt_fld 123 6 8 none := ⟨_, rfl, rfl⟩
theorem fF_RX6_33 : vt_F "ArcadeRents$Mix" 33 6 7 := ⟨_, _, _, rfl, by decide, inX6_ok, tb2 (List.mem_of_getElem? (i := 122) rfl) rfl⟩
theorem fP_6_7 : vt_FP 6 7 .int := fun C T N h => by cases h; exact ⟨tyX6, tyX6_ok, nmX6, rfl, rfl⟩
theorem fl_123_7 : vt_fld 123 6 7 none := ⟨_, rfl, rfl⟩
theorem fF_RX6_36 : vt_F "ArcadeRents$Mix" 36 6 1 := ⟨_, _, _, rfl, by decide, inX6_ok, tb2 (List.mem_of_getElem? (i := 115) rfl) rfl⟩
theorem fP_6_1 : vt_FP 6 1 .int := fun C T N h => by cases h; exact ⟨tyX6, tyX6_ok, nmX6, rfl, rfl⟩
theorem fl_123_1 : vt_fld 123 6 1 none := ⟨_, rfl, rfl⟩
theorem fF_RX6_39 : vt_F "ArcadeRents$Mix" 39 6 2 := ⟨_, _, _, rfl, by decide, inX6_ok, tb2 (List.mem_of_getElem? (i := 117) rfl) rfl⟩
theorem fP_6_2 : vt_FP 6 2 .int := fun C T N h => by cases h; exact ⟨tyX6, tyX6_ok, nmX6, rfl, rfl⟩
theorem fl_123_2 : vt_fld 123 6 2 none := ⟨_, rfl, rfl⟩
theorem fF_RX6_15 : vt_F "ArcadeRents$Mix" 15 6 3 := ⟨_, _, _, rfl, by decide, inX6_ok, tb2 (List.mem_of_getElem? (i := 118) rfl) rfl⟩
theorem fl_123_3 : vt_fld 123 6 3 (some 125) := ⟨_, rfl, rfl⟩
theorem ct_RX6_42 : Cond.constant "ArcadeRents$Mix" 42 (-1000000005) ∈ vt_tbl := tb4 (List.mem_of_getElem? (i := 147) rfl) rfl
theorem mk_RX6_43 : Cond.methodLink "ArcadeRents$Mix" 43 yJ7_fill_53178 ∈ vt_tbl := tb4 (List.mem_of_getElem? (i := 148) rfl) rfl
theorem fF_RX6_49 : vt_F "ArcadeRents$Mix" 49 2 0 := ⟨_, _, _, rfl, by decide, inX2_ok, tb2 (List.mem_of_getElem? (i := 60) rfl) rfl⟩
theorem fF_RX6_55 : vt_F "ArcadeRents$Mix" 55 0 3 := ⟨_, _, _, rfl, by decide, inX0_ok, tb1 (List.mem_of_getElem? (i := 192) rfl) rfl⟩
theorem fF_RX6_61 : vt_F "ArcadeRents$Mix" 61 10 7 := ⟨_, _, _, rfl, by decide, inX10_ok, tb1 (List.mem_of_getElem? (i := 81) rfl) rfl⟩
theorem mk_RX6_66 : Cond.methodLink "ArcadeRents$Mix" 66 yX6_prepare ∈ vt_tbl := tb4 (List.mem_of_getElem? (i := 149) rfl) rfl
def D_X6_prepare : vt_MD := (yX6_prepare, cX6_prepare, 6, none)
theorem ok_X6_prepare : vt_okV D_X6_prepare 2 := ⟨⟨tb4 (List.mem_of_getElem? (i := 152) rfl) rfl, tb1 (List.mem_of_getElem? (i := 13) rfl) rfl, ⟨by decide, by decide, by decide +kernel⟩, by decide +kernel, by decide⟩, tb4 (List.mem_of_getElem? (i := 151) rfl) rfl, vt_in (List.mem_append_left _ (List.mem_of_getElem? (i := 18) (by rfl))) rfl⟩
theorem rc_123 {g : vt_GT} : vt_rcv g RX6 (g.2.1 123) := vt_rcvO (ci := 6) (q := (RX6, TX6, _)) rfl rfl
theorem mk_RX6_74 : Cond.methodLink "ArcadeRents$Mix" 74 yX6_extend ∈ vt_tbl := tb4 (List.mem_of_getElem? (i := 159) rfl) rfl
def D_X6_extend : vt_MD := (yX6_extend, cX6_extend, 8, some .boolean)
theorem ok_X6_extend : vt_okV D_X6_extend 3 := ⟨⟨tb4 (List.mem_of_getElem? (i := 162) rfl) rfl, tb1 (List.mem_of_getElem? (i := 13) rfl) rfl, ⟨by decide, by decide, by decide +kernel⟩, by decide +kernel, by decide⟩, tb4 (List.mem_of_getElem? (i := 161) rfl) rfl, vt_in (List.mem_append_left _ (List.mem_of_getElem? (i := 20) (by rfl))) rfl⟩
theorem fF_RX6_26 : vt_F "ArcadeRents$Mix" 26 6 6 := ⟨_, _, _, rfl, by decide, inX6_ok, tb2 (List.mem_of_getElem? (i := 121) rfl) rfl⟩
theorem fl_123_6 : vt_fld 123 6 6 (some 152) := ⟨_, rfl, rfl⟩
theorem ar2_152 : vt_ar2 152 4 13 153 := rfl
theorem mk_RX6_70 : Cond.methodLink "ArcadeRents$Mix" 70 yX6_fitAtFirst ∈ vt_tbl := tb4 (List.mem_of_getElem? (i := 154) rfl) rfl
def D_X6_fitAtFirst : vt_MD := (yX6_fitAtFirst, cX6_fitAtFirst, 6, some .int)
theorem ok_X6_fitAtFirst : vt_okV D_X6_fitAtFirst 2 := ⟨⟨tb4 (List.mem_of_getElem? (i := 157) rfl) rfl, tb1 (List.mem_of_getElem? (i := 13) rfl) rfl, ⟨by decide, by decide, by decide +kernel⟩, by decide +kernel, by decide⟩, tb4 (List.mem_of_getElem? (i := 156) rfl) rfl, vt_in (List.mem_append_left _ (List.mem_of_getElem? (i := 19) (by rfl))) rfl⟩
theorem ar_153 : vt_ar 153 0 12 := ⟨_, rfl⟩
theorem fF_RX6_20 : vt_F "ArcadeRents$Mix" 20 6 4 := ⟨_, _, _, rfl, by decide, inX6_ok, tb2 (List.mem_of_getElem? (i := 119) rfl) rfl⟩
theorem fl_123_4 : vt_fld 123 6 4 (some 126) := ⟨_, rfl, rfl⟩
theorem ar2_126 : vt_ar2 126 4 12 127 := rfl
theorem fF_RX6_78 : vt_F "ArcadeRents$Mix" 78 10 6 := ⟨_, _, _, rfl, by decide, inX10_ok, tb1 (List.mem_of_getElem? (i := 79) rfl) rfl⟩
theorem fl_7_6 : vt_fld 7 10 6 (some 14) := ⟨_, rfl, rfl⟩
theorem ar_14 : vt_ar 14 0 12 := ⟨_, rfl⟩
theorem fF_RX6_81 : vt_F "ArcadeRents$Mix" 81 0 0 := ⟨_, _, _, rfl, by decide, inX0_ok, tb1 (List.mem_of_getElem? (i := 183) rfl) rfl⟩
theorem rwN_126 : ∀ i, i < 12 → vt_lay[127 + i]? = some (.inl (0, 12, 0)) := fun i hi => by
  match i, hi with
  | 0, _ => rfl
  | 1, _ => rfl
  | 2, _ => rfl
  | 3, _ => rfl
  | 4, _ => rfl
  | 5, _ => rfl
  | 6, _ => rfl
  | 7, _ => rfl
  | 8, _ => rfl
  | 9, _ => rfl
  | 10, _ => rfl
  | 11, _ => rfl
theorem rw_126 {x : Int32} (h : vp_in x 12) : vt_ar (127 + x.toNatClampNeg) 0 12 := ⟨0, rwN_126 _ (Nat.not_le.mp fun q => h (Or.inr q))⟩
theorem fF_RX6_23 : vt_F "ArcadeRents$Mix" 23 6 5 := ⟨_, _, _, rfl, by decide, inX6_ok, tb2 (List.mem_of_getElem? (i := 120) rfl) rfl⟩
theorem fl_123_5 : vt_fld 123 6 5 (some 139) := ⟨_, rfl, rfl⟩
theorem ar2_139 : vt_ar2 139 4 12 140 := rfl
theorem rwN_139 : ∀ i, i < 12 → vt_lay[140 + i]? = some (.inl (0, 12, 0)) := fun i hi => by
  match i, hi with
  | 0, _ => rfl
  | 1, _ => rfl
  | 2, _ => rfl
  | 3, _ => rfl
  | 4, _ => rfl
  | 5, _ => rfl
  | 6, _ => rfl
  | 7, _ => rfl
  | 8, _ => rfl
  | 9, _ => rfl
  | 10, _ => rfl
  | 11, _ => rfl
theorem rw_139 {x : Int32} (h : vp_in x 12) : vt_ar (140 + x.toNatClampNeg) 0 12 := ⟨0, rwN_139 _ (Nat.not_le.mp fun q => h (Or.inr q))⟩
theorem mk_RX6_84 : Cond.methodLink "ArcadeRents$Mix" 84 yX10_rivals ∈ vt_tbl := tb4 (List.mem_of_getElem? (i := 153) rfl) rfl
theorem fF_RX6_86 : vt_F "ArcadeRents$Mix" 86 2 4 := ⟨_, _, _, rfl, by decide, inX2_ok, tb2 (List.mem_of_getElem? (i := 70) rfl) rfl⟩
theorem fF_RX6_89 : vt_F "ArcadeRents$Mix" 89 2 3 := ⟨_, _, _, rfl, by decide, inX2_ok, tb2 (List.mem_of_getElem? (i := 66) rfl) rfl⟩
theorem mk_RX6_92 : Cond.methodLink "ArcadeRents$Mix" 92 Lib.Math.abs.name ∈ vt_tbl := tb4 (List.mem_of_getElem? (i := 158) rfl) rfl
theorem mk_RX6_98 : Cond.methodLink "ArcadeRents$Mix" 98 yX6_compare ∈ vt_tbl := tb4 (List.mem_of_getElem? (i := 163) rfl) rfl
def D_X6_compare : vt_MD := (yX6_compare, cX6_compare, 3, none)
theorem ok_X6_compare : vt_okV D_X6_compare 2 := ⟨⟨tb4 (List.mem_of_getElem? (i := 166) rfl) rfl, tb1 (List.mem_of_getElem? (i := 13) rfl) rfl, ⟨by decide, by decide, by decide +kernel⟩, by decide +kernel, by decide⟩, tb4 (List.mem_of_getElem? (i := 165) rfl) rfl, vt_in (List.mem_append_left _ (List.mem_of_getElem? (i := 21) (by rfl))) rfl⟩
theorem rwN_152 : ∀ i, i < 13 → vt_lay[153 + i]? = some (.inl (0, 12, 0)) := fun i hi => by
  match i, hi with
  | 0, _ => rfl
  | 1, _ => rfl
  | 2, _ => rfl
  | 3, _ => rfl
  | 4, _ => rfl
  | 5, _ => rfl
  | 6, _ => rfl
  | 7, _ => rfl
  | 8, _ => rfl
  | 9, _ => rfl
  | 10, _ => rfl
  | 11, _ => rfl
  | 12, _ => rfl
theorem rw_152 {x : Int32} (h : vp_in x 13) : vt_ar (153 + x.toNatClampNeg) 0 12 := ⟨0, rwN_152 _ (Nat.not_le.mp fun q => h (Or.inr q))⟩
theorem ar_125 : vt_ar 125 0 12 := ⟨_, rfl⟩
theorem mk_RX6_102 : Cond.methodLink "ArcadeRents$Mix" 102 yX6_narrow ∈ vt_tbl := tb4 (List.mem_of_getElem? (i := 168) rfl) rfl
def D_X6_narrow : vt_MD := (yX6_narrow, cX6_narrow, 6, none)
theorem ok_X6_narrow : vt_okV D_X6_narrow 3 := ⟨⟨tb4 (List.mem_of_getElem? (i := 171) rfl) rfl, tb1 (List.mem_of_getElem? (i := 13) rfl) rfl, ⟨by decide, by decide, by decide +kernel⟩, by decide +kernel, by decide⟩, tb4 (List.mem_of_getElem? (i := 170) rfl) rfl, vt_in (List.mem_append_left _ (List.mem_of_getElem? (i := 22) (by rfl))) rfl⟩
theorem fF_RX6_9 : vt_F "ArcadeRents$Mix" 9 6 0 := ⟨_, _, _, rfl, by decide, inX6_ok, tb2 (List.mem_of_getElem? (i := 113) rfl) rfl⟩
theorem fl_123_0 : vt_fld 123 6 0 (some 124) := ⟨_, rfl, rfl⟩
theorem mk_RX6_106 : Cond.methodLink "ArcadeRents$Mix" 106 arraycopyName ∈ vt_tbl := tb4 (List.mem_of_getElem? (i := 167) rfl) rfl
theorem ar_124 : vt_ar 124 0 12 := ⟨_, rfl⟩
def D_X7_add : vt_MD := (yX7_add, cX7_add, 4, none)
theorem ok_X7_add : vt_okV D_X7_add 3 := ⟨⟨tb3 (List.mem_of_getElem? (i := 26) rfl) rfl, tb1 (List.mem_of_getElem? (i := 5) rfl) rfl, ⟨by decide, by decide, by decide +kernel⟩, by decide +kernel, by decide⟩, tb3 (List.mem_of_getElem? (i := 24) rfl) rfl, tb3 (List.mem_of_getElem? (i := 25) rfl) rfl⟩
theorem fF_RX7_9 : vt_F "ArcadeRents$Moves" 9 7 0 := ⟨_, _, _, rfl, by decide, inX7_ok, tb1 (List.mem_of_getElem? (i := 107) rfl) rfl⟩
theorem fF_RX7_21 : vt_F "ArcadeRents$Moves" 21 7 3 := ⟨_, _, _, rfl, by decide, inX7_ok, tb1 (List.mem_of_getElem? (i := 113) rfl) rfl⟩
theorem fF_RX7_15 : vt_F "ArcadeRents$Moves" 15 7 1 := ⟨_, _, _, rfl, by decide, inX7_ok, tb1 (List.mem_of_getElem? (i := 109) rfl) rfl⟩
theorem fF_RX7_18 : vt_F "ArcadeRents$Moves" 18 7 2 := ⟨_, _, _, rfl, by decide, inX7_ok, tb1 (List.mem_of_getElem? (i := 111) rfl) rfl⟩
theorem fP_7_3 : vt_FP 7 3 .int := fun C T N h => by cases h; exact ⟨tyX7, tyX7_ok, nmX7, rfl, rfl⟩
theorem fl_68_0 : vt_fld 68 7 0 (some 69) := ⟨_, rfl, rfl⟩
theorem mk_RX7_25 : Cond.methodLink "ArcadeRents$Moves" 25 arraycopyName ∈ vt_tbl := tb4 (List.mem_of_getElem? (i := 208) rfl) rfl
theorem ar_69 : vt_ar 69 0 200 := ⟨_, rfl⟩
theorem fl_68_1 : vt_fld 68 7 1 (some 70) := ⟨_, rfl, rfl⟩
theorem ar_70 : vt_ar 70 0 200 := ⟨_, rfl⟩
theorem fl_68_2 : vt_fld 68 7 2 (some 71) := ⟨_, rfl, rfl⟩
theorem ar_71 : vt_ar 71 0 200 := ⟨_, rfl⟩
theorem fl_68_3 : vt_fld 68 7 3 none := ⟨_, rfl, rfl⟩
def D_X8_append : vt_MD := (yX8_append, cX8_append, 3, none)
theorem ok_X8_append : vt_okV D_X8_append 1 := ⟨⟨tb3 (List.mem_of_getElem? (i := 119) rfl) rfl, tb1 (List.mem_of_getElem? (i := 9) rfl) rfl, ⟨by decide, by decide, by decide +kernel⟩, by decide +kernel, by decide⟩, tb3 (List.mem_of_getElem? (i := 117) rfl) rfl, tb3 (List.mem_of_getElem? (i := 118) rfl) rfl⟩
theorem fF_RX8_22 : vt_F "ArcadeRents$Reader" 22 8 0 := ⟨_, _, _, rfl, by decide, inX8_ok, tb1 (List.mem_of_getElem? (i := 238) rfl) rfl⟩
theorem fl_107_0 : vt_fld 107 8 0 none := ⟨_, rfl, rfl⟩
theorem fF_RX8_18 : vt_F "ArcadeRents$Reader" 18 8 4 := ⟨_, _, _, rfl, by decide, inX8_ok, tb2 (List.mem_of_getElem? (i := 6) rfl) rfl⟩
theorem fl_107_4 : vt_fld 107 8 4 (some 110) := ⟨_, rfl, rfl⟩
theorem ar_110 : vt_ar 110 1 132 := ⟨_, rfl⟩
theorem fP_8_0 : vt_FP 8 0 .int := fun C T N h => by cases h; exact ⟨tyX8, tyX8_ok, nmX8, rfl, rfl⟩
def D_X8_findFault : vt_MD := (yX8_findFault, cX8_findFault, 2, some .int)
theorem ok_X8_findFault : vt_okV D_X8_findFault 0 := ⟨⟨tb3 (List.mem_of_getElem? (i := 131) rfl) rfl, tb1 (List.mem_of_getElem? (i := 9) rfl) rfl, ⟨by decide, by decide, by decide +kernel⟩, by decide +kernel, by decide⟩, tb3 (List.mem_of_getElem? (i := 129) rfl) rfl, tb3 (List.mem_of_getElem? (i := 130) rfl) rfl⟩
theorem fF_RX8_26 : vt_F "ArcadeRents$Reader" 26 8 6 := ⟨_, _, _, rfl, by decide, inX8_ok, tb2 (List.mem_of_getElem? (i := 8) rfl) rfl⟩
theorem fP_8_6 : vt_FP 8 6 .int := fun C T N h => by cases h; exact ⟨tyX8, tyX8_ok, nmX8, rfl, rfl⟩
theorem fl_107_6 : vt_fld 107 8 6 none := ⟨_, rfl, rfl⟩
theorem fF_RX8_29 : vt_F "ArcadeRents$Reader" 29 8 5 := ⟨_, _, _, rfl, by decide, inX8_ok, tb2 (List.mem_of_getElem? (i := 7) rfl) rfl⟩
theorem fP_8_5 : vt_FP 8 5 .int := fun C T N h => by cases h; exact ⟨tyX8, tyX8_ok, nmX8, rfl, rfl⟩
theorem fl_107_5 : vt_fld 107 8 5 none := ⟨_, rfl, rfl⟩
theorem fF_RX8_32 : vt_F "ArcadeRents$Reader" 32 8 3 := ⟨_, _, _, rfl, by decide, inX8_ok, tb2 (List.mem_of_getElem? (i := 4) rfl) rfl⟩
theorem fP_8_3 : vt_FP 8 3 .int := fun C T N h => by cases h; exact ⟨tyX8, tyX8_ok, nmX8, rfl, rfl⟩
theorem fl_107_3 : vt_fld 107 8 3 none := ⟨_, rfl, rfl⟩
theorem fF_RX8_35 : vt_F "ArcadeRents$Reader" 35 8 7 := ⟨_, _, _, rfl, by decide, inX8_ok, tb2 (List.mem_of_getElem? (i := 9) rfl) rfl⟩
theorem fP_8_7 : vt_FP 8 7 .int := fun C T N h => by cases h; exact ⟨tyX8, tyX8_ok, nmX8, rfl, rfl⟩
theorem fl_107_7 : vt_fld 107 8 7 none := ⟨_, rfl, rfl⟩
theorem mk_RX8_38 : Cond.methodLink "ArcadeRents$Reader" 38 yX8_advance ∈ vt_tbl := tb3 (List.mem_of_getElem? (i := 132) rfl) rfl
def D_X8_advance : vt_MD := (yX8_advance, cX8_advance, 6, none)
theorem ok_X8_advance : vt_okV D_X8_advance 0 := ⟨⟨tb3 (List.mem_of_getElem? (i := 135) rfl) rfl, tb1 (List.mem_of_getElem? (i := 9) rfl) rfl, ⟨by decide, by decide, by decide +kernel⟩, by decide +kernel, by decide⟩, tb3 (List.mem_of_getElem? (i := 134) rfl) rfl, vt_in (List.mem_append_left _ (List.mem_of_getElem? (i := 4) (by rfl))) rfl⟩
theorem rc_107 {g : vt_GT} : vt_rcv g RX8 (g.2.1 107) := vt_rcvO (ci := 8) (q := (RX8, TX8, _)) rfl rfl
theorem fF_RX8_41 : vt_F "ArcadeRents$Reader" 41 8 8 := ⟨_, _, _, rfl, by decide, inX8_ok, tb2 (List.mem_of_getElem? (i := 10) rfl) rfl⟩
theorem fl_107_8 : vt_fld 107 8 8 none := ⟨_, rfl, rfl⟩
theorem ct_RX8_48 : Cond.constant "ArcadeRents$Reader" 48 (-1000000005) ∈ vt_tbl := tb4 (List.mem_of_getElem? (i := 36) rfl) rfl
theorem mk_RX8_44 : Cond.methodLink "ArcadeRents$Reader" 44 yX8_expression ∈ vt_tbl := tb4 (List.mem_of_getElem? (i := 21) rfl) rfl
def D_X8_expression : vt_MD := (yX8_expression, cX8_expression, 7, some .boolean)
theorem ok_X8_expression : vt_okV D_X8_expression 3 := ⟨⟨tb4 (List.mem_of_getElem? (i := 24) rfl) rfl, tb1 (List.mem_of_getElem? (i := 9) rfl) rfl, ⟨by decide, by decide, by decide +kernel⟩, by decide +kernel, by decide⟩, tb4 (List.mem_of_getElem? (i := 23) rfl) rfl, vt_in (List.mem_append_left _ (List.mem_of_getElem? (i := 8) (by rfl))) rfl⟩
theorem fF_RX8_15 : vt_F "ArcadeRents$Reader" 15 8 2 := ⟨_, _, _, rfl, by decide, inX8_ok, tb2 (List.mem_of_getElem? (i := 2) rfl) rfl⟩
theorem mk_RX8_49 : Cond.methodLink "ArcadeRents$Reader" 49 yX8_part ∈ vt_tbl := tb4 (List.mem_of_getElem? (i := 25) rfl) rfl
def D_X8_part : vt_MD := (yX8_part, cX8_part, 3, some .boolean)
theorem ok_X8_part : vt_okV D_X8_part 2 := ⟨⟨tb4 (List.mem_of_getElem? (i := 28) rfl) rfl, tb1 (List.mem_of_getElem? (i := 9) rfl) rfl, ⟨by decide, by decide, by decide +kernel⟩, by decide +kernel, by decide⟩, tb4 (List.mem_of_getElem? (i := 27) rfl) rfl, vt_in (List.mem_append_left _ (List.mem_of_getElem? (i := 9) (by rfl))) rfl⟩
theorem mk_RX8_53 : Cond.methodLink "ArcadeRents$Reader" 53 yX8_levelOf ∈ vt_tbl := tb4 (List.mem_of_getElem? (i := 33) rfl) rfl
theorem mk_RX8_57 : Cond.methodLink "ArcadeRents$Reader" 57 yX8_emit ∈ vt_tbl := tb4 (List.mem_of_getElem? (i := 29) rfl) rfl
def D_X8_emit : vt_MD := (yX8_emit, cX8_emit, 2, none)
theorem ok_X8_emit : vt_okV D_X8_emit 1 := ⟨⟨tb4 (List.mem_of_getElem? (i := 32) rfl) rfl, tb1 (List.mem_of_getElem? (i := 9) rfl) rfl, ⟨by decide, by decide, by decide +kernel⟩, by decide +kernel, by decide⟩, tb4 (List.mem_of_getElem? (i := 31) rfl) rfl, vt_in (List.mem_append_left _ (List.mem_of_getElem? (i := 10) (by rfl))) rfl⟩
theorem fF_RX8_61 : vt_F "ArcadeRents$Reader" 61 8 9 := ⟨_, _, _, rfl, by decide, inX8_ok, tb2 (List.mem_of_getElem? (i := 11) rfl) rfl⟩
theorem fl_107_9 : vt_fld 107 8 9 none := ⟨_, rfl, rfl⟩
theorem fF_RX8_9 : vt_F "ArcadeRents$Reader" 9 8 1 := ⟨_, _, _, rfl, by decide, inX8_ok, tb2 (List.mem_of_getElem? (i := 0) rfl) rfl⟩
theorem fP_8_8 : vt_FP 8 8 .int := fun C T N h => by cases h; exact ⟨tyX8, tyX8_ok, nmX8, rfl, rfl⟩
theorem mk_RX8_64 : Cond.methodLink "ArcadeRents$Reader" 64 yX8_isDigit ∈ vt_tbl := tb3 (List.mem_of_getElem? (i := 136) rfl) rfl
theorem mk_RX8_68 : Cond.methodLink "ArcadeRents$Reader" 68 yX8_isLetter ∈ vt_tbl := tb3 (List.mem_of_getElem? (i := 139) rfl) rfl
theorem mk_RX8_75 : Cond.methodLink "ArcadeRents$Reader" 75 yX8_lettersToken ∈ vt_tbl := tb3 (List.mem_of_getElem? (i := 146) rfl) rfl
def D_X8_lettersToken : vt_MD := (yX8_lettersToken, cX8_lettersToken, 2, some .int)
theorem ok_X8_lettersToken : vt_okV D_X8_lettersToken 1 := ⟨⟨tb3 (List.mem_of_getElem? (i := 149) rfl) rfl, tb1 (List.mem_of_getElem? (i := 9) rfl) rfl, ⟨by decide, by decide, by decide +kernel⟩, by decide +kernel, by decide⟩, tb3 (List.mem_of_getElem? (i := 148) rfl) rfl, vt_in (List.mem_append_left _ (List.mem_of_getElem? (i := 6) (by rfl))) rfl⟩
theorem mk_RX8_71 : Cond.methodLink "ArcadeRents$Reader" 71 yX8_numberToken ∈ vt_tbl := tb3 (List.mem_of_getElem? (i := 142) rfl) rfl
def D_X8_numberToken : vt_MD := (yX8_numberToken, cX8_numberToken, 2, some .int)
theorem ok_X8_numberToken : vt_okV D_X8_numberToken 0 := ⟨⟨tb3 (List.mem_of_getElem? (i := 145) rfl) rfl, tb1 (List.mem_of_getElem? (i := 9) rfl) rfl, ⟨by decide, by decide, by decide +kernel⟩, by decide +kernel, by decide⟩, tb3 (List.mem_of_getElem? (i := 144) rfl) rfl, vt_in (List.mem_append_left _ (List.mem_of_getElem? (i := 5) (by rfl))) rfl⟩
theorem fP_8_9 : vt_FP 8 9 .int := fun C T N h => by cases h; exact ⟨tyX8, tyX8_ok, nmX8, rfl, rfl⟩
theorem mk_RX8_87 : Cond.methodLink "ArcadeRents$Reader" 87 yX8_reads ∈ vt_tbl := tb3 (List.mem_of_getElem? (i := 234) rfl) rfl
def D_X8_reads : vt_MD := (yX8_reads, cX8_reads, 3, some .boolean)
theorem ok_X8_reads : vt_okV D_X8_reads 1 := ⟨⟨tb3 (List.mem_of_getElem? (i := 237) rfl) rfl, tb1 (List.mem_of_getElem? (i := 9) rfl) rfl, ⟨by decide, by decide, by decide +kernel⟩, by decide +kernel, by decide⟩, tb3 (List.mem_of_getElem? (i := 236) rfl) rfl, vt_in (List.mem_append_left _ (List.mem_of_getElem? (i := 7) (by rfl))) rfl⟩
theorem mk_RX8_80 : Cond.methodLink "ArcadeRents$Reader" 80 yJ0_indexOf_0f7a4 ∈ vt_tbl := tb3 (List.mem_of_getElem? (i := 151) rfl) rfl
theorem mk_RX8_95 : Cond.methodLink "ArcadeRents$Reader" 95 yJ0_length_8abf5 ∈ vt_tbl := tb3 (List.mem_of_getElem? (i := 238) rfl) rfl
theorem mk_RX8_98 : Cond.methodLink "ArcadeRents$Reader" 98 yJ0_charAt_5068e ∈ vt_tbl := tb3 (List.mem_of_getElem? (i := 239) rfl) rfl
def D_X9_begin : vt_MD := (yX9_begin, cX9_begin, 3, none)
theorem ok_X9_begin : vt_okV D_X9_begin 2 := ⟨⟨tb4 (List.mem_of_getElem? (i := 230) rfl) rfl, tb1 (List.mem_of_getElem? (i := 10) rfl) rfl, ⟨by decide, by decide, by decide +kernel⟩, by decide +kernel, by decide⟩, tb4 (List.mem_of_getElem? (i := 228) rfl) rfl, tb4 (List.mem_of_getElem? (i := 229) rfl) rfl⟩
theorem fF_RX9_11 : vt_F "ArcadeRents$Sheets" 11 9 0 := ⟨_, _, _, rfl, by decide, inX9_ok, tb2 (List.mem_of_getElem? (i := 42) rfl) rfl⟩
theorem fl_111_0 : vt_fld 111 9 0 (some 112) := ⟨_, rfl, rfl⟩
theorem ar2_112 : vt_ar2 112 5 2 113 := rfl
theorem mk_RX9_18 : Cond.methodLink "ArcadeRents$Sheets" 18 yJ7_fill_fb410 ∈ vt_tbl := tb4 (List.mem_of_getElem? (i := 231) rfl) rfl
def D_X10_add : vt_MD := (yX10_add, cX10_add, 6, some .int)
theorem ok_X10_add : vt_okV D_X10_add 5 := ⟨⟨tb2 (List.mem_of_getElem? (i := 234) rfl) rfl, tb1 (List.mem_of_getElem? (i := 4) rfl) rfl, ⟨by decide, by decide, by decide +kernel⟩, by decide +kernel, by decide⟩, tb2 (List.mem_of_getElem? (i := 232) rfl) rfl, tb2 (List.mem_of_getElem? (i := 233) rfl) rfl⟩
theorem fF_RX10_9 : vt_F "ArcadeRents$Shops" 9 10 0 := ⟨_, _, _, rfl, by decide, inX10_ok, tb1 (List.mem_of_getElem? (i := 64) rfl) rfl⟩
theorem fF_RX10_18 : vt_F "ArcadeRents$Shops" 18 10 2 := ⟨_, _, _, rfl, by decide, inX10_ok, tb1 (List.mem_of_getElem? (i := 70) rfl) rfl⟩
theorem fF_RX10_21 : vt_F "ArcadeRents$Shops" 21 10 3 := ⟨_, _, _, rfl, by decide, inX10_ok, tb1 (List.mem_of_getElem? (i := 72) rfl) rfl⟩
theorem fF_RX10_27 : vt_F "ArcadeRents$Shops" 27 10 5 := ⟨_, _, _, rfl, by decide, inX10_ok, tb1 (List.mem_of_getElem? (i := 76) rfl) rfl⟩
theorem fF_RX10_30 : vt_F "ArcadeRents$Shops" 30 10 6 := ⟨_, _, _, rfl, by decide, inX10_ok, tb1 (List.mem_of_getElem? (i := 78) rfl) rfl⟩
theorem fP_10_7 : vt_FP 10 7 .int := fun C T N h => by cases h; exact ⟨tyX10, tyX10_ok, nmX10, rfl, rfl⟩
theorem fl_60_0 : vt_fld 60 10 0 (some 61) := ⟨_, rfl, rfl⟩
theorem mk_RX10_43 : Cond.methodLink "ArcadeRents$Shops" 43 arraycopyName ∈ vt_tbl := tb4 (List.mem_of_getElem? (i := 203) rfl) rfl
theorem ar_61 : vt_ar 61 0 12 := ⟨_, rfl⟩
theorem fl_60_1 : vt_fld 60 10 1 (some 62) := ⟨_, rfl, rfl⟩
theorem ar_62 : vt_ar 62 0 12 := ⟨_, rfl⟩
theorem fl_60_2 : vt_fld 60 10 2 (some 63) := ⟨_, rfl, rfl⟩
theorem ar_63 : vt_ar 63 0 12 := ⟨_, rfl⟩
theorem fl_60_3 : vt_fld 60 10 3 (some 64) := ⟨_, rfl, rfl⟩
theorem ar_64 : vt_ar 64 0 12 := ⟨_, rfl⟩
theorem fl_60_4 : vt_fld 60 10 4 (some 65) := ⟨_, rfl, rfl⟩
theorem ar_65 : vt_ar 65 0 12 := ⟨_, rfl⟩
theorem fl_60_5 : vt_fld 60 10 5 (some 66) := ⟨_, rfl, rfl⟩
theorem ar_66 : vt_ar 66 0 12 := ⟨_, rfl⟩
theorem fl_60_6 : vt_fld 60 10 6 (some 67) := ⟨_, rfl, rfl⟩
theorem ar_67 : vt_ar 67 0 12 := ⟨_, rfl⟩
theorem fl_60_7 : vt_fld 60 10 7 none := ⟨_, rfl, rfl⟩
def D_X11_feet : vt_MD := (yX11_feet, cX11_feet, 4, some .int)
theorem ok_X11_feet : vt_okV D_X11_feet 2 := ⟨⟨tb2 (List.mem_of_getElem? (i := 180) rfl) rfl, tb1 (List.mem_of_getElem? (i := 1) rfl) rfl, ⟨by decide, by decide, by decide +kernel⟩, by decide +kernel, by decide⟩, tb2 (List.mem_of_getElem? (i := 178) rfl) rfl, tb2 (List.mem_of_getElem? (i := 179) rfl) rfl⟩
theorem mk_RX11_63 : Cond.methodLink "ArcadeRents" 63 yX11_isPlace ∈ vt_tbl := tb2 (List.mem_of_getElem? (i := 181) rfl) rfl
theorem mk_RX11_67 : Cond.methodLink "ArcadeRents" 67 yX11_isFeet ∈ vt_tbl := tb2 (List.mem_of_getElem? (i := 187) rfl) rfl
theorem fF_RX11_71 : vt_F "ArcadeRents" 71 0 0 := ⟨_, _, _, rfl, by decide, inX0_ok, tb1 (List.mem_of_getElem? (i := 182) rfl) rfl⟩
theorem ct_RX11_70 : Cond.constant "ArcadeRents" 70 (-1000000001) ∈ vt_tbl := tb2 (List.mem_of_getElem? (i := 190) rfl) rfl
def D_X11_lay : vt_MD := (yX11_lay, cX11_lay, 6, some .int)
theorem ok_X11_lay : vt_okV D_X11_lay 1 := ⟨⟨tb2 (List.mem_of_getElem? (i := 194) rfl) rfl, tb1 (List.mem_of_getElem? (i := 1) rfl) rfl, ⟨by decide, by decide, by decide +kernel⟩, by decide +kernel, by decide⟩, tb2 (List.mem_of_getElem? (i := 192) rfl) rfl, tb2 (List.mem_of_getElem? (i := 193) rfl) rfl⟩
theorem mk_RX11_74 : Cond.methodLink "ArcadeRents" 74 yX9_isSheet ∈ vt_tbl := tb2 (List.mem_of_getElem? (i := 195) rfl) rfl
theorem fF_RX11_29 : vt_F "ArcadeRents" 29 11 4 := ⟨_, _, _, rfl, by decide, inX11_ok, tb2 (List.mem_of_getElem? (i := 147) rfl) rfl⟩
theorem fl_0_4 : vt_fld 0 11 4 (some 111) := ⟨_, rfl, rfl⟩
theorem mk_RX11_77 : Cond.methodLink "ArcadeRents" 77 yX9_isMissing ∈ vt_tbl := tb2 (List.mem_of_getElem? (i := 198) rfl) rfl
theorem rc_111 {g : vt_GT} : vt_rcv g RX9 (g.2.1 111) := vt_rcvO (ci := 9) (q := (RX9, TX9, _)) rfl rfl
theorem ct_RX11_80 : Cond.constant "ArcadeRents" 80 (-1000000011) ∈ vt_tbl := tb2 (List.mem_of_getElem? (i := 202) rfl) rfl
theorem fF_RX11_81 : vt_F "ArcadeRents" 81 9 1 := ⟨_, _, _, rfl, by decide, inX9_ok, tb2 (List.mem_of_getElem? (i := 45) rfl) rfl⟩
theorem mk_RX11_84 : Cond.methodLink "ArcadeRents" 84 Lib.Math.min.name ∈ vt_tbl := tb2 (List.mem_of_getElem? (i := 203) rfl) rfl
theorem fF_RX11_90 : vt_F "ArcadeRents" 90 9 0 := ⟨_, _, _, rfl, by decide, inX9_ok, tb2 (List.mem_of_getElem? (i := 43) rfl) rfl⟩
theorem rwN_112 : ∀ i, i < 2 → vt_lay[113 + i]? = some (.inl (2, 16, 0)) := fun i hi => by
  match i, hi with
  | 0, _ => rfl
  | 1, _ => rfl
theorem rw_112 {x : Int32} (h : vp_in x 2) : vt_ar (113 + x.toNatClampNeg) 2 16 := ⟨0, rwN_112 _ (Nat.not_le.mp fun q => h (Or.inr q))⟩
def D_X11_door : vt_MD := (yX11_door, cX11_door, 3, some .int)
theorem ok_X11_door : vt_okV D_X11_door 2 := ⟨⟨tb2 (List.mem_of_getElem? (i := 209) rfl) rfl, tb1 (List.mem_of_getElem? (i := 1) rfl) rfl, ⟨by decide, by decide, by decide +kernel⟩, by decide +kernel, by decide⟩, tb2 (List.mem_of_getElem? (i := 207) rfl) rfl, tb2 (List.mem_of_getElem? (i := 208) rfl) rfl⟩
theorem mk_RX11_94 : Cond.methodLink "ArcadeRents" 94 yX11_isPeople ∈ vt_tbl := tb2 (List.mem_of_getElem? (i := 210) rfl) rfl
theorem fF_RX11_97 : vt_F "ArcadeRents" 97 0 2 := ⟨_, _, _, rfl, by decide, inX0_ok, tb1 (List.mem_of_getElem? (i := 189) rfl) rfl⟩
theorem fF_RX11_101 : vt_F "ArcadeRents" 101 3 2 := ⟨_, _, _, rfl, by decide, inX3_ok, tb1 (List.mem_of_getElem? (i := 48) rfl) rfl⟩
theorem mk_RX11_108 : Cond.methodLink "ArcadeRents" 108 yX3_add ∈ vt_tbl := tb2 (List.mem_of_getElem? (i := 214) rfl) rfl
theorem ct_RX11_107 : Cond.constant "ArcadeRents" 107 (-1000000003) ∈ vt_tbl := tb2 (List.mem_of_getElem? (i := 213) rfl) rfl
def D_X11_people : vt_MD := (yX11_people, cX11_people, 4, some .int)
theorem ok_X11_people : vt_okV D_X11_people 2 := ⟨⟨tb2 (List.mem_of_getElem? (i := 221) rfl) rfl, tb1 (List.mem_of_getElem? (i := 1) rfl) rfl, ⟨by decide, by decide, by decide +kernel⟩, by decide +kernel, by decide⟩, tb2 (List.mem_of_getElem? (i := 219) rfl) rfl, tb2 (List.mem_of_getElem? (i := 220) rfl) rfl⟩
theorem mk_RX11_111 : Cond.methodLink "ArcadeRents" 111 yX3_has ∈ vt_tbl := tb2 (List.mem_of_getElem? (i := 222) rfl) rfl
theorem fF_RX11_114 : vt_F "ArcadeRents" 114 3 1 := ⟨_, _, _, rfl, by decide, inX3_ok, tb1 (List.mem_of_getElem? (i := 46) rfl) rfl⟩
def D_X11_shop : vt_MD := (yX11_shop, cX11_shop, 7, some .int)
theorem ok_X11_shop : vt_okV D_X11_shop 5 := ⟨⟨tb2 (List.mem_of_getElem? (i := 229) rfl) rfl, tb1 (List.mem_of_getElem? (i := 1) rfl) rfl, ⟨by decide, by decide, by decide +kernel⟩, by decide +kernel, by decide⟩, tb2 (List.mem_of_getElem? (i := 227) rfl) rfl, tb2 (List.mem_of_getElem? (i := 228) rfl) rfl⟩
theorem ct_RX11_121 : Cond.constant "ArcadeRents" 121 (99999) ∈ vt_tbl := tb2 (List.mem_of_getElem? (i := 230) rfl) rfl
theorem fF_RX11_122 : vt_F "ArcadeRents" 122 0 3 := ⟨_, _, _, rfl, by decide, inX0_ok, tb1 (List.mem_of_getElem? (i := 194) rfl) rfl⟩
theorem fF_RX11_126 : vt_F "ArcadeRents" 126 10 7 := ⟨_, _, _, rfl, by decide, inX10_ok, tb1 (List.mem_of_getElem? (i := 83) rfl) rfl⟩
theorem mk_RX11_129 : Cond.methodLink "ArcadeRents" 129 yX10_add ∈ vt_tbl := tb2 (List.mem_of_getElem? (i := 231) rfl) rfl
def D_X11_isOf : vt_MD := (yX11_isOf, cX11_isOf, 5, some .int)
theorem ok_X11_isOf : vt_okV D_X11_isOf 2 := ⟨⟨tb2 (List.mem_of_getElem? (i := 238) rfl) rfl, tb1 (List.mem_of_getElem? (i := 1) rfl) rfl, ⟨by decide, by decide, by decide +kernel⟩, by decide +kernel, by decide⟩, tb2 (List.mem_of_getElem? (i := 236) rfl) rfl, tb2 (List.mem_of_getElem? (i := 237) rfl) rfl⟩
theorem mk_RX11_132 : Cond.methodLink "ArcadeRents" 132 yX10_has ∈ vt_tbl := tb2 (List.mem_of_getElem? (i := 239) rfl) rfl
theorem fF_RX11_133 : vt_F "ArcadeRents" 133 10 0 := ⟨_, _, _, rfl, by decide, inX10_ok, tb1 (List.mem_of_getElem? (i := 66) rfl) rfl⟩
def D_X11_move : vt_MD := (yX11_move, cX11_move, 4, some .int)
theorem ok_X11_move : vt_okV D_X11_move 2 := ⟨⟨tb3 (List.mem_of_getElem? (i := 6) rfl) rfl, tb1 (List.mem_of_getElem? (i := 1) rfl) rfl, ⟨by decide, by decide, by decide +kernel⟩, by decide +kernel, by decide⟩, tb3 (List.mem_of_getElem? (i := 4) rfl) rfl, tb3 (List.mem_of_getElem? (i := 5) rfl) rfl⟩
theorem ct_RX11_136 : Cond.constant "ArcadeRents" 136 (-1000000005) ∈ vt_tbl := tb3 (List.mem_of_getElem? (i := 7) rfl) rfl
theorem fF_RX11_38 : vt_F "ArcadeRents" 38 11 5 := ⟨_, _, _, rfl, by decide, inX11_ok, tb2 (List.mem_of_getElem? (i := 148) rfl) rfl⟩
theorem fl_0_5 : vt_fld 0 11 5 (some 116) := ⟨_, rfl, rfl⟩
theorem mk_RX11_140 : Cond.methodLink "ArcadeRents" 140 yX2_look ∈ vt_tbl := tb3 (List.mem_of_getElem? (i := 8) rfl) rfl
theorem fF_RX11_144 : vt_F "ArcadeRents" 144 2 3 := ⟨_, _, _, rfl, by decide, inX2_ok, tb2 (List.mem_of_getElem? (i := 68) rfl) rfl⟩
theorem ct_RX11_150 : Cond.constant "ArcadeRents" 150 (-1000000002) ∈ vt_tbl := tb3 (List.mem_of_getElem? (i := 22) rfl) rfl
theorem fF_RX11_151 : vt_F "ArcadeRents" 151 0 4 := ⟨_, _, _, rfl, by decide, inX0_ok, tb1 (List.mem_of_getElem? (i := 198) rfl) rfl⟩
theorem fF_RX11_155 : vt_F "ArcadeRents" 155 7 3 := ⟨_, _, _, rfl, by decide, inX7_ok, tb1 (List.mem_of_getElem? (i := 115) rfl) rfl⟩
theorem mk_RX11_158 : Cond.methodLink "ArcadeRents" 158 yX7_add ∈ vt_tbl := tb3 (List.mem_of_getElem? (i := 23) rfl) rfl
theorem fF_RX11_147 : vt_F "ArcadeRents" 147 2 4 := ⟨_, _, _, rfl, by decide, inX2_ok, tb2 (List.mem_of_getElem? (i := 71) rfl) rfl⟩
def D_X11_months : vt_MD := (yX11_months, cX11_months, 2, some .int)
theorem ok_X11_months : vt_okV D_X11_months 1 := ⟨⟨tb3 (List.mem_of_getElem? (i := 30) rfl) rfl, tb1 (List.mem_of_getElem? (i := 1) rfl) rfl, ⟨by decide, by decide, by decide +kernel⟩, by decide +kernel, by decide⟩, tb3 (List.mem_of_getElem? (i := 28) rfl) rfl, tb3 (List.mem_of_getElem? (i := 29) rfl) rfl⟩
def D_X11_rule : vt_MD := (yX11_rule, cX11_rule, 5, some .int)
theorem ok_X11_rule : vt_okV D_X11_rule 2 := ⟨⟨tb3 (List.mem_of_getElem? (i := 34) rfl) rfl, tb1 (List.mem_of_getElem? (i := 1) rfl) rfl, ⟨by decide, by decide, by decide +kernel⟩, by decide +kernel, by decide⟩, tb3 (List.mem_of_getElem? (i := 32) rfl) rfl, tb3 (List.mem_of_getElem? (i := 33) rfl) rfl⟩
theorem fF_RX11_161 : vt_F "ArcadeRents" 161 0 1 := ⟨_, _, _, rfl, by decide, inX0_ok, tb1 (List.mem_of_getElem? (i := 187) rfl) rfl⟩
def D_X11_stands : vt_MD := (yX11_stands, cX11_stands, 5, some .int)
theorem ok_X11_stands : vt_okV D_X11_stands 3 := ⟨⟨tb3 (List.mem_of_getElem? (i := 38) rfl) rfl, tb1 (List.mem_of_getElem? (i := 1) rfl) rfl, ⟨by decide, by decide, by decide +kernel⟩, by decide +kernel, by decide⟩, tb3 (List.mem_of_getElem? (i := 36) rfl) rfl, tb3 (List.mem_of_getElem? (i := 37) rfl) rfl⟩
theorem mk_RX11_164 : Cond.methodLink "ArcadeRents" 164 yX11_isMonth ∈ vt_tbl := tb3 (List.mem_of_getElem? (i := 39) rfl) rfl
theorem rc_0 {g : vt_GT} : vt_rcv g RX11 (g.2.1 0) := vt_rcvO (ci := 11) (q := (RX11, TX11, _)) rfl rfl
theorem mk_RX11_186 : Cond.methodLink "ArcadeRents" 186 yX2_rivalNear ∈ vt_tbl := tb3 (List.mem_of_getElem? (i := 59) rfl) rfl
theorem mk_RX11_183 : Cond.methodLink "ArcadeRents" 183 yX2_beside ∈ vt_tbl := tb3 (List.mem_of_getElem? (i := 55) rfl) rfl
theorem mk_RX11_180 : Cond.methodLink "ArcadeRents" 180 yX2_anchors ∈ vt_tbl := tb3 (List.mem_of_getElem? (i := 51) rfl) rfl
theorem mk_RX11_177 : Cond.methodLink "ArcadeRents" 177 yX2_others ∈ vt_tbl := tb3 (List.mem_of_getElem? (i := 47) rfl) rfl
theorem mk_RX11_173 : Cond.methodLink "ArcadeRents" 173 yX2_foretold ∈ vt_tbl := tb3 (List.mem_of_getElem? (i := 43) rfl) rfl
theorem fF_RX11_170 : vt_F "ArcadeRents" 170 2 6 := ⟨_, _, _, rfl, by decide, inX2_ok, tb2 (List.mem_of_getElem? (i := 77) rfl) rfl⟩
theorem fF_RX11_167 : vt_F "ArcadeRents" 167 2 5 := ⟨_, _, _, rfl, by decide, inX2_ok, tb2 (List.mem_of_getElem? (i := 74) rfl) rfl⟩
def D_X11_past : vt_MD := (yX11_past, cX11_past, 3, some .int)
theorem ok_X11_past : vt_okV D_X11_past 2 := ⟨⟨tb3 (List.mem_of_getElem? (i := 69) rfl) rfl, tb1 (List.mem_of_getElem? (i := 1) rfl) rfl, ⟨by decide, by decide, by decide +kernel⟩, by decide +kernel, by decide⟩, tb3 (List.mem_of_getElem? (i := 67) rfl) rfl, tb3 (List.mem_of_getElem? (i := 68) rfl) rfl⟩
def D_X11_take : vt_MD := (yX11_take, cX11_take, 4, some .int)
theorem ok_X11_take : vt_okV D_X11_take 3 := ⟨⟨tb3 (List.mem_of_getElem? (i := 73) rfl) rfl, tb1 (List.mem_of_getElem? (i := 1) rfl) rfl, ⟨by decide, by decide, by decide +kernel⟩, by decide +kernel, by decide⟩, tb3 (List.mem_of_getElem? (i := 71) rfl) rfl, tb3 (List.mem_of_getElem? (i := 72) rfl) rfl⟩
theorem ct_RX11_189 : Cond.constant "ArcadeRents" 189 (-99999) ∈ vt_tbl := tb3 (List.mem_of_getElem? (i := 74) rfl) rfl
theorem fF_RX11_190 : vt_F "ArcadeRents" 190 0 5 := ⟨_, _, _, rfl, by decide, inX0_ok, tb1 (List.mem_of_getElem? (i := 201) rfl) rfl⟩
theorem fF_RX11_194 : vt_F "ArcadeRents" 194 5 5 := ⟨_, _, _, rfl, by decide, inX5_ok, tb1 (List.mem_of_getElem? (i := 142) rfl) rfl⟩
theorem mk_RX11_197 : Cond.methodLink "ArcadeRents" 197 yX5_add ∈ vt_tbl := tb3 (List.mem_of_getElem? (i := 75) rfl) rfl
def D_X11_withdraw : vt_MD := (yX11_withdraw, cX11_withdraw, 2, some .int)
theorem ok_X11_withdraw : vt_okV D_X11_withdraw 1 := ⟨⟨tb3 (List.mem_of_getElem? (i := 83) rfl) rfl, tb1 (List.mem_of_getElem? (i := 1) rfl) rfl, ⟨by decide, by decide, by decide +kernel⟩, by decide +kernel, by decide⟩, tb3 (List.mem_of_getElem? (i := 81) rfl) rfl, tb3 (List.mem_of_getElem? (i := 82) rfl) rfl⟩
theorem mk_RX11_200 : Cond.methodLink "ArcadeRents" 200 yX5_has ∈ vt_tbl := tb3 (List.mem_of_getElem? (i := 84) rfl) rfl
theorem fF_RX11_201 : vt_F "ArcadeRents" 201 5 4 := ⟨_, _, _, rfl, by decide, inX5_ok, tb1 (List.mem_of_getElem? (i := 140) rfl) rfl⟩
def D_X11_line : vt_MD := (yX11_line, cX11_line, 3, some .int)
theorem ok_X11_line : vt_okV D_X11_line 2 := ⟨⟨tb3 (List.mem_of_getElem? (i := 91) rfl) rfl, tb1 (List.mem_of_getElem? (i := 1) rfl) rfl, ⟨by decide, by decide, by decide +kernel⟩, by decide +kernel, by decide⟩, tb3 (List.mem_of_getElem? (i := 89) rfl) rfl, tb3 (List.mem_of_getElem? (i := 90) rfl) rfl⟩
theorem fF_RX11_213 : vt_F "ArcadeRents" 213 5 3 := ⟨_, _, _, rfl, by decide, inX5_ok, tb1 (List.mem_of_getElem? (i := 138) rfl) rfl⟩
theorem fF_RX11_210 : vt_F "ArcadeRents" 210 5 2 := ⟨_, _, _, rfl, by decide, inX5_ok, tb1 (List.mem_of_getElem? (i := 136) rfl) rfl⟩
theorem fF_RX11_207 : vt_F "ArcadeRents" 207 5 1 := ⟨_, _, _, rfl, by decide, inX5_ok, tb1 (List.mem_of_getElem? (i := 134) rfl) rfl⟩
theorem fF_RX11_204 : vt_F "ArcadeRents" 204 5 0 := ⟨_, _, _, rfl, by decide, inX5_ok, tb1 (List.mem_of_getElem? (i := 132) rfl) rfl⟩
def D_X11_takings : vt_MD := (yX11_takings, cX11_takings, 4, some .int)
theorem ok_X11_takings : vt_okV D_X11_takings 3 := ⟨⟨tb3 (List.mem_of_getElem? (i := 95) rfl) rfl, tb1 (List.mem_of_getElem? (i := 1) rfl) rfl, ⟨by decide, by decide, by decide +kernel⟩, by decide +kernel, by decide⟩, tb3 (List.mem_of_getElem? (i := 93) rfl) rfl, tb3 (List.mem_of_getElem? (i := 94) rfl) rfl⟩
theorem mk_RX11_216 : Cond.methodLink "ArcadeRents" 216 yX5_sum ∈ vt_tbl := tb3 (List.mem_of_getElem? (i := 96) rfl) rfl
def D_X11_beyond : vt_MD := (yX11_beyond, cX11_beyond, 8, some .int)
theorem ok_X11_beyond : vt_okV D_X11_beyond 3 := ⟨⟨tb3 (List.mem_of_getElem? (i := 110) rfl) rfl, tb1 (List.mem_of_getElem? (i := 1) rfl) rfl, ⟨by decide, by decide, by decide +kernel⟩, by decide +kernel, by decide⟩, tb3 (List.mem_of_getElem? (i := 108) rfl) rfl, tb3 (List.mem_of_getElem? (i := 109) rfl) rfl⟩
theorem cl_RX11_220 : Cond.constantLong "ArcadeRents" 220 (100) ∈ vt_tbl := tb3 (List.mem_of_getElem? (i := 111) rfl) rfl
def D_X11_feed : vt_MD := (yX11_feed, cX11_feed, 4, some .int)
theorem ok_X11_feed : vt_okV D_X11_feed 3 := ⟨⟨tb3 (List.mem_of_getElem? (i := 115) rfl) rfl, tb1 (List.mem_of_getElem? (i := 1) rfl) rfl, ⟨by decide, by decide, by decide +kernel⟩, by decide +kernel, by decide⟩, tb3 (List.mem_of_getElem? (i := 113) rfl) rfl, tb3 (List.mem_of_getElem? (i := 114) rfl) rfl⟩
theorem fF_RX11_22 : vt_F "ArcadeRents" 22 11 3 := ⟨_, _, _, rfl, by decide, inX11_ok, tb2 (List.mem_of_getElem? (i := 146) rfl) rfl⟩
theorem fl_0_3 : vt_fld 0 11 3 (some 107) := ⟨_, rfl, rfl⟩
theorem fF_RX11_222 : vt_F "ArcadeRents" 222 8 0 := ⟨_, _, _, rfl, by decide, inX8_ok, tb1 (List.mem_of_getElem? (i := 239) rfl) rfl⟩
theorem mk_RX11_225 : Cond.methodLink "ArcadeRents" 225 yX8_append ∈ vt_tbl := tb3 (List.mem_of_getElem? (i := 116) rfl) rfl
def D_X11_trim : vt_MD := (yX11_trim, cX11_trim, 2, some .int)
theorem ok_X11_trim : vt_okV D_X11_trim 1 := ⟨⟨tb3 (List.mem_of_getElem? (i := 123) rfl) rfl, tb1 (List.mem_of_getElem? (i := 1) rfl) rfl, ⟨by decide, by decide, by decide +kernel⟩, by decide +kernel, by decide⟩, tb3 (List.mem_of_getElem? (i := 121) rfl) rfl, tb3 (List.mem_of_getElem? (i := 122) rfl) rfl⟩
def D_X11_lease : vt_MD := (yX11_lease, cX11_lease, 3, some .int)
theorem ok_X11_lease : vt_okV D_X11_lease 1 := ⟨⟨tb3 (List.mem_of_getElem? (i := 127) rfl) rfl, tb1 (List.mem_of_getElem? (i := 1) rfl) rfl, ⟨by decide, by decide, by decide +kernel⟩, by decide +kernel, by decide⟩, tb3 (List.mem_of_getElem? (i := 125) rfl) rfl, tb3 (List.mem_of_getElem? (i := 126) rfl) rfl⟩
theorem mk_RX11_228 : Cond.methodLink "ArcadeRents" 228 yX8_findFault ∈ vt_tbl := tb3 (List.mem_of_getElem? (i := 128) rfl) rfl
theorem fF_RX11_232 : vt_F "ArcadeRents" 232 0 6 := ⟨_, _, _, rfl, by decide, inX0_ok, tb1 (List.mem_of_getElem? (i := 204) rfl) rfl⟩
theorem mk_RX11_236 : Cond.methodLink "ArcadeRents" 236 yX4_store ∈ vt_tbl := tb4 (List.mem_of_getElem? (i := 37) rfl) rfl
theorem fF_RX11_242 : vt_F "ArcadeRents" 242 8 3 := ⟨_, _, _, rfl, by decide, inX8_ok, tb2 (List.mem_of_getElem? (i := 5) rfl) rfl⟩
def D_X11_rent : vt_MD := (yX11_rent, cX11_rent, 4, some .int)
theorem ok_X11_rent : vt_okV D_X11_rent 3 := ⟨⟨tb4 (List.mem_of_getElem? (i := 47) rfl) rfl, tb1 (List.mem_of_getElem? (i := 1) rfl) rfl, ⟨by decide, by decide, by decide +kernel⟩, by decide +kernel, by decide⟩, tb4 (List.mem_of_getElem? (i := 45) rfl) rfl, tb4 (List.mem_of_getElem? (i := 46) rfl) rfl⟩
theorem mk_RX11_245 : Cond.methodLink "ArcadeRents" 245 yX11_rentOf ∈ vt_tbl := tb4 (List.mem_of_getElem? (i := 48) rfl) rfl
def D_X11_rentOf : vt_MD := (yX11_rentOf, cX11_rentOf, 3, some .int)
theorem ok_X11_rentOf : vt_okV D_X11_rentOf 2 := ⟨⟨tb4 (List.mem_of_getElem? (i := 51) rfl) rfl, tb1 (List.mem_of_getElem? (i := 1) rfl) rfl, ⟨by decide, by decide, by decide +kernel⟩, by decide +kernel, by decide⟩, tb4 (List.mem_of_getElem? (i := 50) rfl) rfl, vt_in (List.mem_append_left _ (List.mem_of_getElem? (i := 11) (by rfl))) rfl⟩
def D_X11_rents : vt_MD := (yX11_rents, cX11_rents, 5, some .int)
theorem ok_X11_rents : vt_okV D_X11_rents 2 := ⟨⟨tb4 (List.mem_of_getElem? (i := 84) rfl) rfl, tb1 (List.mem_of_getElem? (i := 1) rfl) rfl, ⟨by decide, by decide, by decide +kernel⟩, by decide +kernel, by decide⟩, tb4 (List.mem_of_getElem? (i := 82) rfl) rfl, tb4 (List.mem_of_getElem? (i := 83) rfl) rfl⟩
def D_X11_charge : vt_MD := (yX11_charge, cX11_charge, 10, some .int)
theorem ok_X11_charge : vt_okV D_X11_charge 3 := ⟨⟨tb4 (List.mem_of_getElem? (i := 88) rfl) rfl, tb1 (List.mem_of_getElem? (i := 1) rfl) rfl, ⟨by decide, by decide, by decide +kernel⟩, by decide +kernel, by decide⟩, tb4 (List.mem_of_getElem? (i := 86) rfl) rfl, tb4 (List.mem_of_getElem? (i := 87) rfl) rfl⟩
theorem ct_RX11_248 : Cond.constant "ArcadeRents" 248 (999999) ∈ vt_tbl := tb4 (List.mem_of_getElem? (i := 89) rfl) rfl
theorem mk_RX11_249 : Cond.methodLink "ArcadeRents" 249 yX2_chargedFeet ∈ vt_tbl := tb4 (List.mem_of_getElem? (i := 90) rfl) rfl
def D_X11_fall : vt_MD := (yX11_fall, cX11_fall, 3, some .int)
theorem ok_X11_fall : vt_okV D_X11_fall 0 := ⟨⟨tb4 (List.mem_of_getElem? (i := 97) rfl) rfl, tb1 (List.mem_of_getElem? (i := 1) rfl) rfl, ⟨by decide, by decide, by decide +kernel⟩, by decide +kernel, by decide⟩, tb4 (List.mem_of_getElem? (i := 95) rfl) rfl, tb4 (List.mem_of_getElem? (i := 96) rfl) rfl⟩
theorem mk_RX11_252 : Cond.methodLink "ArcadeRents" 252 yX11_letFall ∈ vt_tbl := tb4 (List.mem_of_getElem? (i := 98) rfl) rfl
def D_X11_letFall : vt_MD := (yX11_letFall, cX11_letFall, 4, some .int)
theorem ok_X11_letFall : vt_okV D_X11_letFall 0 := ⟨⟨tb4 (List.mem_of_getElem? (i := 101) rfl) rfl, tb1 (List.mem_of_getElem? (i := 1) rfl) rfl, ⟨by decide, by decide, by decide +kernel⟩, by decide +kernel, by decide⟩, tb4 (List.mem_of_getElem? (i := 100) rfl) rfl, vt_in (List.mem_append_left _ (List.mem_of_getElem? (i := 15) (by rfl))) rfl⟩
theorem fF_RX11_258 : vt_F "ArcadeRents" 258 0 8 := ⟨_, _, _, rfl, by decide, inX0_ok, tb1 (List.mem_of_getElem? (i := 208) rfl) rfl⟩
theorem fF_RX11_56 : vt_F "ArcadeRents" 56 11 8 := ⟨_, _, _, rfl, by decide, inX11_ok, tb2 (List.mem_of_getElem? (i := 151) rfl) rfl⟩
theorem fl_0_8 : vt_fld 0 11 8 (some 166) := ⟨_, rfl, rfl⟩
theorem ar_166 : vt_ar 166 0 12 := ⟨_, rfl⟩
theorem fF_RX11_255 : vt_F "ArcadeRents" 255 0 7 := ⟨_, _, _, rfl, by decide, inX0_ok, tb1 (List.mem_of_getElem? (i := 206) rfl) rfl⟩
def D_X11_fallen : vt_MD := (yX11_fallen, cX11_fallen, 2, some .int)
theorem ok_X11_fallen : vt_okV D_X11_fallen 1 := ⟨⟨tb4 (List.mem_of_getElem? (i := 113) rfl) rfl, tb1 (List.mem_of_getElem? (i := 1) rfl) rfl, ⟨by decide, by decide, by decide +kernel⟩, by decide +kernel, by decide⟩, tb4 (List.mem_of_getElem? (i := 111) rfl) rfl, tb4 (List.mem_of_getElem? (i := 112) rfl) rfl⟩
def D_X11_without : vt_MD := (yX11_without, cX11_without, 2, some .int)
theorem ok_X11_without : vt_okV D_X11_without 1 := ⟨⟨tb4 (List.mem_of_getElem? (i := 117) rfl) rfl, tb1 (List.mem_of_getElem? (i := 1) rfl) rfl, ⟨by decide, by decide, by decide +kernel⟩, by decide +kernel, by decide⟩, tb4 (List.mem_of_getElem? (i := 115) rfl) rfl, tb4 (List.mem_of_getElem? (i := 116) rfl) rfl⟩
theorem mk_RX11_261 : Cond.methodLink "ArcadeRents" 261 yX2_sendOut ∈ vt_tbl := tb4 (List.mem_of_getElem? (i := 106) rfl) rfl
def D_X11_broken : vt_MD := (yX11_broken, cX11_broken, 4, some .int)
theorem ok_X11_broken : vt_okV D_X11_broken 0 := ⟨⟨tb4 (List.mem_of_getElem? (i := 121) rfl) rfl, tb1 (List.mem_of_getElem? (i := 1) rfl) rfl, ⟨by decide, by decide, by decide +kernel⟩, by decide +kernel, by decide⟩, tb4 (List.mem_of_getElem? (i := 119) rfl) rfl, tb4 (List.mem_of_getElem? (i := 120) rfl) rfl⟩
theorem mk_RX11_264 : Cond.methodLink "ArcadeRents" 264 yX2_breaks ∈ vt_tbl := tb4 (List.mem_of_getElem? (i := 122) rfl) rfl
def D_X11_mix : vt_MD := (yX11_mix, cX11_mix, 2, some .int)
theorem ok_X11_mix : vt_okV D_X11_mix 1 := ⟨⟨tb4 (List.mem_of_getElem? (i := 134) rfl) rfl, tb1 (List.mem_of_getElem? (i := 1) rfl) rfl, ⟨by decide, by decide, by decide +kernel⟩, by decide +kernel, by decide⟩, tb4 (List.mem_of_getElem? (i := 132) rfl) rfl, tb4 (List.mem_of_getElem? (i := 133) rfl) rfl⟩
theorem mk_RX11_268 : Cond.methodLink "ArcadeRents" 268 yX11_isTries ∈ vt_tbl := tb4 (List.mem_of_getElem? (i := 135) rfl) rfl
theorem mk_RX11_271 : Cond.methodLink "ArcadeRents" 271 yX11_seek ∈ vt_tbl := tb4 (List.mem_of_getElem? (i := 139) rfl) rfl
def D_X11_seek : vt_MD := (yX11_seek, cX11_seek, 2, some .boolean)
theorem ok_X11_seek : vt_okV D_X11_seek 1 := ⟨⟨tb4 (List.mem_of_getElem? (i := 142) rfl) rfl, tb1 (List.mem_of_getElem? (i := 1) rfl) rfl, ⟨by decide, by decide, by decide +kernel⟩, by decide +kernel, by decide⟩, tb4 (List.mem_of_getElem? (i := 141) rfl) rfl, vt_in (List.mem_append_left _ (List.mem_of_getElem? (i := 17) (by rfl))) rfl⟩
theorem ct_RX11_277 : Cond.constant "ArcadeRents" 277 (-1000000004) ∈ vt_tbl := tb4 (List.mem_of_getElem? (i := 172) rfl) rfl
theorem fF_RX11_52 : vt_F "ArcadeRents" 52 11 7 := ⟨_, _, _, rfl, by decide, inX11_ok, tb2 (List.mem_of_getElem? (i := 150) rfl) rfl⟩
theorem fl_0_7 : vt_fld 0 11 7 (some 123) := ⟨_, rfl, rfl⟩
theorem fF_RX11_274 : vt_F "ArcadeRents" 274 6 1 := ⟨_, _, _, rfl, by decide, inX6_ok, tb2 (List.mem_of_getElem? (i := 116) rfl) rfl⟩
def D_X11_mixed : vt_MD := (yX11_mixed, cX11_mixed, 3, some .int)
theorem ok_X11_mixed : vt_okV D_X11_mixed 2 := ⟨⟨tb4 (List.mem_of_getElem? (i := 176) rfl) rfl, tb1 (List.mem_of_getElem? (i := 1) rfl) rfl, ⟨by decide, by decide, by decide +kernel⟩, by decide +kernel, by decide⟩, tb4 (List.mem_of_getElem? (i := 174) rfl) rfl, tb4 (List.mem_of_getElem? (i := 175) rfl) rfl⟩
theorem fF_RX11_278 : vt_F "ArcadeRents" 278 6 0 := ⟨_, _, _, rfl, by decide, inX6_ok, tb2 (List.mem_of_getElem? (i := 114) rfl) rfl⟩
def D_X11_tell : vt_MD := (yX11_tell, cX11_tell, 2, some .int)
theorem ok_X11_tell : vt_okV D_X11_tell 1 := ⟨⟨tb4 (List.mem_of_getElem? (i := 180) rfl) rfl, tb1 (List.mem_of_getElem? (i := 1) rfl) rfl, ⟨by decide, by decide, by decide +kernel⟩, by decide +kernel, by decide⟩, tb4 (List.mem_of_getElem? (i := 178) rfl) rfl, tb4 (List.mem_of_getElem? (i := 179) rfl) rfl⟩
theorem fF_RX11_281 : vt_F "ArcadeRents" 281 11 10 := ⟨_, _, _, rfl, by decide, inX11_ok, tb2 (List.mem_of_getElem? (i := 153) rfl) rfl⟩
theorem fl_0_10 : vt_fld 0 11 10 none := ⟨_, rfl, rfl⟩
theorem fF_RX11_60 : vt_F "ArcadeRents" 60 11 9 := ⟨_, _, _, rfl, by decide, inX11_ok, tb2 (List.mem_of_getElem? (i := 152) rfl) rfl⟩
theorem fl_0_9 : vt_fld 0 11 9 (some 167) := ⟨_, rfl, rfl⟩
theorem ar_167 : vt_ar 167 0 24 := ⟨_, rfl⟩
theorem fP_11_10 : vt_FP 11 10 .int := fun C T N h => by cases h; exact ⟨tyX11, tyX11_ok, nmX11, rfl, rfl⟩
def D_X11_check : vt_MD := (yX11_check, cX11_check, 5, some .int)
theorem ok_X11_check : vt_okV D_X11_check 0 := ⟨⟨tb4 (List.mem_of_getElem? (i := 184) rfl) rfl, tb1 (List.mem_of_getElem? (i := 1) rfl) rfl, ⟨by decide, by decide, by decide +kernel⟩, by decide +kernel, by decide⟩, tb4 (List.mem_of_getElem? (i := 182) rfl) rfl, tb4 (List.mem_of_getElem? (i := 183) rfl) rfl⟩
def D_X11_keep : vt_MD := (yX11_keep, cX11_keep, 1, some .int)
theorem ok_X11_keep : vt_okV D_X11_keep 0 := ⟨⟨tb4 (List.mem_of_getElem? (i := 188) rfl) rfl, tb1 (List.mem_of_getElem? (i := 1) rfl) rfl, ⟨by decide, by decide, by decide +kernel⟩, by decide +kernel, by decide⟩, tb4 (List.mem_of_getElem? (i := 186) rfl) rfl, tb4 (List.mem_of_getElem? (i := 187) rfl) rfl⟩
theorem fF_RX11_16 : vt_F "ArcadeRents" 16 11 1 := ⟨_, _, _, rfl, by decide, inX11_ok, tb2 (List.mem_of_getElem? (i := 144) rfl) rfl⟩
theorem fl_0_1 : vt_fld 0 11 1 (some 54) := ⟨_, rfl, rfl⟩
theorem mk_RX11_285 : Cond.methodLink "ArcadeRents" 285 yX0_become ∈ vt_tbl := tb4 (List.mem_of_getElem? (i := 189) rfl) rfl
theorem rc_54 {g : vt_GT} : vt_rcv g RX0 (g.2.1 54) := vt_rcvO (ci := 0) (q := (RX0, TX0, _)) rfl rfl
theorem fF_RX11_288 : vt_F "ArcadeRents" 288 11 2 := ⟨_, _, _, rfl, by decide, inX11_ok, tb2 (List.mem_of_getElem? (i := 145) rfl) rfl⟩
theorem fP_11_2 : vt_FP 11 2 .boolean := fun C T N h => by cases h; exact ⟨tyX11, tyX11_ok, nmX11, rfl, rfl⟩
theorem fl_0_2 : vt_fld 0 11 2 none := ⟨_, rfl, rfl⟩
def D_X11_back : vt_MD := (yX11_back, cX11_back, 1, some .int)
theorem ok_X11_back : vt_okV D_X11_back 0 := ⟨⟨tb4 (List.mem_of_getElem? (i := 221) rfl) rfl, tb1 (List.mem_of_getElem? (i := 1) rfl) rfl, ⟨by decide, by decide, by decide +kernel⟩, by decide +kernel, by decide⟩, tb4 (List.mem_of_getElem? (i := 219) rfl) rfl, tb4 (List.mem_of_getElem? (i := 220) rfl) rfl⟩
theorem rc_1 {g : vt_GT} : vt_rcv g RX0 (g.2.1 1) := vt_rcvO (ci := 0) (q := (RX0, TX0, _)) rfl rfl
def D_X11_sheet : vt_MD := (yX11_sheet, cX11_sheet, 3, some .int)
theorem ok_X11_sheet : vt_okV D_X11_sheet 2 := ⟨⟨tb4 (List.mem_of_getElem? (i := 225) rfl) rfl, tb1 (List.mem_of_getElem? (i := 1) rfl) rfl, ⟨by decide, by decide, by decide +kernel⟩, by decide +kernel, by decide⟩, tb4 (List.mem_of_getElem? (i := 223) rfl) rfl, tb4 (List.mem_of_getElem? (i := 224) rfl) rfl⟩
theorem mk_RX11_293 : Cond.methodLink "ArcadeRents" 293 yX9_begin ∈ vt_tbl := tb4 (List.mem_of_getElem? (i := 227) rfl) rfl
theorem ct_RX11_292 : Cond.constant "ArcadeRents" 292 (-1000000014) ∈ vt_tbl := tb4 (List.mem_of_getElem? (i := 226) rfl) rfl
def D_X11_mark : vt_MD := (yX11_mark, cX11_mark, 5, some .int)
theorem ok_X11_mark : vt_okV D_X11_mark 3 := ⟨⟨tb4 (List.mem_of_getElem? (i := 237) rfl) rfl, tb1 (List.mem_of_getElem? (i := 1) rfl) rfl, ⟨by decide, by decide, by decide +kernel⟩, by decide +kernel, by decide⟩, tb4 (List.mem_of_getElem? (i := 235) rfl) rfl, tb4 (List.mem_of_getElem? (i := 236) rfl) rfl⟩
theorem mk_RX11_297 : Cond.methodLink "ArcadeRents" 297 yX9_reaches ∈ vt_tbl := tb4 (List.mem_of_getElem? (i := 238) rfl) rfl
theorem ct_RX11_300 : Cond.constant "ArcadeRents" 300 (-1000000013) ∈ vt_tbl := tb5 (List.mem_of_getElem? (i := 2) rfl) rfl
def D_X11_copy : vt_MD := (yX11_copy, cX11_copy, 6, some .int)
theorem ok_X11_copy : vt_okV D_X11_copy 5 := ⟨⟨tb5 (List.mem_of_getElem? (i := 6) rfl) rfl, tb1 (List.mem_of_getElem? (i := 1) rfl) rfl, ⟨by decide, by decide, by decide +kernel⟩, by decide +kernel, by decide⟩, tb5 (List.mem_of_getElem? (i := 4) rfl) rfl, tb5 (List.mem_of_getElem? (i := 5) rfl) rfl⟩
theorem mk_RX11_301 : Cond.methodLink "ArcadeRents" 301 arraycopyName ∈ vt_tbl := tb5 (List.mem_of_getElem? (i := 7) rfl) rfl
def D_X11_count : vt_MD := (yX11_count, cX11_count, 2, some .int)
theorem ok_X11_count : vt_okV D_X11_count 1 := ⟨⟨tb5 (List.mem_of_getElem? (i := 11) rfl) rfl, tb1 (List.mem_of_getElem? (i := 1) rfl) rfl, ⟨by decide, by decide, by decide +kernel⟩, by decide +kernel, by decide⟩, tb5 (List.mem_of_getElem? (i := 9) rfl) rfl, tb5 (List.mem_of_getElem? (i := 10) rfl) rfl⟩
theorem mk_RX11_313 : Cond.methodLink "ArcadeRents" 313 yX4_countHeld ∈ vt_tbl := tb5 (List.mem_of_getElem? (i := 20) rfl) rfl
theorem mk_RX11_310 : Cond.methodLink "ArcadeRents" 310 yX5_countWithdrawn ∈ vt_tbl := tb5 (List.mem_of_getElem? (i := 16) rfl) rfl
theorem mk_RX11_307 : Cond.methodLink "ArcadeRents" 307 yX11_countIn ∈ vt_tbl := tb5 (List.mem_of_getElem? (i := 12) rfl) rfl
def D_X11_countIn : vt_MD := (yX11_countIn, cX11_countIn, 1, some .int)
theorem ok_X11_countIn : vt_okV D_X11_countIn 0 := ⟨⟨tb5 (List.mem_of_getElem? (i := 15) rfl) rfl, tb1 (List.mem_of_getElem? (i := 1) rfl) rfl, ⟨by decide, by decide, by decide +kernel⟩, by decide +kernel, by decide⟩, tb5 (List.mem_of_getElem? (i := 14) rfl) rfl, vt_in (List.mem_append_left _ (List.mem_of_getElem? (i := 23) (by rfl))) rfl⟩
theorem fF_RX11_316 : vt_F "ArcadeRents" 316 2 2 := ⟨_, _, _, rfl, by decide, inX2_ok, tb2 (List.mem_of_getElem? (i := 64) rfl) rfl⟩
theorem fF_RX11_319 : vt_F "ArcadeRents" 319 4 0 := ⟨_, _, _, rfl, by decide, inX4_ok, tb1 (List.mem_of_getElem? (i := 165) rfl) rfl⟩
theorem mk_RX11_323 : Cond.methodLink "ArcadeRents" 323 yX11_rentPart ∈ vt_tbl := tb4 (List.mem_of_getElem? (i := 52) rfl) rfl
def D_X11_rentPart : vt_MD := (yX11_rentPart, cX11_rentPart, 5, some .int)
theorem ok_X11_rentPart : vt_okV D_X11_rentPart 3 := ⟨⟨tb4 (List.mem_of_getElem? (i := 55) rfl) rfl, tb1 (List.mem_of_getElem? (i := 1) rfl) rfl, ⟨by decide, by decide, by decide +kernel⟩, by decide +kernel, by decide⟩, tb4 (List.mem_of_getElem? (i := 54) rfl) rfl, vt_in (List.mem_append_left _ (List.mem_of_getElem? (i := 12) (by rfl))) rfl⟩
theorem fF_RX11_45 : vt_F "ArcadeRents" 45 11 6 := ⟨_, _, _, rfl, by decide, inX11_ok, tb2 (List.mem_of_getElem? (i := 149) rfl) rfl⟩
theorem fl_0_6 : vt_fld 0 11 6 (some 121) := ⟨_, rfl, rfl⟩
theorem mk_RX11_326 : Cond.methodLink "ArcadeRents" 326 yX1_work ∈ vt_tbl := tb4 (List.mem_of_getElem? (i := 56) rfl) rfl
theorem mk_RX11_330 : Cond.methodLink "ArcadeRents" 330 Lib.Math.max.name ∈ vt_tbl := tb4 (List.mem_of_getElem? (i := 80) rfl) rfl
theorem mk_RX11_333 : Cond.methodLink "ArcadeRents" 333 yX11_firstToLeave ∈ vt_tbl := tb4 (List.mem_of_getElem? (i := 102) rfl) rfl
def D_X11_firstToLeave : vt_MD := (yX11_firstToLeave, cX11_firstToLeave, 3, some .int)
theorem ok_X11_firstToLeave : vt_okV D_X11_firstToLeave 0 := ⟨⟨tb4 (List.mem_of_getElem? (i := 105) rfl) rfl, tb1 (List.mem_of_getElem? (i := 1) rfl) rfl, ⟨by decide, by decide, by decide +kernel⟩, by decide +kernel, by decide⟩, tb4 (List.mem_of_getElem? (i := 104) rfl) rfl, vt_in (List.mem_append_left _ (List.mem_of_getElem? (i := 16) (by rfl))) rfl⟩
theorem mk_RX11_336 : Cond.methodLink "ArcadeRents" 336 yX6_search ∈ vt_tbl := tb4 (List.mem_of_getElem? (i := 143) rfl) rfl
def D_X12_feet : vt_MD := (yX12_feet, cX12_feet, 4, some .int)
theorem ok_X12_feet : vt_okV D_X12_feet 2 := ⟨⟨tb5 (List.mem_of_getElem? (i := 118) rfl) rfl, tb1 (List.mem_of_getElem? (i := 14) rfl) rfl, ⟨by decide, by decide, by decide +kernel⟩, by decide +kernel, by decide⟩, tb5 (List.mem_of_getElem? (i := 116) rfl) rfl, tb5 (List.mem_of_getElem? (i := 117) rfl) rfl⟩
theorem mk_RX12_53 : Cond.methodLink "ArcadeRentsModel" 53 yX12_isPlace ∈ vt_tbl := tb5 (List.mem_of_getElem? (i := 119) rfl) rfl
theorem ct_RX12_57 : Cond.constant "ArcadeRentsModel" 57 (-1000000001) ∈ vt_tbl := tb5 (List.mem_of_getElem? (i := 125) rfl) rfl
def D_X12_lay : vt_MD := (yX12_lay, cX12_lay, 5, some .int)
theorem ok_X12_lay : vt_okV D_X12_lay 1 := ⟨⟨tb5 (List.mem_of_getElem? (i := 129) rfl) rfl, tb1 (List.mem_of_getElem? (i := 14) rfl) rfl, ⟨by decide, by decide, by decide +kernel⟩, by decide +kernel, by decide⟩, tb5 (List.mem_of_getElem? (i := 127) rfl) rfl, tb5 (List.mem_of_getElem? (i := 128) rfl) rfl⟩
theorem fF_RX12_22 : vt_F "ArcadeRentsModel" 22 12 7 := ⟨_, _, _, rfl, by decide, inX12_ok, tb5 (List.mem_of_getElem? (i := 37) rfl) rfl⟩
theorem fl_168_7 : vt_fld 168 12 7 (some 173) := ⟨_, rfl, rfl⟩
theorem ar_173 : vt_ar 173 0 2 := ⟨_, rfl⟩
theorem ct_RX12_58 : Cond.constant "ArcadeRentsModel" 58 (-1000000011) ∈ vt_tbl := tb5 (List.mem_of_getElem? (i := 130) rfl) rfl
theorem fF_RX12_25 : vt_F "ArcadeRentsModel" 25 12 8 := ⟨_, _, _, rfl, by decide, inX12_ok, tb5 (List.mem_of_getElem? (i := 38) rfl) rfl⟩
theorem fl_168_8 : vt_fld 168 12 8 (some 174) := ⟨_, rfl, rfl⟩
theorem ar_174 : vt_ar 174 0 32 := ⟨_, rfl⟩
def D_X12_door : vt_MD := (yX12_door, cX12_door, 4, some .int)
theorem ok_X12_door : vt_okV D_X12_door 2 := ⟨⟨tb5 (List.mem_of_getElem? (i := 134) rfl) rfl, tb1 (List.mem_of_getElem? (i := 14) rfl) rfl, ⟨by decide, by decide, by decide +kernel⟩, by decide +kernel, by decide⟩, tb5 (List.mem_of_getElem? (i := 132) rfl) rfl, tb5 (List.mem_of_getElem? (i := 133) rfl) rfl⟩
theorem ct_RX12_59 : Cond.constant "ArcadeRentsModel" 59 (-1000000003) ∈ vt_tbl := tb5 (List.mem_of_getElem? (i := 135) rfl) rfl
def D_X12_people : vt_MD := (yX12_people, cX12_people, 4, some .int)
theorem ok_X12_people : vt_okV D_X12_people 2 := ⟨⟨tb5 (List.mem_of_getElem? (i := 139) rfl) rfl, tb1 (List.mem_of_getElem? (i := 14) rfl) rfl, ⟨by decide, by decide, by decide +kernel⟩, by decide +kernel, by decide⟩, tb5 (List.mem_of_getElem? (i := 137) rfl) rfl, tb5 (List.mem_of_getElem? (i := 138) rfl) rfl⟩
def D_X12_shop : vt_MD := (yX12_shop, cX12_shop, 7, some .int)
theorem ok_X12_shop : vt_okV D_X12_shop 5 := ⟨⟨tb5 (List.mem_of_getElem? (i := 143) rfl) rfl, tb1 (List.mem_of_getElem? (i := 14) rfl) rfl, ⟨by decide, by decide, by decide +kernel⟩, by decide +kernel, by decide⟩, tb5 (List.mem_of_getElem? (i := 141) rfl) rfl, tb5 (List.mem_of_getElem? (i := 142) rfl) rfl⟩
theorem ct_RX12_60 : Cond.constant "ArcadeRentsModel" 60 (99999) ∈ vt_tbl := tb5 (List.mem_of_getElem? (i := 144) rfl) rfl
def D_X12_isOf : vt_MD := (yX12_isOf, cX12_isOf, 4, some .int)
theorem ok_X12_isOf : vt_okV D_X12_isOf 2 := ⟨⟨tb5 (List.mem_of_getElem? (i := 151) rfl) rfl, tb1 (List.mem_of_getElem? (i := 14) rfl) rfl, ⟨by decide, by decide, by decide +kernel⟩, by decide +kernel, by decide⟩, tb5 (List.mem_of_getElem? (i := 149) rfl) rfl, tb5 (List.mem_of_getElem? (i := 150) rfl) rfl⟩
theorem mk_RX12_65 : Cond.methodLink "ArcadeRentsModel" 65 yX12_isShop ∈ vt_tbl := tb5 (List.mem_of_getElem? (i := 152) rfl) rfl
theorem rc_168 {g : vt_GT} : vt_rcv g RX12 (g.2.1 168) := vt_rcvO (ci := 12) (q := (RX12, TX12, _)) rfl rfl
def D_X12_placeOf : vt_MD := (yX12_placeOf, cX12_placeOf, 6, some .int)
theorem ok_X12_placeOf : vt_okV D_X12_placeOf 2 := ⟨⟨tb5 (List.mem_of_getElem? (i := 168) rfl) rfl, tb1 (List.mem_of_getElem? (i := 14) rfl) rfl, ⟨by decide, by decide, by decide +kernel⟩, by decide +kernel, by decide⟩, tb5 (List.mem_of_getElem? (i := 167) rfl) rfl, vt_in (List.mem_append_left _ (List.mem_of_getElem? (i := 26) (by rfl))) rfl⟩
def D_X12_findStands : vt_MD := (yX12_findStands, cX12_findStands, 3, none)
theorem ok_X12_findStands : vt_okV D_X12_findStands 1 := ⟨⟨tb5 (List.mem_of_getElem? (i := 164) rfl) rfl, tb1 (List.mem_of_getElem? (i := 14) rfl) rfl, ⟨by decide, by decide, by decide +kernel⟩, by decide +kernel, by decide⟩, tb5 (List.mem_of_getElem? (i := 163) rfl) rfl, vt_in (List.mem_append_left _ (List.mem_of_getElem? (i := 25) (by rfl))) rfl⟩
theorem mk_RX12_68 : Cond.methodLink "ArcadeRentsModel" 68 yX12_placeOf ∈ vt_tbl := tb5 (List.mem_of_getElem? (i := 165) rfl) rfl
def D_X12_shopAt : vt_MD := (yX12_shopAt, cX12_shopAt, 3, some .int)
theorem ok_X12_shopAt : vt_okV D_X12_shopAt 1 := ⟨⟨tb5 (List.mem_of_getElem? (i := 172) rfl) rfl, tb1 (List.mem_of_getElem? (i := 14) rfl) rfl, ⟨by decide, by decide, by decide +kernel⟩, by decide +kernel, by decide⟩, tb5 (List.mem_of_getElem? (i := 171) rfl) rfl, vt_in (List.mem_append_left _ (List.mem_of_getElem? (i := 27) (by rfl))) rfl⟩
def D_X12_moves : vt_MD := (yX12_moves, cX12_moves, 3, none)
theorem ok_X12_moves : vt_okV D_X12_moves 2 := ⟨⟨tb5 (List.mem_of_getElem? (i := 177) rfl) rfl, tb1 (List.mem_of_getElem? (i := 14) rfl) rfl, ⟨by decide, by decide, by decide +kernel⟩, by decide +kernel, by decide⟩, tb5 (List.mem_of_getElem? (i := 176) rfl) rfl, vt_in (List.mem_append_left _ (List.mem_of_getElem? (i := 28) (by rfl))) rfl⟩
def D_X12_move : vt_MD := (yX12_move, cX12_move, 5, some .int)
theorem ok_X12_move : vt_okV D_X12_move 2 := ⟨⟨tb5 (List.mem_of_getElem? (i := 159) rfl) rfl, tb1 (List.mem_of_getElem? (i := 14) rfl) rfl, ⟨by decide, by decide, by decide +kernel⟩, by decide +kernel, by decide⟩, tb5 (List.mem_of_getElem? (i := 157) rfl) rfl, tb5 (List.mem_of_getElem? (i := 158) rfl) rfl⟩
theorem ct_RX12_71 : Cond.constant "ArcadeRentsModel" 71 (-1000000005) ∈ vt_tbl := tb5 (List.mem_of_getElem? (i := 160) rfl) rfl
theorem mk_RX12_72 : Cond.methodLink "ArcadeRentsModel" 72 yX12_findStands ∈ vt_tbl := tb5 (List.mem_of_getElem? (i := 161) rfl) rfl
theorem ct_RX12_80 : Cond.constant "ArcadeRentsModel" 80 (-1000000002) ∈ vt_tbl := tb5 (List.mem_of_getElem? (i := 173) rfl) rfl
theorem mk_RX12_81 : Cond.methodLink "ArcadeRentsModel" 81 yX12_moves ∈ vt_tbl := tb5 (List.mem_of_getElem? (i := 174) rfl) rfl
theorem mk_RX12_76 : Cond.methodLink "ArcadeRentsModel" 76 yX12_shopAt ∈ vt_tbl := tb5 (List.mem_of_getElem? (i := 169) rfl) rfl
def D_X12_months : vt_MD := (yX12_months, cX12_months, 2, some .int)
theorem ok_X12_months : vt_okV D_X12_months 1 := ⟨⟨tb5 (List.mem_of_getElem? (i := 181) rfl) rfl, tb1 (List.mem_of_getElem? (i := 14) rfl) rfl, ⟨by decide, by decide, by decide +kernel⟩, by decide +kernel, by decide⟩, tb5 (List.mem_of_getElem? (i := 179) rfl) rfl, tb5 (List.mem_of_getElem? (i := 180) rfl) rfl⟩
def D_X12_rule : vt_MD := (yX12_rule, cX12_rule, 4, some .int)
theorem ok_X12_rule : vt_okV D_X12_rule 2 := ⟨⟨tb5 (List.mem_of_getElem? (i := 185) rfl) rfl, tb1 (List.mem_of_getElem? (i := 14) rfl) rfl, ⟨by decide, by decide, by decide +kernel⟩, by decide +kernel, by decide⟩, tb5 (List.mem_of_getElem? (i := 183) rfl) rfl, tb5 (List.mem_of_getElem? (i := 184) rfl) rfl⟩
def D_X12_pulls : vt_MD := (yX12_pulls, cX12_pulls, 3, some .int)
theorem ok_X12_pulls : vt_okV D_X12_pulls 0 := ⟨⟨tb5 (List.mem_of_getElem? (i := 201) rfl) rfl, tb1 (List.mem_of_getElem? (i := 14) rfl) rfl, ⟨by decide, by decide, by decide +kernel⟩, by decide +kernel, by decide⟩, tb5 (List.mem_of_getElem? (i := 200) rfl) rfl, vt_in (List.mem_append_left _ (List.mem_of_getElem? (i := 31) (by rfl))) rfl⟩
def D_X12_goFrom : vt_MD := (yX12_goFrom, cX12_goFrom, 4, some .int)
theorem ok_X12_goFrom : vt_okV D_X12_goFrom 3 := ⟨⟨tb5 (List.mem_of_getElem? (i := 205) rfl) rfl, tb1 (List.mem_of_getElem? (i := 14) rfl) rfl, ⟨by decide, by decide, by decide +kernel⟩, by decide +kernel, by decide⟩, tb5 (List.mem_of_getElem? (i := 204) rfl) rfl, vt_in (List.mem_append_left _ (List.mem_of_getElem? (i := 32) (by rfl))) rfl⟩
def D_X12_comers : vt_MD := (yX12_comers, cX12_comers, 5, some .int)
theorem ok_X12_comers : vt_okV D_X12_comers 1 := ⟨⟨tb5 (List.mem_of_getElem? (i := 197) rfl) rfl, tb1 (List.mem_of_getElem? (i := 14) rfl) rfl, ⟨by decide, by decide, by decide +kernel⟩, by decide +kernel, by decide⟩, tb5 (List.mem_of_getElem? (i := 196) rfl) rfl, vt_in (List.mem_append_left _ (List.mem_of_getElem? (i := 30) (by rfl))) rfl⟩
theorem mk_RX12_85 : Cond.methodLink "ArcadeRentsModel" 85 yX12_pulls ∈ vt_tbl := tb5 (List.mem_of_getElem? (i := 198) rfl) rfl
theorem mk_RX12_89 : Cond.methodLink "ArcadeRentsModel" 89 yX12_goFrom ∈ vt_tbl := tb5 (List.mem_of_getElem? (i := 202) rfl) rfl
def D_X12_passers : vt_MD := (yX12_passers, cX12_passers, 8, some .int)
theorem ok_X12_passers : vt_okV D_X12_passers 1 := ⟨⟨tb5 (List.mem_of_getElem? (i := 209) rfl) rfl, tb1 (List.mem_of_getElem? (i := 14) rfl) rfl, ⟨by decide, by decide, by decide +kernel⟩, by decide +kernel, by decide⟩, tb5 (List.mem_of_getElem? (i := 208) rfl) rfl, vt_in (List.mem_append_left _ (List.mem_of_getElem? (i := 33) (by rfl))) rfl⟩
theorem mk_RX12_93 : Cond.methodLink "ArcadeRentsModel" 93 Lib.Math.min.name ∈ vt_tbl := tb5 (List.mem_of_getElem? (i := 210) rfl) rfl
theorem mk_RX12_98 : Cond.methodLink "ArcadeRentsModel" 98 Lib.Math.max.name ∈ vt_tbl := tb5 (List.mem_of_getElem? (i := 211) rfl) rfl
def D_X12_foretold : vt_MD := (yX12_foretold, cX12_foretold, 2, some .int)
theorem ok_X12_foretold : vt_okV D_X12_foretold 1 := ⟨⟨tb5 (List.mem_of_getElem? (i := 215) rfl) rfl, tb1 (List.mem_of_getElem? (i := 14) rfl) rfl, ⟨by decide, by decide, by decide +kernel⟩, by decide +kernel, by decide⟩, tb5 (List.mem_of_getElem? (i := 214) rfl) rfl, vt_in (List.mem_append_left _ (List.mem_of_getElem? (i := 34) (by rfl))) rfl⟩
theorem mk_RX12_101 : Cond.methodLink "ArcadeRentsModel" 101 yX12_comers ∈ vt_tbl := tb5 (List.mem_of_getElem? (i := 194) rfl) rfl
theorem mk_RX12_104 : Cond.methodLink "ArcadeRentsModel" 104 yX12_passers ∈ vt_tbl := tb5 (List.mem_of_getElem? (i := 206) rfl) rfl
def D_X12_others : vt_MD := (yX12_others, cX12_others, 8, some .int)
theorem ok_X12_others : vt_okV D_X12_others 2 := ⟨⟨tb5 (List.mem_of_getElem? (i := 219) rfl) rfl, tb1 (List.mem_of_getElem? (i := 14) rfl) rfl, ⟨by decide, by decide, by decide +kernel⟩, by decide +kernel, by decide⟩, tb5 (List.mem_of_getElem? (i := 218) rfl) rfl, vt_in (List.mem_append_left _ (List.mem_of_getElem? (i := 35) (by rfl))) rfl⟩
theorem mk_RX12_107 : Cond.methodLink "ArcadeRentsModel" 107 Lib.Math.abs.name ∈ vt_tbl := tb5 (List.mem_of_getElem? (i := 220) rfl) rfl
def D_X12_stands : vt_MD := (yX12_stands, cX12_stands, 4, some .int)
theorem ok_X12_stands : vt_okV D_X12_stands 3 := ⟨⟨tb5 (List.mem_of_getElem? (i := 189) rfl) rfl, tb1 (List.mem_of_getElem? (i := 14) rfl) rfl, ⟨by decide, by decide, by decide +kernel⟩, by decide +kernel, by decide⟩, tb5 (List.mem_of_getElem? (i := 187) rfl) rfl, tb5 (List.mem_of_getElem? (i := 188) rfl) rfl⟩
theorem mk_RX12_110 : Cond.methodLink "ArcadeRentsModel" 110 yX12_isPast ∈ vt_tbl := tb5 (List.mem_of_getElem? (i := 190) rfl) rfl
theorem mk_RX12_116 : Cond.methodLink "ArcadeRentsModel" 116 yX12_others ∈ vt_tbl := tb5 (List.mem_of_getElem? (i := 216) rfl) rfl
theorem mk_RX12_113 : Cond.methodLink "ArcadeRentsModel" 113 yX12_foretold ∈ vt_tbl := tb5 (List.mem_of_getElem? (i := 212) rfl) rfl
def D_X12_past : vt_MD := (yX12_past, cX12_past, 3, some .int)
theorem ok_X12_past : vt_okV D_X12_past 2 := ⟨⟨tb5 (List.mem_of_getElem? (i := 224) rfl) rfl, tb1 (List.mem_of_getElem? (i := 14) rfl) rfl, ⟨by decide, by decide, by decide +kernel⟩, by decide +kernel, by decide⟩, tb5 (List.mem_of_getElem? (i := 222) rfl) rfl, tb5 (List.mem_of_getElem? (i := 223) rfl) rfl⟩
def D_X12_take : vt_MD := (yX12_take, cX12_take, 5, some .int)
theorem ok_X12_take : vt_okV D_X12_take 3 := ⟨⟨tb5 (List.mem_of_getElem? (i := 228) rfl) rfl, tb1 (List.mem_of_getElem? (i := 14) rfl) rfl, ⟨by decide, by decide, by decide +kernel⟩, by decide +kernel, by decide⟩, tb5 (List.mem_of_getElem? (i := 226) rfl) rfl, tb5 (List.mem_of_getElem? (i := 227) rfl) rfl⟩
theorem ct_RX12_119 : Cond.constant "ArcadeRentsModel" 119 (-99999) ∈ vt_tbl := tb5 (List.mem_of_getElem? (i := 229) rfl) rfl
def D_X12_withdraw : vt_MD := (yX12_withdraw, cX12_withdraw, 2, some .int)
theorem ok_X12_withdraw : vt_okV D_X12_withdraw 1 := ⟨⟨tb5 (List.mem_of_getElem? (i := 233) rfl) rfl, tb1 (List.mem_of_getElem? (i := 14) rfl) rfl, ⟨by decide, by decide, by decide +kernel⟩, by decide +kernel, by decide⟩, tb5 (List.mem_of_getElem? (i := 231) rfl) rfl, tb5 (List.mem_of_getElem? (i := 232) rfl) rfl⟩
theorem mk_RX12_121 : Cond.methodLink "ArcadeRentsModel" 121 yX12_gone ∈ vt_tbl := tb5 (List.mem_of_getElem? (i := 234) rfl) rfl
def D_X12_line : vt_MD := (yX12_line, cX12_line, 4, some .int)
theorem ok_X12_line : vt_okV D_X12_line 2 := ⟨⟨tb6 (List.mem_of_getElem? (i := 2) rfl) rfl, tb1 (List.mem_of_getElem? (i := 14) rfl) rfl, ⟨by decide, by decide, by decide +kernel⟩, by decide +kernel, by decide⟩, tb6 (List.mem_of_getElem? (i := 0) rfl) rfl, tb6 (List.mem_of_getElem? (i := 1) rfl) rfl⟩
def D_X12_taken : vt_MD := (yX12_taken, cX12_taken, 8, some .int)
theorem ok_X12_taken : vt_okV D_X12_taken 3 := ⟨⟨tb6 (List.mem_of_getElem? (i := 10) rfl) rfl, tb1 (List.mem_of_getElem? (i := 14) rfl) rfl, ⟨by decide, by decide, by decide +kernel⟩, by decide +kernel, by decide⟩, tb6 (List.mem_of_getElem? (i := 9) rfl) rfl, vt_in (List.mem_append_left _ (List.mem_of_getElem? (i := 37) (by rfl))) rfl⟩
def D_X12_takings : vt_MD := (yX12_takings, cX12_takings, 4, some .int)
theorem ok_X12_takings : vt_okV D_X12_takings 3 := ⟨⟨tb6 (List.mem_of_getElem? (i := 6) rfl) rfl, tb1 (List.mem_of_getElem? (i := 14) rfl) rfl, ⟨by decide, by decide, by decide +kernel⟩, by decide +kernel, by decide⟩, tb6 (List.mem_of_getElem? (i := 4) rfl) rfl, tb6 (List.mem_of_getElem? (i := 5) rfl) rfl⟩
theorem mk_RX12_124 : Cond.methodLink "ArcadeRentsModel" 124 yX12_taken ∈ vt_tbl := tb6 (List.mem_of_getElem? (i := 7) rfl) rfl
def D_X12_beyond : vt_MD := (yX12_beyond, cX12_beyond, 7, some .int)
theorem ok_X12_beyond : vt_okV D_X12_beyond 3 := ⟨⟨tb6 (List.mem_of_getElem? (i := 14) rfl) rfl, tb1 (List.mem_of_getElem? (i := 14) rfl) rfl, ⟨by decide, by decide, by decide +kernel⟩, by decide +kernel, by decide⟩, tb6 (List.mem_of_getElem? (i := 12) rfl) rfl, tb6 (List.mem_of_getElem? (i := 13) rfl) rfl⟩
theorem cl_RX12_127 : Cond.constantLong "ArcadeRentsModel" 127 (100) ∈ vt_tbl := tb6 (List.mem_of_getElem? (i := 15) rfl) rfl
def D_X12_feed : vt_MD := (yX12_feed, cX12_feed, 6, some .int)
theorem ok_X12_feed : vt_okV D_X12_feed 3 := ⟨⟨tb6 (List.mem_of_getElem? (i := 19) rfl) rfl, tb1 (List.mem_of_getElem? (i := 14) rfl) rfl, ⟨by decide, by decide, by decide +kernel⟩, by decide +kernel, by decide⟩, tb6 (List.mem_of_getElem? (i := 17) rfl) rfl, tb6 (List.mem_of_getElem? (i := 18) rfl) rfl⟩
theorem fP_12_4 : vt_FP 12 4 .int := fun C T N h => by cases h; exact ⟨tyX12, tyX12_ok, nmX12, rfl, rfl⟩
def D_X12_trim : vt_MD := (yX12_trim, cX12_trim, 2, some .int)
theorem ok_X12_trim : vt_okV D_X12_trim 1 := ⟨⟨tb6 (List.mem_of_getElem? (i := 23) rfl) rfl, tb1 (List.mem_of_getElem? (i := 14) rfl) rfl, ⟨by decide, by decide, by decide +kernel⟩, by decide +kernel, by decide⟩, tb6 (List.mem_of_getElem? (i := 21) rfl) rfl, tb6 (List.mem_of_getElem? (i := 22) rfl) rfl⟩
def D_X12_next : vt_MD := (yX12_next, cX12_next, 3, none)
theorem ok_X12_next : vt_okV D_X12_next 0 := ⟨⟨tb6 (List.mem_of_getElem? (i := 31) rfl) rfl, tb1 (List.mem_of_getElem? (i := 14) rfl) rfl, ⟨by decide, by decide, by decide +kernel⟩, by decide +kernel, by decide⟩, tb6 (List.mem_of_getElem? (i := 30) rfl) rfl, vt_in (List.mem_append_left _ (List.mem_of_getElem? (i := 38) (by rfl))) rfl⟩
theorem fF_RX12_133 : vt_F "ArcadeRentsModel" 133 12 12 := ⟨_, _, _, rfl, by decide, inX12_ok, tb5 (List.mem_of_getElem? (i := 42) rfl) rfl⟩
theorem fl_168_12 : vt_fld 168 12 12 none := ⟨_, rfl, rfl⟩
theorem fF_RX12_136 : vt_F "ArcadeRentsModel" 136 12 11 := ⟨_, _, _, rfl, by decide, inX12_ok, tb5 (List.mem_of_getElem? (i := 41) rfl) rfl⟩
theorem fl_168_11 : vt_fld 168 12 11 none := ⟨_, rfl, rfl⟩
theorem fF_RX12_139 : vt_F "ArcadeRentsModel" 139 12 10 := ⟨_, _, _, rfl, by decide, inX12_ok, tb5 (List.mem_of_getElem? (i := 40) rfl) rfl⟩
theorem fP_12_10 : vt_FP 12 10 .int := fun C T N h => by cases h; exact ⟨tyX12, tyX12_ok, nmX12, rfl, rfl⟩
theorem fl_168_10 : vt_fld 168 12 10 none := ⟨_, rfl, rfl⟩
theorem fP_12_11 : vt_FP 12 11 .int := fun C T N h => by cases h; exact ⟨tyX12, tyX12_ok, nmX12, rfl, rfl⟩
theorem mk_RX12_142 : Cond.methodLink "ArcadeRentsModel" 142 yX12_isLetter ∈ vt_tbl := tb6 (List.mem_of_getElem? (i := 32) rfl) rfl
theorem fP_12_12 : vt_FP 12 12 .int := fun C T N h => by cases h; exact ⟨tyX12, tyX12_ok, nmX12, rfl, rfl⟩
theorem mk_RX12_145 : Cond.methodLink "ArcadeRentsModel" 145 yX12_isDigit ∈ vt_tbl := tb6 (List.mem_of_getElem? (i := 36) rfl) rfl
def D_X12_isSign : vt_MD := (yX12_isSign, cX12_isSign, 2, some .boolean)
theorem ok_X12_isSign : vt_okV D_X12_isSign 1 := ⟨⟨tb6 (List.mem_of_getElem? (i := 85) rfl) rfl, tb1 (List.mem_of_getElem? (i := 14) rfl) rfl, ⟨by decide, by decide, by decide +kernel⟩, by decide +kernel, by decide⟩, tb6 (List.mem_of_getElem? (i := 84) rfl) rfl, vt_in (List.mem_append_left _ (List.mem_of_getElem? (i := 50) (by rfl))) rfl⟩
theorem fF_RX12_148 : vt_F "ArcadeRentsModel" 148 12 13 := ⟨_, _, _, rfl, by decide, inX12_ok, tb5 (List.mem_of_getElem? (i := 43) rfl) rfl⟩
theorem fl_168_13 : vt_fld 168 12 13 none := ⟨_, rfl, rfl⟩
def D_X12_need : vt_MD := (yX12_need, cX12_need, 2, none)
theorem ok_X12_need : vt_okV D_X12_need 1 := ⟨⟨tb6 (List.mem_of_getElem? (i := 50) rfl) rfl, tb1 (List.mem_of_getElem? (i := 14) rfl) rfl, ⟨by decide, by decide, by decide +kernel⟩, by decide +kernel, by decide⟩, tb6 (List.mem_of_getElem? (i := 49) rfl) rfl, vt_in (List.mem_append_left _ (List.mem_of_getElem? (i := 42) (by rfl))) rfl⟩
theorem fP_12_13 : vt_FP 12 13 .boolean := fun C T N h => by cases h; exact ⟨tyX12, tyX12_ok, nmX12, rfl, rfl⟩
theorem mk_RX12_152 : Cond.methodLink "ArcadeRentsModel" 152 yX12_next ∈ vt_tbl := tb6 (List.mem_of_getElem? (i := 28) rfl) rfl
def D_X12_word : vt_MD := (yX12_word, cX12_word, 4, none)
theorem ok_X12_word : vt_okV D_X12_word 1 := ⟨⟨tb6 (List.mem_of_getElem? (i := 44) rfl) rfl, tb1 (List.mem_of_getElem? (i := 14) rfl) rfl, ⟨by decide, by decide, by decide +kernel⟩, by decide +kernel, by decide⟩, tb6 (List.mem_of_getElem? (i := 43) rfl) rfl, vt_in (List.mem_append_left _ (List.mem_of_getElem? (i := 41) (by rfl))) rfl⟩
theorem mk_RX12_155 : Cond.methodLink "ArcadeRentsModel" 155 yJ0_length_8abf5 ∈ vt_tbl := tb6 (List.mem_of_getElem? (i := 45) rfl) rfl
theorem mk_RX12_164 : Cond.methodLink "ArcadeRentsModel" 164 yX12_need ∈ vt_tbl := tb6 (List.mem_of_getElem? (i := 47) rfl) rfl
theorem mk_RX12_160 : Cond.methodLink "ArcadeRentsModel" 160 yJ0_charAt_5068e ∈ vt_tbl := tb6 (List.mem_of_getElem? (i := 46) rfl) rfl
def D_X12_put : vt_MD := (yX12_put, cX12_put, 2, none)
theorem ok_X12_put : vt_okV D_X12_put 1 := ⟨⟨tb6 (List.mem_of_getElem? (i := 78) rfl) rfl, tb1 (List.mem_of_getElem? (i := 14) rfl) rfl, ⟨by decide, by decide, by decide +kernel⟩, by decide +kernel, by decide⟩, tb6 (List.mem_of_getElem? (i := 77) rfl) rfl, vt_in (List.mem_append_left _ (List.mem_of_getElem? (i := 49) (by rfl))) rfl⟩
theorem fF_RX12_31 : vt_F "ArcadeRentsModel" 31 12 16 := ⟨_, _, _, rfl, by decide, inX12_ok, tb5 (List.mem_of_getElem? (i := 46) rfl) rfl⟩
theorem fl_168_16 : vt_fld 168 12 16 (some 176) := ⟨_, rfl, rfl⟩
theorem fF_RX12_168 : vt_F "ArcadeRentsModel" 168 12 17 := ⟨_, _, _, rfl, by decide, inX12_ok, tb5 (List.mem_of_getElem? (i := 47) rfl) rfl⟩
theorem fl_168_17 : vt_fld 168 12 17 none := ⟨_, rfl, rfl⟩
theorem ar_176 : vt_ar 176 0 140 := ⟨_, rfl⟩
theorem fP_12_17 : vt_FP 12 17 .int := fun C T N h => by cases h; exact ⟨tyX12, tyX12_ok, nmX12, rfl, rfl⟩
def D_X12_signHere : vt_MD := (yX12_signHere, cX12_signHere, 5, some .int)
theorem ok_X12_signHere : vt_okV D_X12_signHere 2 := ⟨⟨tb6 (List.mem_of_getElem? (i := 90) rfl) rfl, tb1 (List.mem_of_getElem? (i := 14) rfl) rfl, ⟨by decide, by decide, by decide +kernel⟩, by decide +kernel, by decide⟩, tb6 (List.mem_of_getElem? (i := 89) rfl) rfl, vt_in (List.mem_append_left _ (List.mem_of_getElem? (i := 51) (by rfl))) rfl⟩
theorem mk_RX12_173 : Cond.methodLink "ArcadeRentsModel" 173 yX12_isSign ∈ vt_tbl := tb6 (List.mem_of_getElem? (i := 82) rfl) rfl
def D_X12_part : vt_MD := (yX12_part, cX12_part, 3, none)
theorem ok_X12_part : vt_okV D_X12_part 0 := ⟨⟨tb6 (List.mem_of_getElem? (i := 74) rfl) rfl, tb1 (List.mem_of_getElem? (i := 14) rfl) rfl, ⟨by decide, by decide, by decide +kernel⟩, by decide +kernel, by decide⟩, tb6 (List.mem_of_getElem? (i := 73) rfl) rfl, vt_in (List.mem_append_left _ (List.mem_of_getElem? (i := 48) (by rfl))) rfl⟩
theorem fF_RX12_195 : vt_F "ArcadeRentsModel" 195 12 14 := ⟨_, _, _, rfl, by decide, inX12_ok, tb5 (List.mem_of_getElem? (i := 44) rfl) rfl⟩
theorem fl_168_14 : vt_fld 168 12 14 none := ⟨_, rfl, rfl⟩
theorem fP_12_14 : vt_FP 12 14 .int := fun C T N h => by cases h; exact ⟨tyX12, tyX12_ok, nmX12, rfl, rfl⟩
theorem mk_RX12_198 : Cond.methodLink "ArcadeRentsModel" 198 yX12_either ∈ vt_tbl := tb6 (List.mem_of_getElem? (i := 51) rfl) rfl
def D_X12_either : vt_MD := (yX12_either, cX12_either, 1, none)
theorem ok_X12_either : vt_okV D_X12_either 0 := ⟨⟨tb6 (List.mem_of_getElem? (i := 54) rfl) rfl, tb1 (List.mem_of_getElem? (i := 14) rfl) rfl, ⟨by decide, by decide, by decide +kernel⟩, by decide +kernel, by decide⟩, tb6 (List.mem_of_getElem? (i := 53) rfl) rfl, vt_in (List.mem_append_left _ (List.mem_of_getElem? (i := 43) (by rfl))) rfl⟩
theorem fF_RX12_188 : vt_F "ArcadeRentsModel" 188 12 15 := ⟨_, _, _, rfl, by decide, inX12_ok, tb5 (List.mem_of_getElem? (i := 45) rfl) rfl⟩
theorem fl_168_15 : vt_fld 168 12 15 none := ⟨_, rfl, rfl⟩
theorem fP_12_15 : vt_FP 12 15 .int := fun C T N h => by cases h; exact ⟨tyX12, tyX12_ok, nmX12, rfl, rfl⟩
theorem mk_RX12_191 : Cond.methodLink "ArcadeRentsModel" 191 yX12_part ∈ vt_tbl := tb6 (List.mem_of_getElem? (i := 71) rfl) rfl
theorem ct_RX12_194 : Cond.constant "ArcadeRentsModel" 194 (200009) ∈ vt_tbl := tb6 (List.mem_of_getElem? (i := 86) rfl) rfl
theorem mk_RX12_176 : Cond.methodLink "ArcadeRentsModel" 176 yX12_put ∈ vt_tbl := tb6 (List.mem_of_getElem? (i := 75) rfl) rfl
theorem mk_RX12_184 : Cond.methodLink "ArcadeRentsModel" 184 yJ0_indexOf_0f7a4 ∈ vt_tbl := tb6 (List.mem_of_getElem? (i := 80) rfl) rfl
theorem ct_RX12_187 : Cond.constant "ArcadeRentsModel" 187 (100000) ∈ vt_tbl := tb6 (List.mem_of_getElem? (i := 81) rfl) rfl
theorem fF_RX12_179 : vt_F "ArcadeRentsModel" 179 12 18 := ⟨_, _, _, rfl, by decide, inX12_ok, tb5 (List.mem_of_getElem? (i := 48) rfl) rfl⟩
theorem fl_168_18 : vt_fld 168 12 18 none := ⟨_, rfl, rfl⟩
theorem fP_12_18 : vt_FP 12 18 .int := fun C T N h => by cases h; exact ⟨tyX12, tyX12_ok, nmX12, rfl, rfl⟩
def D_X12_term : vt_MD := (yX12_term, cX12_term, 2, none)
theorem ok_X12_term : vt_okV D_X12_term 0 := ⟨⟨tb6 (List.mem_of_getElem? (i := 70) rfl) rfl, tb1 (List.mem_of_getElem? (i := 14) rfl) rfl, ⟨by decide, by decide, by decide +kernel⟩, by decide +kernel, by decide⟩, tb6 (List.mem_of_getElem? (i := 69) rfl) rfl, vt_in (List.mem_append_left _ (List.mem_of_getElem? (i := 47) (by rfl))) rfl⟩
theorem mk_RX12_201 : Cond.methodLink "ArcadeRentsModel" 201 yX12_signHere ∈ vt_tbl := tb6 (List.mem_of_getElem? (i := 87) rfl) rfl
theorem ct_RX12_204 : Cond.constant "ArcadeRentsModel" 204 (200000) ∈ vt_tbl := tb6 (List.mem_of_getElem? (i := 92) rfl) rfl
def D_X12_sum : vt_MD := (yX12_sum, cX12_sum, 2, none)
theorem ok_X12_sum : vt_okV D_X12_sum 0 := ⟨⟨tb6 (List.mem_of_getElem? (i := 66) rfl) rfl, tb1 (List.mem_of_getElem? (i := 14) rfl) rfl, ⟨by decide, by decide, by decide +kernel⟩, by decide +kernel, by decide⟩, tb6 (List.mem_of_getElem? (i := 65) rfl) rfl, vt_in (List.mem_append_left _ (List.mem_of_getElem? (i := 46) (by rfl))) rfl⟩
theorem mk_RX12_205 : Cond.methodLink "ArcadeRentsModel" 205 yX12_term ∈ vt_tbl := tb6 (List.mem_of_getElem? (i := 67) rfl) rfl
def D_X12_test : vt_MD := (yX12_test, cX12_test, 2, none)
theorem ok_X12_test : vt_okV D_X12_test 0 := ⟨⟨tb6 (List.mem_of_getElem? (i := 62) rfl) rfl, tb1 (List.mem_of_getElem? (i := 14) rfl) rfl, ⟨by decide, by decide, by decide +kernel⟩, by decide +kernel, by decide⟩, tb6 (List.mem_of_getElem? (i := 61) rfl) rfl, vt_in (List.mem_append_left _ (List.mem_of_getElem? (i := 45) (by rfl))) rfl⟩
theorem mk_RX12_208 : Cond.methodLink "ArcadeRentsModel" 208 yX12_sum ∈ vt_tbl := tb6 (List.mem_of_getElem? (i := 63) rfl) rfl
def D_X12_both : vt_MD := (yX12_both, cX12_both, 1, none)
theorem ok_X12_both : vt_okV D_X12_both 0 := ⟨⟨tb6 (List.mem_of_getElem? (i := 58) rfl) rfl, tb1 (List.mem_of_getElem? (i := 14) rfl) rfl, ⟨by decide, by decide, by decide +kernel⟩, by decide +kernel, by decide⟩, tb6 (List.mem_of_getElem? (i := 57) rfl) rfl, vt_in (List.mem_append_left _ (List.mem_of_getElem? (i := 44) (by rfl))) rfl⟩
theorem mk_RX12_211 : Cond.methodLink "ArcadeRentsModel" 211 yX12_test ∈ vt_tbl := tb6 (List.mem_of_getElem? (i := 59) rfl) rfl
theorem ct_RX12_214 : Cond.constant "ArcadeRentsModel" 214 (200001) ∈ vt_tbl := tb6 (List.mem_of_getElem? (i := 93) rfl) rfl
theorem mk_RX12_215 : Cond.methodLink "ArcadeRentsModel" 215 yX12_both ∈ vt_tbl := tb6 (List.mem_of_getElem? (i := 55) rfl) rfl
def D_X12_lease : vt_MD := (yX12_lease, cX12_lease, 4, some .int)
theorem ok_X12_lease : vt_okV D_X12_lease 1 := ⟨⟨tb6 (List.mem_of_getElem? (i := 27) rfl) rfl, tb1 (List.mem_of_getElem? (i := 14) rfl) rfl, ⟨by decide, by decide, by decide +kernel⟩, by decide +kernel, by decide⟩, tb6 (List.mem_of_getElem? (i := 25) rfl) rfl, tb6 (List.mem_of_getElem? (i := 26) rfl) rfl⟩
theorem mk_RX12_220 : Cond.methodLink "ArcadeRentsModel" 220 yX12_word ∈ vt_tbl := tb6 (List.mem_of_getElem? (i := 41) rfl) rfl
theorem ct_RX12_224 : Cond.constant "ArcadeRentsModel" 224 (300000) ∈ vt_tbl := tb6 (List.mem_of_getElem? (i := 94) rfl) rfl
def D_X12_named : vt_MD := (yX12_named, cX12_named, 5, some .int)
theorem ok_X12_named : vt_okV D_X12_named 4 := ⟨⟨tb6 (List.mem_of_getElem? (i := 116) rfl) rfl, tb1 (List.mem_of_getElem? (i := 14) rfl) rfl, ⟨by decide, by decide, by decide +kernel⟩, by decide +kernel, by decide⟩, tb6 (List.mem_of_getElem? (i := 115) rfl) rfl, vt_in (List.mem_append_left _ (List.mem_of_getElem? (i := 55) (by rfl))) rfl⟩
def D_X12_worked : vt_MD := (yX12_worked, cX12_worked, 9, some .int)
theorem ok_X12_worked : vt_okV D_X12_worked 4 := ⟨⟨tb6 (List.mem_of_getElem? (i := 112) rfl) rfl, tb1 (List.mem_of_getElem? (i := 14) rfl) rfl, ⟨by decide, by decide, by decide +kernel⟩, by decide +kernel, by decide⟩, tb6 (List.mem_of_getElem? (i := 111) rfl) rfl, vt_in (List.mem_append_left _ (List.mem_of_getElem? (i := 54) (by rfl))) rfl⟩
theorem fF_RX12_34 : vt_F "ArcadeRentsModel" 34 12 19 := ⟨_, _, _, rfl, by decide, inX12_ok, tb5 (List.mem_of_getElem? (i := 49) rfl) rfl⟩
theorem fl_168_19 : vt_fld 168 12 19 (some 177) := ⟨_, rfl, rfl⟩
theorem ar_177 : vt_ar 177 0 140 := ⟨_, rfl⟩
theorem mk_RX12_233 : Cond.methodLink "ArcadeRentsModel" 233 yX12_done ∈ vt_tbl := tb6 (List.mem_of_getElem? (i := 117) rfl) rfl
theorem mk_RX12_229 : Cond.methodLink "ArcadeRentsModel" 229 yX12_named ∈ vt_tbl := tb6 (List.mem_of_getElem? (i := 113) rfl) rfl
def D_X12_rentOf : vt_MD := (yX12_rentOf, cX12_rentOf, 5, some .int)
theorem ok_X12_rentOf : vt_okV D_X12_rentOf 3 := ⟨⟨tb6 (List.mem_of_getElem? (i := 104) rfl) rfl, tb1 (List.mem_of_getElem? (i := 14) rfl) rfl, ⟨by decide, by decide, by decide +kernel⟩, by decide +kernel, by decide⟩, tb6 (List.mem_of_getElem? (i := 103) rfl) rfl, vt_in (List.mem_append_left _ (List.mem_of_getElem? (i := 52) (by rfl))) rfl⟩
theorem mk_RX12_236 : Cond.methodLink "ArcadeRentsModel" 236 yX12_hasLease ∈ vt_tbl := tb6 (List.mem_of_getElem? (i := 105) rfl) rfl
theorem mk_RX12_239 : Cond.methodLink "ArcadeRentsModel" 239 yX12_worked ∈ vt_tbl := tb6 (List.mem_of_getElem? (i := 109) rfl) rfl
def D_X12_rent : vt_MD := (yX12_rent, cX12_rent, 4, some .int)
theorem ok_X12_rent : vt_okV D_X12_rent 3 := ⟨⟨tb6 (List.mem_of_getElem? (i := 100) rfl) rfl, tb1 (List.mem_of_getElem? (i := 14) rfl) rfl, ⟨by decide, by decide, by decide +kernel⟩, by decide +kernel, by decide⟩, tb6 (List.mem_of_getElem? (i := 98) rfl) rfl, tb6 (List.mem_of_getElem? (i := 99) rfl) rfl⟩
theorem mk_RX12_242 : Cond.methodLink "ArcadeRentsModel" 242 yX12_rentOf ∈ vt_tbl := tb6 (List.mem_of_getElem? (i := 101) rfl) rfl
def D_X12_rents : vt_MD := (yX12_rents, cX12_rents, 5, some .int)
theorem ok_X12_rents : vt_okV D_X12_rents 2 := ⟨⟨tb6 (List.mem_of_getElem? (i := 123) rfl) rfl, tb1 (List.mem_of_getElem? (i := 14) rfl) rfl, ⟨by decide, by decide, by decide +kernel⟩, by decide +kernel, by decide⟩, tb6 (List.mem_of_getElem? (i := 121) rfl) rfl, tb6 (List.mem_of_getElem? (i := 122) rfl) rfl⟩
def D_X12_charge : vt_MD := (yX12_charge, cX12_charge, 8, some .int)
theorem ok_X12_charge : vt_okV D_X12_charge 3 := ⟨⟨tb6 (List.mem_of_getElem? (i := 127) rfl) rfl, tb1 (List.mem_of_getElem? (i := 14) rfl) rfl, ⟨by decide, by decide, by decide +kernel⟩, by decide +kernel, by decide⟩, tb6 (List.mem_of_getElem? (i := 125) rfl) rfl, tb6 (List.mem_of_getElem? (i := 126) rfl) rfl⟩
theorem ct_RX12_245 : Cond.constant "ArcadeRentsModel" 245 (999999) ∈ vt_tbl := tb6 (List.mem_of_getElem? (i := 128) rfl) rfl
theorem mk_RX12_246 : Cond.methodLink "ArcadeRentsModel" 246 yX12_pays ∈ vt_tbl := tb6 (List.mem_of_getElem? (i := 129) rfl) rfl
def D_X12_findFall : vt_MD := (yX12_findFall, cX12_findFall, 4, some .int)
theorem ok_X12_findFall : vt_okV D_X12_findFall 0 := ⟨⟨tb6 (List.mem_of_getElem? (i := 140) rfl) rfl, tb1 (List.mem_of_getElem? (i := 14) rfl) rfl, ⟨by decide, by decide, by decide +kernel⟩, by decide +kernel, by decide⟩, tb6 (List.mem_of_getElem? (i := 139) rfl) rfl, vt_in (List.mem_append_left _ (List.mem_of_getElem? (i := 57) (by rfl))) rfl⟩
theorem fF_RX12_37 : vt_F "ArcadeRentsModel" 37 12 20 := ⟨_, _, _, rfl, by decide, inX12_ok, tb5 (List.mem_of_getElem? (i := 50) rfl) rfl⟩
theorem fl_168_20 : vt_fld 168 12 20 (some 178) := ⟨_, rfl, rfl⟩
theorem ar_178 : vt_ar 178 0 12 := ⟨_, rfl⟩
def D_X12_fall : vt_MD := (yX12_fall, cX12_fall, 3, some .int)
theorem ok_X12_fall : vt_okV D_X12_fall 0 := ⟨⟨tb6 (List.mem_of_getElem? (i := 136) rfl) rfl, tb1 (List.mem_of_getElem? (i := 14) rfl) rfl, ⟨by decide, by decide, by decide +kernel⟩, by decide +kernel, by decide⟩, tb6 (List.mem_of_getElem? (i := 134) rfl) rfl, tb6 (List.mem_of_getElem? (i := 135) rfl) rfl⟩
theorem mk_RX12_249 : Cond.methodLink "ArcadeRentsModel" 249 yX12_findFall ∈ vt_tbl := tb6 (List.mem_of_getElem? (i := 137) rfl) rfl
def D_X12_fallen : vt_MD := (yX12_fallen, cX12_fallen, 2, some .int)
theorem ok_X12_fallen : vt_okV D_X12_fallen 1 := ⟨⟨tb6 (List.mem_of_getElem? (i := 144) rfl) rfl, tb1 (List.mem_of_getElem? (i := 14) rfl) rfl, ⟨by decide, by decide, by decide +kernel⟩, by decide +kernel, by decide⟩, tb6 (List.mem_of_getElem? (i := 142) rfl) rfl, tb6 (List.mem_of_getElem? (i := 143) rfl) rfl⟩
def D_X12_without : vt_MD := (yX12_without, cX12_without, 2, some .int)
theorem ok_X12_without : vt_okV D_X12_without 1 := ⟨⟨tb6 (List.mem_of_getElem? (i := 148) rfl) rfl, tb1 (List.mem_of_getElem? (i := 14) rfl) rfl, ⟨by decide, by decide, by decide +kernel⟩, by decide +kernel, by decide⟩, tb6 (List.mem_of_getElem? (i := 146) rfl) rfl, tb6 (List.mem_of_getElem? (i := 147) rfl) rfl⟩
def D_X12_breaks : vt_MD := (yX12_breaks, cX12_breaks, 6, some .boolean)
theorem ok_X12_breaks : vt_okV D_X12_breaks 4 := ⟨⟨tb6 (List.mem_of_getElem? (i := 156) rfl) rfl, tb1 (List.mem_of_getElem? (i := 14) rfl) rfl, ⟨by decide, by decide, by decide +kernel⟩, by decide +kernel, by decide⟩, tb6 (List.mem_of_getElem? (i := 155) rfl) rfl, vt_in (List.mem_append_left _ (List.mem_of_getElem? (i := 58) (by rfl))) rfl⟩
def D_X12_broken : vt_MD := (yX12_broken, cX12_broken, 4, some .int)
theorem ok_X12_broken : vt_okV D_X12_broken 0 := ⟨⟨tb6 (List.mem_of_getElem? (i := 152) rfl) rfl, tb1 (List.mem_of_getElem? (i := 14) rfl) rfl, ⟨by decide, by decide, by decide +kernel⟩, by decide +kernel, by decide⟩, tb6 (List.mem_of_getElem? (i := 150) rfl) rfl, tb6 (List.mem_of_getElem? (i := 151) rfl) rfl⟩
theorem mk_RX12_252 : Cond.methodLink "ArcadeRentsModel" 252 yX12_breaks ∈ vt_tbl := tb6 (List.mem_of_getElem? (i := 153) rfl) rfl
def D_X12_mayPut : vt_MD := (yX12_mayPut, cX12_mayPut, 5, some .boolean)
theorem ok_X12_mayPut : vt_okV D_X12_mayPut 2 := ⟨⟨tb6 (List.mem_of_getElem? (i := 177) rfl) rfl, tb1 (List.mem_of_getElem? (i := 14) rfl) rfl, ⟨by decide, by decide, by decide +kernel⟩, by decide +kernel, by decide⟩, tb6 (List.mem_of_getElem? (i := 176) rfl) rfl, vt_in (List.mem_append_left _ (List.mem_of_getElem? (i := 62) (by rfl))) rfl⟩
def D_X12_putFrom : vt_MD := (yX12_putFrom, cX12_putFrom, 5, none)
theorem ok_X12_putFrom : vt_okV D_X12_putFrom 3 := ⟨⟨tb6 (List.mem_of_getElem? (i := 169) rfl) rfl, tb1 (List.mem_of_getElem? (i := 14) rfl) rfl, ⟨by decide, by decide, by decide +kernel⟩, by decide +kernel, by decide⟩, tb6 (List.mem_of_getElem? (i := 168) rfl) rfl, vt_in (List.mem_append_left _ (List.mem_of_getElem? (i := 60) (by rfl))) rfl⟩
theorem mk_RX12_262 : Cond.methodLink "ArcadeRentsModel" 262 yX12_putFrom ∈ vt_tbl := tb6 (List.mem_of_getElem? (i := 166) rfl) rfl
theorem fF_RX12_256 : vt_F "ArcadeRentsModel" 256 12 23 := ⟨_, _, _, rfl, by decide, inX12_ok, tb5 (List.mem_of_getElem? (i := 53) rfl) rfl⟩
theorem fl_168_23 : vt_fld 168 12 23 none := ⟨_, rfl, rfl⟩
theorem fP_12_23 : vt_FP 12 23 .int := fun C T N h => by cases h; exact ⟨tyX12, tyX12_ok, nmX12, rfl, rfl⟩
theorem fF_RX12_259 : vt_F "ArcadeRentsModel" 259 12 24 := ⟨_, _, _, rfl, by decide, inX12_ok, tb5 (List.mem_of_getElem? (i := 54) rfl) rfl⟩
theorem fP_12_24 : vt_FP 12 24 .int := fun C T N h => by cases h; exact ⟨tyX12, tyX12_ok, nmX12, rfl, rfl⟩
theorem fl_168_24 : vt_fld 168 12 24 none := ⟨_, rfl, rfl⟩
theorem mk_RX12_266 : Cond.methodLink "ArcadeRentsModel" 266 yX12_isTaken ∈ vt_tbl := tb6 (List.mem_of_getElem? (i := 170) rfl) rfl
def D_X12_isTaken : vt_MD := (yX12_isTaken, cX12_isTaken, 2, some .boolean)
theorem ok_X12_isTaken : vt_okV D_X12_isTaken 1 := ⟨⟨tb6 (List.mem_of_getElem? (i := 173) rfl) rfl, tb1 (List.mem_of_getElem? (i := 14) rfl) rfl, ⟨by decide, by decide, by decide +kernel⟩, by decide +kernel, by decide⟩, tb6 (List.mem_of_getElem? (i := 172) rfl) rfl, vt_in (List.mem_append_left _ (List.mem_of_getElem? (i := 61) (by rfl))) rfl⟩
theorem fF_RX12_269 : vt_F "ArcadeRentsModel" 269 12 26 := ⟨_, _, _, rfl, by decide, inX12_ok, tb5 (List.mem_of_getElem? (i := 56) rfl) rfl⟩
theorem fl_168_26 : vt_fld 168 12 26 none := ⟨_, rfl, rfl⟩
theorem mk_RX12_272 : Cond.methodLink "ArcadeRentsModel" 272 yX12_mayPut ∈ vt_tbl := tb6 (List.mem_of_getElem? (i := 174) rfl) rfl
theorem fF_RX12_276 : vt_F "ArcadeRentsModel" 276 12 25 := ⟨_, _, _, rfl, by decide, inX12_ok, tb5 (List.mem_of_getElem? (i := 55) rfl) rfl⟩
theorem fl_168_25 : vt_fld 168 12 25 none := ⟨_, rfl, rfl⟩
theorem fP_12_25 : vt_FP 12 25 .int := fun C T N h => by cases h; exact ⟨tyX12, tyX12_ok, nmX12, rfl, rfl⟩
theorem fF_RX12_40 : vt_F "ArcadeRentsModel" 40 12 21 := ⟨_, _, _, rfl, by decide, inX12_ok, tb5 (List.mem_of_getElem? (i := 51) rfl) rfl⟩
theorem fl_168_21 : vt_fld 168 12 21 (some 179) := ⟨_, rfl, rfl⟩
theorem ar_179 : vt_ar 179 0 12 := ⟨_, rfl⟩
theorem fP_12_26 : vt_FP 12 26 .boolean := fun C T N h => by cases h; exact ⟨tyX12, tyX12_ok, nmX12, rfl, rfl⟩
theorem fF_RX12_43 : vt_F "ArcadeRentsModel" 43 12 22 := ⟨_, _, _, rfl, by decide, inX12_ok, tb5 (List.mem_of_getElem? (i := 52) rfl) rfl⟩
theorem fl_168_22 : vt_fld 168 12 22 (some 180) := ⟨_, rfl, rfl⟩
theorem ar_180 : vt_ar 180 0 12 := ⟨_, rfl⟩
def D_X12_findMix : vt_MD := (yX12_findMix, cX12_findMix, 3, some .int)
theorem ok_X12_findMix : vt_okV D_X12_findMix 1 := ⟨⟨tb6 (List.mem_of_getElem? (i := 165) rfl) rfl, tb1 (List.mem_of_getElem? (i := 14) rfl) rfl, ⟨by decide, by decide, by decide +kernel⟩, by decide +kernel, by decide⟩, tb6 (List.mem_of_getElem? (i := 164) rfl) rfl, vt_in (List.mem_append_left _ (List.mem_of_getElem? (i := 59) (by rfl))) rfl⟩
theorem ct_RX12_279 : Cond.constant "ArcadeRentsModel" 279 (-1000000004) ∈ vt_tbl := tb6 (List.mem_of_getElem? (i := 178) rfl) rfl
def D_X12_mix : vt_MD := (yX12_mix, cX12_mix, 3, some .int)
theorem ok_X12_mix : vt_okV D_X12_mix 1 := ⟨⟨tb6 (List.mem_of_getElem? (i := 160) rfl) rfl, tb1 (List.mem_of_getElem? (i := 14) rfl) rfl, ⟨by decide, by decide, by decide +kernel⟩, by decide +kernel, by decide⟩, tb6 (List.mem_of_getElem? (i := 158) rfl) rfl, tb6 (List.mem_of_getElem? (i := 159) rfl) rfl⟩
theorem ct_RX12_280 : Cond.constant "ArcadeRentsModel" 280 (50000) ∈ vt_tbl := tb6 (List.mem_of_getElem? (i := 161) rfl) rfl
theorem mk_RX12_281 : Cond.methodLink "ArcadeRentsModel" 281 yX12_findMix ∈ vt_tbl := tb6 (List.mem_of_getElem? (i := 162) rfl) rfl
def D_X12_mixed : vt_MD := (yX12_mixed, cX12_mixed, 4, some .int)
theorem ok_X12_mixed : vt_okV D_X12_mixed 2 := ⟨⟨tb6 (List.mem_of_getElem? (i := 182) rfl) rfl, tb1 (List.mem_of_getElem? (i := 14) rfl) rfl, ⟨by decide, by decide, by decide +kernel⟩, by decide +kernel, by decide⟩, tb6 (List.mem_of_getElem? (i := 180) rfl) rfl, tb6 (List.mem_of_getElem? (i := 181) rfl) rfl⟩
def D_X12_tell : vt_MD := (yX12_tell, cX12_tell, 2, some .int)
theorem ok_X12_tell : vt_okV D_X12_tell 1 := ⟨⟨tb6 (List.mem_of_getElem? (i := 186) rfl) rfl, tb1 (List.mem_of_getElem? (i := 14) rfl) rfl, ⟨by decide, by decide, by decide +kernel⟩, by decide +kernel, by decide⟩, tb6 (List.mem_of_getElem? (i := 184) rfl) rfl, tb6 (List.mem_of_getElem? (i := 185) rfl) rfl⟩
theorem fF_RX12_284 : vt_F "ArcadeRentsModel" 284 12 6 := ⟨_, _, _, rfl, by decide, inX12_ok, tb5 (List.mem_of_getElem? (i := 36) rfl) rfl⟩
theorem fl_168_6 : vt_fld 168 12 6 none := ⟨_, rfl, rfl⟩
theorem fF_RX12_19 : vt_F "ArcadeRentsModel" 19 12 5 := ⟨_, _, _, rfl, by decide, inX12_ok, tb5 (List.mem_of_getElem? (i := 35) rfl) rfl⟩
theorem fl_168_5 : vt_fld 168 12 5 (some 172) := ⟨_, rfl, rfl⟩
theorem ar_172 : vt_ar 172 0 24 := ⟨_, rfl⟩
theorem fP_12_6 : vt_FP 12 6 .int := fun C T N h => by cases h; exact ⟨tyX12, tyX12_ok, nmX12, rfl, rfl⟩
def D_X12_check : vt_MD := (yX12_check, cX12_check, 6, some .int)
theorem ok_X12_check : vt_okV D_X12_check 0 := ⟨⟨tb6 (List.mem_of_getElem? (i := 190) rfl) rfl, tb1 (List.mem_of_getElem? (i := 14) rfl) rfl, ⟨by decide, by decide, by decide +kernel⟩, by decide +kernel, by decide⟩, tb6 (List.mem_of_getElem? (i := 188) rfl) rfl, tb6 (List.mem_of_getElem? (i := 189) rfl) rfl⟩
def D_X12_keep : vt_MD := (yX12_keep, cX12_keep, 2, some .int)
theorem ok_X12_keep : vt_okV D_X12_keep 0 := ⟨⟨tb6 (List.mem_of_getElem? (i := 194) rfl) rfl, tb1 (List.mem_of_getElem? (i := 14) rfl) rfl, ⟨by decide, by decide, by decide +kernel⟩, by decide +kernel, by decide⟩, tb6 (List.mem_of_getElem? (i := 192) rfl) rfl, tb6 (List.mem_of_getElem? (i := 193) rfl) rfl⟩
theorem fF_RX12_287 : vt_F "ArcadeRentsModel" 287 12 2 := ⟨_, _, _, rfl, by decide, inX12_ok, tb5 (List.mem_of_getElem? (i := 32) rfl) rfl⟩
theorem fP_12_2 : vt_FP 12 2 .boolean := fun C T N h => by cases h; exact ⟨tyX12, tyX12_ok, nmX12, rfl, rfl⟩
theorem fl_168_2 : vt_fld 168 12 2 none := ⟨_, rfl, rfl⟩
theorem fF_RX12_13 : vt_F "ArcadeRentsModel" 13 12 1 := ⟨_, _, _, rfl, by decide, inX12_ok, tb5 (List.mem_of_getElem? (i := 31) rfl) rfl⟩
theorem fl_168_1 : vt_fld 168 12 1 (some 170) := ⟨_, rfl, rfl⟩
theorem ar_170 : vt_ar 170 0 2220 := ⟨_, rfl⟩
def D_X12_back : vt_MD := (yX12_back, cX12_back, 2, some .int)
theorem ok_X12_back : vt_okV D_X12_back 0 := ⟨⟨tb6 (List.mem_of_getElem? (i := 198) rfl) rfl, tb1 (List.mem_of_getElem? (i := 14) rfl) rfl, ⟨by decide, by decide, by decide +kernel⟩, by decide +kernel, by decide⟩, tb6 (List.mem_of_getElem? (i := 196) rfl) rfl, tb6 (List.mem_of_getElem? (i := 197) rfl) rfl⟩
def D_X12_sheet : vt_MD := (yX12_sheet, cX12_sheet, 4, some .int)
theorem ok_X12_sheet : vt_okV D_X12_sheet 2 := ⟨⟨tb6 (List.mem_of_getElem? (i := 202) rfl) rfl, tb1 (List.mem_of_getElem? (i := 14) rfl) rfl, ⟨by decide, by decide, by decide +kernel⟩, by decide +kernel, by decide⟩, tb6 (List.mem_of_getElem? (i := 200) rfl) rfl, tb6 (List.mem_of_getElem? (i := 201) rfl) rfl⟩
theorem ct_RX12_290 : Cond.constant "ArcadeRentsModel" 290 (-1000000014) ∈ vt_tbl := tb6 (List.mem_of_getElem? (i := 203) rfl) rfl
def D_X12_mark : vt_MD := (yX12_mark, cX12_mark, 5, some .int)
theorem ok_X12_mark : vt_okV D_X12_mark 3 := ⟨⟨tb6 (List.mem_of_getElem? (i := 207) rfl) rfl, tb1 (List.mem_of_getElem? (i := 14) rfl) rfl, ⟨by decide, by decide, by decide +kernel⟩, by decide +kernel, by decide⟩, tb6 (List.mem_of_getElem? (i := 205) rfl) rfl, tb6 (List.mem_of_getElem? (i := 206) rfl) rfl⟩
theorem ct_RX12_291 : Cond.constant "ArcadeRentsModel" 291 (-1000000013) ∈ vt_tbl := tb6 (List.mem_of_getElem? (i := 208) rfl) rfl
def D_X12_copy : vt_MD := (yX12_copy, cX12_copy, 7, some .int)
theorem ok_X12_copy : vt_okV D_X12_copy 5 := ⟨⟨tb6 (List.mem_of_getElem? (i := 212) rfl) rfl, tb1 (List.mem_of_getElem? (i := 14) rfl) rfl, ⟨by decide, by decide, by decide +kernel⟩, by decide +kernel, by decide⟩, tb6 (List.mem_of_getElem? (i := 210) rfl) rfl, tb6 (List.mem_of_getElem? (i := 211) rfl) rfl⟩
theorem fF_RX12_46 : vt_F "ArcadeRentsModel" 46 12 27 := ⟨_, _, _, rfl, by decide, inX12_ok, tb5 (List.mem_of_getElem? (i := 57) rfl) rfl⟩
theorem fl_168_27 : vt_fld 168 12 27 (some 181) := ⟨_, rfl, rfl⟩
theorem ar_181 : vt_ar 181 0 16 := ⟨_, rfl⟩
def D_X12_count : vt_MD := (yX12_count, cX12_count, 4, some .int)
theorem ok_X12_count : vt_okV D_X12_count 1 := ⟨⟨tb6 (List.mem_of_getElem? (i := 216) rfl) rfl, tb1 (List.mem_of_getElem? (i := 14) rfl) rfl, ⟨by decide, by decide, by decide +kernel⟩, by decide +kernel, by decide⟩, tb6 (List.mem_of_getElem? (i := 214) rfl) rfl, tb6 (List.mem_of_getElem? (i := 215) rfl) rfl⟩
