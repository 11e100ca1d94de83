/-! THE LAW: each of its calls -/
def D_law : vt_MD := (x, code, 4, some .boolean)
theorem mk_law_13 : Cond.methodLink "ArcadeRentsLaw" 13 yX11_feet ∈ vt_tbl := tb2 (List.mem_of_getElem? (i := 177) rfl) rfl
theorem mk_law_17 : Cond.methodLink "ArcadeRentsLaw" 17 yX12_feet ∈ vt_tbl := tb5 (List.mem_of_getElem? (i := 115) rfl) rfl
theorem mk_law_18 : Cond.methodLink "ArcadeRentsLaw" 18 yX11_lay ∈ vt_tbl := tb2 (List.mem_of_getElem? (i := 191) rfl) rfl
theorem mk_law_22 : Cond.methodLink "ArcadeRentsLaw" 22 yX12_lay ∈ vt_tbl := tb5 (List.mem_of_getElem? (i := 126) rfl) rfl
theorem mk_law_23 : Cond.methodLink "ArcadeRentsLaw" 23 yX11_door ∈ vt_tbl := tb2 (List.mem_of_getElem? (i := 206) rfl) rfl
theorem mk_law_26 : Cond.methodLink "ArcadeRentsLaw" 26 yX12_door ∈ vt_tbl := tb5 (List.mem_of_getElem? (i := 131) rfl) rfl
theorem mk_law_27 : Cond.methodLink "ArcadeRentsLaw" 27 yX11_people ∈ vt_tbl := tb2 (List.mem_of_getElem? (i := 218) rfl) rfl
theorem mk_law_30 : Cond.methodLink "ArcadeRentsLaw" 30 yX12_people ∈ vt_tbl := tb5 (List.mem_of_getElem? (i := 136) rfl) rfl
theorem mk_law_31 : Cond.methodLink "ArcadeRentsLaw" 31 yX11_shop ∈ vt_tbl := tb2 (List.mem_of_getElem? (i := 226) rfl) rfl
theorem mk_law_35 : Cond.methodLink "ArcadeRentsLaw" 35 yX12_shop ∈ vt_tbl := tb5 (List.mem_of_getElem? (i := 140) rfl) rfl
theorem mk_law_36 : Cond.methodLink "ArcadeRentsLaw" 36 yX11_isOf ∈ vt_tbl := tb2 (List.mem_of_getElem? (i := 235) rfl) rfl
theorem mk_law_39 : Cond.methodLink "ArcadeRentsLaw" 39 yX12_isOf ∈ vt_tbl := tb5 (List.mem_of_getElem? (i := 148) rfl) rfl
theorem mk_law_40 : Cond.methodLink "ArcadeRentsLaw" 40 yX11_move ∈ vt_tbl := tb3 (List.mem_of_getElem? (i := 3) rfl) rfl
theorem mk_law_43 : Cond.methodLink "ArcadeRentsLaw" 43 yX12_move ∈ vt_tbl := tb5 (List.mem_of_getElem? (i := 156) rfl) rfl
theorem mk_law_44 : Cond.methodLink "ArcadeRentsLaw" 44 yX11_months ∈ vt_tbl := tb3 (List.mem_of_getElem? (i := 27) rfl) rfl
theorem mk_law_47 : Cond.methodLink "ArcadeRentsLaw" 47 yX12_months ∈ vt_tbl := tb5 (List.mem_of_getElem? (i := 178) rfl) rfl
theorem mk_law_48 : Cond.methodLink "ArcadeRentsLaw" 48 yX11_rule ∈ vt_tbl := tb3 (List.mem_of_getElem? (i := 31) rfl) rfl
theorem mk_law_51 : Cond.methodLink "ArcadeRentsLaw" 51 yX12_rule ∈ vt_tbl := tb5 (List.mem_of_getElem? (i := 182) rfl) rfl
theorem mk_law_52 : Cond.methodLink "ArcadeRentsLaw" 52 yX11_stands ∈ vt_tbl := tb3 (List.mem_of_getElem? (i := 35) rfl) rfl
theorem mk_law_56 : Cond.methodLink "ArcadeRentsLaw" 56 yX12_stands ∈ vt_tbl := tb5 (List.mem_of_getElem? (i := 186) rfl) rfl
theorem mk_law_57 : Cond.methodLink "ArcadeRentsLaw" 57 yX11_past ∈ vt_tbl := tb3 (List.mem_of_getElem? (i := 66) rfl) rfl
theorem mk_law_60 : Cond.methodLink "ArcadeRentsLaw" 60 yX12_past ∈ vt_tbl := tb5 (List.mem_of_getElem? (i := 221) rfl) rfl
theorem mk_law_61 : Cond.methodLink "ArcadeRentsLaw" 61 yX11_take ∈ vt_tbl := tb3 (List.mem_of_getElem? (i := 70) rfl) rfl
theorem mk_law_64 : Cond.methodLink "ArcadeRentsLaw" 64 yX12_take ∈ vt_tbl := tb5 (List.mem_of_getElem? (i := 225) rfl) rfl
theorem mk_law_65 : Cond.methodLink "ArcadeRentsLaw" 65 yX11_withdraw ∈ vt_tbl := tb3 (List.mem_of_getElem? (i := 80) rfl) rfl
theorem mk_law_68 : Cond.methodLink "ArcadeRentsLaw" 68 yX12_withdraw ∈ vt_tbl := tb5 (List.mem_of_getElem? (i := 230) rfl) rfl
theorem mk_law_69 : Cond.methodLink "ArcadeRentsLaw" 69 yX11_line ∈ vt_tbl := tb3 (List.mem_of_getElem? (i := 88) rfl) rfl
theorem mk_law_72 : Cond.methodLink "ArcadeRentsLaw" 72 yX12_line ∈ vt_tbl := tb5 (List.mem_of_getElem? (i := 239) rfl) rfl
theorem mk_law_73 : Cond.methodLink "ArcadeRentsLaw" 73 yX11_takings ∈ vt_tbl := tb3 (List.mem_of_getElem? (i := 92) rfl) rfl
theorem mk_law_76 : Cond.methodLink "ArcadeRentsLaw" 76 yX12_takings ∈ vt_tbl := tb6 (List.mem_of_getElem? (i := 3) rfl) rfl
theorem mk_law_77 : Cond.methodLink "ArcadeRentsLaw" 77 yX11_beyond ∈ vt_tbl := tb3 (List.mem_of_getElem? (i := 107) rfl) rfl
theorem mk_law_80 : Cond.methodLink "ArcadeRentsLaw" 80 yX12_beyond ∈ vt_tbl := tb6 (List.mem_of_getElem? (i := 11) rfl) rfl
theorem mk_law_81 : Cond.methodLink "ArcadeRentsLaw" 81 yX11_feed ∈ vt_tbl := tb3 (List.mem_of_getElem? (i := 112) rfl) rfl
theorem mk_law_84 : Cond.methodLink "ArcadeRentsLaw" 84 yX12_feed ∈ vt_tbl := tb6 (List.mem_of_getElem? (i := 16) rfl) rfl
theorem mk_law_85 : Cond.methodLink "ArcadeRentsLaw" 85 yX11_trim ∈ vt_tbl := tb3 (List.mem_of_getElem? (i := 120) rfl) rfl
theorem mk_law_88 : Cond.methodLink "ArcadeRentsLaw" 88 yX12_trim ∈ vt_tbl := tb6 (List.mem_of_getElem? (i := 20) rfl) rfl
theorem mk_law_89 : Cond.methodLink "ArcadeRentsLaw" 89 yX11_lease ∈ vt_tbl := tb3 (List.mem_of_getElem? (i := 124) rfl) rfl
theorem mk_law_92 : Cond.methodLink "ArcadeRentsLaw" 92 yX12_lease ∈ vt_tbl := tb6 (List.mem_of_getElem? (i := 24) rfl) rfl
theorem mk_law_93 : Cond.methodLink "ArcadeRentsLaw" 93 yX11_rent ∈ vt_tbl := tb4 (List.mem_of_getElem? (i := 44) rfl) rfl
theorem mk_law_96 : Cond.methodLink "ArcadeRentsLaw" 96 yX12_rent ∈ vt_tbl := tb6 (List.mem_of_getElem? (i := 97) rfl) rfl
theorem mk_law_97 : Cond.methodLink "ArcadeRentsLaw" 97 yX11_rents ∈ vt_tbl := tb4 (List.mem_of_getElem? (i := 81) rfl) rfl
theorem mk_law_100 : Cond.methodLink "ArcadeRentsLaw" 100 yX12_rents ∈ vt_tbl := tb6 (List.mem_of_getElem? (i := 120) rfl) rfl
theorem mk_law_101 : Cond.methodLink "ArcadeRentsLaw" 101 yX11_charge ∈ vt_tbl := tb4 (List.mem_of_getElem? (i := 85) rfl) rfl
theorem mk_law_104 : Cond.methodLink "ArcadeRentsLaw" 104 yX12_charge ∈ vt_tbl := tb6 (List.mem_of_getElem? (i := 124) rfl) rfl
theorem mk_law_105 : Cond.methodLink "ArcadeRentsLaw" 105 yX11_fall ∈ vt_tbl := tb4 (List.mem_of_getElem? (i := 94) rfl) rfl
theorem mk_law_109 : Cond.methodLink "ArcadeRentsLaw" 109 yX12_fall ∈ vt_tbl := tb6 (List.mem_of_getElem? (i := 133) rfl) rfl
theorem mk_law_110 : Cond.methodLink "ArcadeRentsLaw" 110 yX11_fallen ∈ vt_tbl := tb4 (List.mem_of_getElem? (i := 110) rfl) rfl
theorem mk_law_113 : Cond.methodLink "ArcadeRentsLaw" 113 yX12_fallen ∈ vt_tbl := tb6 (List.mem_of_getElem? (i := 141) rfl) rfl
theorem mk_law_114 : Cond.methodLink "ArcadeRentsLaw" 114 yX11_without ∈ vt_tbl := tb4 (List.mem_of_getElem? (i := 114) rfl) rfl
theorem mk_law_117 : Cond.methodLink "ArcadeRentsLaw" 117 yX12_without ∈ vt_tbl := tb6 (List.mem_of_getElem? (i := 145) rfl) rfl
theorem mk_law_118 : Cond.methodLink "ArcadeRentsLaw" 118 yX11_broken ∈ vt_tbl := tb4 (List.mem_of_getElem? (i := 118) rfl) rfl
theorem mk_law_121 : Cond.methodLink "ArcadeRentsLaw" 121 yX12_broken ∈ vt_tbl := tb6 (List.mem_of_getElem? (i := 149) rfl) rfl
theorem mk_law_122 : Cond.methodLink "ArcadeRentsLaw" 122 yX11_mix ∈ vt_tbl := tb4 (List.mem_of_getElem? (i := 131) rfl) rfl
theorem mk_law_125 : Cond.methodLink "ArcadeRentsLaw" 125 yX12_mix ∈ vt_tbl := tb6 (List.mem_of_getElem? (i := 157) rfl) rfl
theorem mk_law_126 : Cond.methodLink "ArcadeRentsLaw" 126 yX11_mixed ∈ vt_tbl := tb4 (List.mem_of_getElem? (i := 173) rfl) rfl
theorem mk_law_129 : Cond.methodLink "ArcadeRentsLaw" 129 yX12_mixed ∈ vt_tbl := tb6 (List.mem_of_getElem? (i := 179) rfl) rfl
theorem mk_law_130 : Cond.methodLink "ArcadeRentsLaw" 130 yX11_tell ∈ vt_tbl := tb4 (List.mem_of_getElem? (i := 177) rfl) rfl
theorem mk_law_133 : Cond.methodLink "ArcadeRentsLaw" 133 yX12_tell ∈ vt_tbl := tb6 (List.mem_of_getElem? (i := 183) rfl) rfl
theorem mk_law_134 : Cond.methodLink "ArcadeRentsLaw" 134 yX11_check ∈ vt_tbl := tb4 (List.mem_of_getElem? (i := 181) rfl) rfl
theorem mk_law_137 : Cond.methodLink "ArcadeRentsLaw" 137 yX12_check ∈ vt_tbl := tb6 (List.mem_of_getElem? (i := 187) rfl) rfl
theorem mk_law_138 : Cond.methodLink "ArcadeRentsLaw" 138 yX11_keep ∈ vt_tbl := tb4 (List.mem_of_getElem? (i := 185) rfl) rfl
theorem mk_law_141 : Cond.methodLink "ArcadeRentsLaw" 141 yX12_keep ∈ vt_tbl := tb6 (List.mem_of_getElem? (i := 191) rfl) rfl
theorem mk_law_142 : Cond.methodLink "ArcadeRentsLaw" 142 yX11_back ∈ vt_tbl := tb4 (List.mem_of_getElem? (i := 218) rfl) rfl
theorem mk_law_145 : Cond.methodLink "ArcadeRentsLaw" 145 yX12_back ∈ vt_tbl := tb6 (List.mem_of_getElem? (i := 195) rfl) rfl
theorem mk_law_146 : Cond.methodLink "ArcadeRentsLaw" 146 yX11_sheet ∈ vt_tbl := tb4 (List.mem_of_getElem? (i := 222) rfl) rfl
theorem mk_law_149 : Cond.methodLink "ArcadeRentsLaw" 149 yX12_sheet ∈ vt_tbl := tb6 (List.mem_of_getElem? (i := 199) rfl) rfl
theorem mk_law_150 : Cond.methodLink "ArcadeRentsLaw" 150 yX11_mark ∈ vt_tbl := tb4 (List.mem_of_getElem? (i := 234) rfl) rfl
theorem mk_law_153 : Cond.methodLink "ArcadeRentsLaw" 153 yX12_mark ∈ vt_tbl := tb6 (List.mem_of_getElem? (i := 204) rfl) rfl
theorem mk_law_154 : Cond.methodLink "ArcadeRentsLaw" 154 yX11_copy ∈ vt_tbl := tb5 (List.mem_of_getElem? (i := 3) rfl) rfl
theorem mk_law_157 : Cond.methodLink "ArcadeRentsLaw" 157 yX12_copy ∈ vt_tbl := tb6 (List.mem_of_getElem? (i := 209) rfl) rfl
theorem mk_law_158 : Cond.methodLink "ArcadeRentsLaw" 158 yX11_count ∈ vt_tbl := tb5 (List.mem_of_getElem? (i := 8) rfl) rfl
theorem mk_law_161 : Cond.methodLink "ArcadeRentsLaw" 161 yX12_count ∈ vt_tbl := tb6 (List.mem_of_getElem? (i := 213) rfl) rfl
section LAWW
variable {g : vt_GT} {cl sl b N : Nat} {xs : Nat → Int32} {i : Int32} {σ : vt_Sg} {P : Option Value → vt_Sg → Prop}
theorem lw_0 (hI : Inv σ) (hin : ∀ c : Nat, c < 6 → vp_in (i + nI c) N) (hcs : cl ≤ room_1.cells ∧ sl ≤ room_1.slots) (K : ∀ σ', Inv σ' → TT g room_1 cl sl D_law (some (b, N, xs)) 1320 [some (.ref b), some (.ref (g.2.1 0)), some (.ref (g.2.1 168)), some (.int i)] [] σ' P) :
    TT g room_1 cl sl D_law (some (b, N, xs)) 192 [some (.ref b), some (.ref (g.2.1 0)), some (.ref (g.2.1 168)), some (.int i)] [] σ P := by
  refine q_aload_n dlaw_192 rfl ?_
  refine q_aload_n dlaw_193 rfl ?_
  refine q_iload_n dlaw_194 rfl ?_
  refine q_iconst (v := 1) dlaw_195 (by decide) ?_
  refine q_iadd dlaw_196 ?_
  refine q_xald rfl dlaw_197 (hin 1 (by omega)) ?_
  refine q_aload_n dlaw_198 rfl ?_
  refine q_iload_n dlaw_199 rfl ?_
  refine q_iconst (v := 2) dlaw_200 (by decide) ?_
  refine q_iadd dlaw_201 ?_
  refine q_xald rfl dlaw_202 (hin 2 (by omega)) ?_
  refine q_callV (d := 2) (As := [.int (xs (i + 1).toNatClampNeg), .int (xs (i + 2).toNatClampNeg)]) (rest := []) dlaw_203 ok_X11_feet mk_law_13 rc_0 rfl (Nat.le_of_ble_eq_true rfl) ⟨by decide, by decide⟩ hcs (op_feet hI) (fun v σ1 h => ?_)
  obtain ⟨r, rfl, h⟩ := h
  refine q_aload_n dlaw_206 rfl ?_
  refine q_aload_n dlaw_207 rfl ?_
  refine q_iload_n dlaw_208 rfl ?_
  refine q_iconst (v := 1) dlaw_209 (by decide) ?_
  refine q_iadd dlaw_210 ?_
  refine q_xald rfl dlaw_211 (hin 1 (by omega)) ?_
  refine q_aload_n dlaw_212 rfl ?_
  refine q_iload_n dlaw_213 rfl ?_
  refine q_iconst (v := 2) dlaw_214 (by decide) ?_
  refine q_iadd dlaw_215 ?_
  refine q_xald rfl dlaw_216 (hin 2 (by omega)) ?_
  refine q_callV (d := 2) (As := [.int (xs (i + 1).toNatClampNeg), .int (xs (i + 2).toNatClampNeg)]) (rest := [.int r]) dlaw_217 ok_X12_feet mk_law_17 rc_168 rfl (Nat.le_of_ble_eq_true rfl) ⟨by decide, by decide⟩ hcs h (fun v σ2 h => ?_)
  obtain ⟨r', rfl, rfl, hI2⟩ := h
  exact q_icmp_eq (tgt := 1320) dlaw_220 (by decide) (fun _ => K σ2 hI2) (fun c => absurd rfl c)
theorem lw_1 (hI : Inv σ) (hin : ∀ c : Nat, c < 6 → vp_in (i + nI c) N) (hcs : cl ≤ room_1.cells ∧ sl ≤ room_1.slots) (K : ∀ σ', Inv σ' → TT g room_1 cl sl D_law (some (b, N, xs)) 1320 [some (.ref b), some (.ref (g.2.1 0)), some (.ref (g.2.1 168)), some (.int i)] [] σ' P) :
    TT g room_1 cl sl D_law (some (b, N, xs)) 225 [some (.ref b), some (.ref (g.2.1 0)), some (.ref (g.2.1 168)), some (.int i)] [] σ P := by
  refine q_aload_n dlaw_225 rfl ?_
  refine q_aload_n dlaw_226 rfl ?_
  refine q_iload_n dlaw_227 rfl ?_
  refine q_iconst (v := 1) dlaw_228 (by decide) ?_
  refine q_iadd dlaw_229 ?_
  refine q_xald rfl dlaw_230 (hin 1 (by omega)) ?_
  refine q_callV (d := 2) (As := [.int (xs (i + 1).toNatClampNeg)]) (rest := []) dlaw_231 ok_X11_lay mk_law_18 rc_0 rfl (Nat.le_of_ble_eq_true rfl) ⟨by decide, by decide⟩ hcs (op_lay hI) (fun v σ1 h => ?_)
  obtain ⟨r, rfl, h⟩ := h
  refine q_aload_n dlaw_234 rfl ?_
  refine q_aload_n dlaw_235 rfl ?_
  refine q_iload_n dlaw_236 rfl ?_
  refine q_iconst (v := 1) dlaw_237 (by decide) ?_
  refine q_iadd dlaw_238 ?_
  refine q_xald rfl dlaw_239 (hin 1 (by omega)) ?_
  refine q_callV (d := 1) (As := [.int (xs (i + 1).toNatClampNeg)]) (rest := [.int r]) dlaw_240 ok_X12_lay mk_law_22 rc_168 rfl (Nat.le_of_ble_eq_true rfl) ⟨by decide, by decide⟩ hcs h (fun v σ2 h => ?_)
  obtain ⟨r', rfl, rfl, hI2⟩ := h
  exact q_icmp_eq (tgt := 1320) dlaw_243 (by decide) (fun _ => K σ2 hI2) (fun c => absurd rfl c)
theorem lw_2 (hI : Inv σ) (hin : ∀ c : Nat, c < 6 → vp_in (i + nI c) N) (hcs : cl ≤ room_1.cells ∧ sl ≤ room_1.slots) (K : ∀ σ', Inv σ' → TT g room_1 cl sl D_law (some (b, N, xs)) 1320 [some (.ref b), some (.ref (g.2.1 0)), some (.ref (g.2.1 168)), some (.int i)] [] σ' P) :
    TT g room_1 cl sl D_law (some (b, N, xs)) 248 [some (.ref b), some (.ref (g.2.1 0)), some (.ref (g.2.1 168)), some (.int i)] [] σ P := by
  refine q_aload_n dlaw_248 rfl ?_
  refine q_aload_n dlaw_249 rfl ?_
  refine q_iload_n dlaw_250 rfl ?_
  refine q_iconst (v := 1) dlaw_251 (by decide) ?_
  refine q_iadd dlaw_252 ?_
  refine q_xald rfl dlaw_253 (hin 1 (by omega)) ?_
  refine q_aload_n dlaw_254 rfl ?_
  refine q_iload_n dlaw_255 rfl ?_
  refine q_iconst (v := 2) dlaw_256 (by decide) ?_
  refine q_iadd dlaw_257 ?_
  refine q_xald rfl dlaw_258 (hin 2 (by omega)) ?_
  refine q_callV (d := 2) (As := [.int (xs (i + 1).toNatClampNeg), .int (xs (i + 2).toNatClampNeg)]) (rest := []) dlaw_259 ok_X11_door mk_law_23 rc_0 rfl (Nat.le_of_ble_eq_true rfl) ⟨by decide, by decide⟩ hcs (op_door hI) (fun v σ1 h => ?_)
  obtain ⟨r, rfl, h⟩ := h
  refine q_aload_n dlaw_262 rfl ?_
  refine q_aload_n dlaw_263 rfl ?_
  refine q_iload_n dlaw_264 rfl ?_
  refine q_iconst (v := 1) dlaw_265 (by decide) ?_
  refine q_iadd dlaw_266 ?_
  refine q_xald rfl dlaw_267 (hin 1 (by omega)) ?_
  refine q_aload_n dlaw_268 rfl ?_
  refine q_iload_n dlaw_269 rfl ?_
  refine q_iconst (v := 2) dlaw_270 (by decide) ?_
  refine q_iadd dlaw_271 ?_
  refine q_xald rfl dlaw_272 (hin 2 (by omega)) ?_
  refine q_callV (d := 2) (As := [.int (xs (i + 1).toNatClampNeg), .int (xs (i + 2).toNatClampNeg)]) (rest := [.int r]) dlaw_273 ok_X12_door mk_law_26 rc_168 rfl (Nat.le_of_ble_eq_true rfl) ⟨by decide, by decide⟩ hcs h (fun v σ2 h => ?_)
  obtain ⟨r', rfl, rfl, hI2⟩ := h
  exact q_icmp_eq (tgt := 1320) dlaw_276 (by decide) (fun _ => K σ2 hI2) (fun c => absurd rfl c)
theorem lw_3 (hI : Inv σ) (hin : ∀ c : Nat, c < 6 → vp_in (i + nI c) N) (hcs : cl ≤ room_1.cells ∧ sl ≤ room_1.slots) (K : ∀ σ', Inv σ' → TT g room_1 cl sl D_law (some (b, N, xs)) 1320 [some (.ref b), some (.ref (g.2.1 0)), some (.ref (g.2.1 168)), some (.int i)] [] σ' P) :
    TT g room_1 cl sl D_law (some (b, N, xs)) 281 [some (.ref b), some (.ref (g.2.1 0)), some (.ref (g.2.1 168)), some (.int i)] [] σ P := by
  refine q_aload_n dlaw_281 rfl ?_
  refine q_aload_n dlaw_282 rfl ?_
  refine q_iload_n dlaw_283 rfl ?_
  refine q_iconst (v := 1) dlaw_284 (by decide) ?_
  refine q_iadd dlaw_285 ?_
  refine q_xald rfl dlaw_286 (hin 1 (by omega)) ?_
  refine q_aload_n dlaw_287 rfl ?_
  refine q_iload_n dlaw_288 rfl ?_
  refine q_iconst (v := 2) dlaw_289 (by decide) ?_
  refine q_iadd dlaw_290 ?_
  refine q_xald rfl dlaw_291 (hin 2 (by omega)) ?_
  refine q_callV (d := 2) (As := [.int (xs (i + 1).toNatClampNeg), .int (xs (i + 2).toNatClampNeg)]) (rest := []) dlaw_292 ok_X11_people mk_law_27 rc_0 rfl (Nat.le_of_ble_eq_true rfl) ⟨by decide, by decide⟩ hcs (op_people hI) (fun v σ1 h => ?_)
  obtain ⟨r, rfl, h⟩ := h
  refine q_aload_n dlaw_295 rfl ?_
  refine q_aload_n dlaw_296 rfl ?_
  refine q_iload_n dlaw_297 rfl ?_
  refine q_iconst (v := 1) dlaw_298 (by decide) ?_
  refine q_iadd dlaw_299 ?_
  refine q_xald rfl dlaw_300 (hin 1 (by omega)) ?_
  refine q_aload_n dlaw_301 rfl ?_
  refine q_iload_n dlaw_302 rfl ?_
  refine q_iconst (v := 2) dlaw_303 (by decide) ?_
  refine q_iadd dlaw_304 ?_
  refine q_xald rfl dlaw_305 (hin 2 (by omega)) ?_
  refine q_callV (d := 1) (As := [.int (xs (i + 1).toNatClampNeg), .int (xs (i + 2).toNatClampNeg)]) (rest := [.int r]) dlaw_306 ok_X12_people mk_law_30 rc_168 rfl (Nat.le_of_ble_eq_true rfl) ⟨by decide, by decide⟩ hcs h (fun v σ2 h => ?_)
  obtain ⟨r', rfl, rfl, hI2⟩ := h
  exact q_icmp_eq (tgt := 1320) dlaw_309 (by decide) (fun _ => K σ2 hI2) (fun c => absurd rfl c)
theorem lw_4 (hI : Inv σ) (hin : ∀ c : Nat, c < 6 → vp_in (i + nI c) N) (hcs : cl ≤ room_1.cells ∧ sl ≤ room_1.slots) (K : ∀ σ', Inv σ' → TT g room_1 cl sl D_law (some (b, N, xs)) 1320 [some (.ref b), some (.ref (g.2.1 0)), some (.ref (g.2.1 168)), some (.int i)] [] σ' P) :
    TT g room_1 cl sl D_law (some (b, N, xs)) 314 [some (.ref b), some (.ref (g.2.1 0)), some (.ref (g.2.1 168)), some (.int i)] [] σ P := by
  refine q_aload_n dlaw_314 rfl ?_
  refine q_aload_n dlaw_315 rfl ?_
  refine q_iload_n dlaw_316 rfl ?_
  refine q_iconst (v := 1) dlaw_317 (by decide) ?_
  refine q_iadd dlaw_318 ?_
  refine q_xald rfl dlaw_319 (hin 1 (by omega)) ?_
  refine q_aload_n dlaw_320 rfl ?_
  refine q_iload_n dlaw_321 rfl ?_
  refine q_iconst (v := 2) dlaw_322 (by decide) ?_
  refine q_iadd dlaw_323 ?_
  refine q_xald rfl dlaw_324 (hin 2 (by omega)) ?_
  refine q_aload_n dlaw_325 rfl ?_
  refine q_iload_n dlaw_326 rfl ?_
  refine q_iconst (v := 3) dlaw_327 (by decide) ?_
  refine q_iadd dlaw_328 ?_
  refine q_xald rfl dlaw_329 (hin 3 (by omega)) ?_
  refine q_aload_n dlaw_330 rfl ?_
  refine q_iload_n dlaw_331 rfl ?_
  refine q_iconst (v := 4) dlaw_332 (by decide) ?_
  refine q_iadd dlaw_333 ?_
  refine q_xald rfl dlaw_334 (hin 4 (by omega)) ?_
  refine q_aload_n dlaw_335 rfl ?_
  refine q_iload_n dlaw_336 rfl ?_
  refine q_iconst (v := 5) dlaw_337 (by decide) ?_
  refine q_iadd dlaw_338 ?_
  refine q_xald rfl dlaw_339 (hin 5 (by omega)) ?_
  refine q_callV (d := 1) (As := [.int (xs (i + 1).toNatClampNeg), .int (xs (i + 2).toNatClampNeg), .int (xs (i + 3).toNatClampNeg), .int (xs (i + 4).toNatClampNeg), .int (xs (i + 5).toNatClampNeg)]) (rest := []) dlaw_340 ok_X11_shop mk_law_31 rc_0 rfl (Nat.le_of_ble_eq_true rfl) ⟨by decide, by decide⟩ hcs (op_shop hI) (fun v σ1 h => ?_)
  obtain ⟨r, rfl, h⟩ := h
  refine q_aload_n dlaw_343 rfl ?_
  refine q_aload_n dlaw_344 rfl ?_
  refine q_iload_n dlaw_345 rfl ?_
  refine q_iconst (v := 1) dlaw_346 (by decide) ?_
  refine q_iadd dlaw_347 ?_
  refine q_xald rfl dlaw_348 (hin 1 (by omega)) ?_
  refine q_aload_n dlaw_349 rfl ?_
  refine q_iload_n dlaw_350 rfl ?_
  refine q_iconst (v := 2) dlaw_351 (by decide) ?_
  refine q_iadd dlaw_352 ?_
  refine q_xald rfl dlaw_353 (hin 2 (by omega)) ?_
  refine q_aload_n dlaw_354 rfl ?_
  refine q_iload_n dlaw_355 rfl ?_
  refine q_iconst (v := 3) dlaw_356 (by decide) ?_
  refine q_iadd dlaw_357 ?_
  refine q_xald rfl dlaw_358 (hin 3 (by omega)) ?_
  refine q_aload_n dlaw_359 rfl ?_
  refine q_iload_n dlaw_360 rfl ?_
  refine q_iconst (v := 4) dlaw_361 (by decide) ?_
  refine q_iadd dlaw_362 ?_
  refine q_xald rfl dlaw_363 (hin 4 (by omega)) ?_
  refine q_aload_n dlaw_364 rfl ?_
  refine q_iload_n dlaw_365 rfl ?_
  refine q_iconst (v := 5) dlaw_366 (by decide) ?_
  refine q_iadd dlaw_367 ?_
  refine q_xald rfl dlaw_368 (hin 5 (by omega)) ?_
  refine q_callV (d := 1) (As := [.int (xs (i + 1).toNatClampNeg), .int (xs (i + 2).toNatClampNeg), .int (xs (i + 3).toNatClampNeg), .int (xs (i + 4).toNatClampNeg), .int (xs (i + 5).toNatClampNeg)]) (rest := [.int r]) dlaw_369 ok_X12_shop mk_law_35 rc_168 rfl (Nat.le_of_ble_eq_true rfl) ⟨by decide, by decide⟩ hcs h (fun v σ2 h => ?_)
  obtain ⟨r', rfl, rfl, hI2⟩ := h
  exact q_icmp_eq (tgt := 1320) dlaw_372 (by decide) (fun _ => K σ2 hI2) (fun c => absurd rfl c)
theorem lw_5 (hI : Inv σ) (hin : ∀ c : Nat, c < 6 → vp_in (i + nI c) N) (hcs : cl ≤ room_1.cells ∧ sl ≤ room_1.slots) (K : ∀ σ', Inv σ' → TT g room_1 cl sl D_law (some (b, N, xs)) 1320 [some (.ref b), some (.ref (g.2.1 0)), some (.ref (g.2.1 168)), some (.int i)] [] σ' P) :
    TT g room_1 cl sl D_law (some (b, N, xs)) 377 [some (.ref b), some (.ref (g.2.1 0)), some (.ref (g.2.1 168)), some (.int i)] [] σ P := by
  refine q_aload_n dlaw_377 rfl ?_
  refine q_aload_n dlaw_378 rfl ?_
  refine q_iload_n dlaw_379 rfl ?_
  refine q_iconst (v := 1) dlaw_380 (by decide) ?_
  refine q_iadd dlaw_381 ?_
  refine q_xald rfl dlaw_382 (hin 1 (by omega)) ?_
  refine q_aload_n dlaw_383 rfl ?_
  refine q_iload_n dlaw_384 rfl ?_
  refine q_iconst (v := 2) dlaw_385 (by decide) ?_
  refine q_iadd dlaw_386 ?_
  refine q_xald rfl dlaw_387 (hin 2 (by omega)) ?_
  refine q_callV (d := 1) (As := [.int (xs (i + 1).toNatClampNeg), .int (xs (i + 2).toNatClampNeg)]) (rest := []) dlaw_388 ok_X11_isOf mk_law_36 rc_0 rfl (Nat.le_of_ble_eq_true rfl) ⟨by decide, by decide⟩ hcs (op_isOf hI) (fun v σ1 h => ?_)
  obtain ⟨r, rfl, h⟩ := h
  refine q_aload_n dlaw_391 rfl ?_
  refine q_aload_n dlaw_392 rfl ?_
  refine q_iload_n dlaw_393 rfl ?_
  refine q_iconst (v := 1) dlaw_394 (by decide) ?_
  refine q_iadd dlaw_395 ?_
  refine q_xald rfl dlaw_396 (hin 1 (by omega)) ?_
  refine q_aload_n dlaw_397 rfl ?_
  refine q_iload_n dlaw_398 rfl ?_
  refine q_iconst (v := 2) dlaw_399 (by decide) ?_
  refine q_iadd dlaw_400 ?_
  refine q_xald rfl dlaw_401 (hin 2 (by omega)) ?_
  refine q_callV (d := 2) (As := [.int (xs (i + 1).toNatClampNeg), .int (xs (i + 2).toNatClampNeg)]) (rest := [.int r]) dlaw_402 ok_X12_isOf mk_law_39 rc_168 rfl (Nat.le_of_ble_eq_true rfl) ⟨by decide, by decide⟩ hcs h (fun v σ2 h => ?_)
  obtain ⟨r', rfl, rfl, hI2⟩ := h
  exact q_icmp_eq (tgt := 1320) dlaw_405 (by decide) (fun _ => K σ2 hI2) (fun c => absurd rfl c)
theorem lw_6 (hI : Inv σ) (hin : ∀ c : Nat, c < 6 → vp_in (i + nI c) N) (hcs : cl ≤ room_1.cells ∧ sl ≤ room_1.slots) (K : ∀ σ', Inv σ' → TT g room_1 cl sl D_law (some (b, N, xs)) 1320 [some (.ref b), some (.ref (g.2.1 0)), some (.ref (g.2.1 168)), some (.int i)] [] σ' P) :
    TT g room_1 cl sl D_law (some (b, N, xs)) 410 [some (.ref b), some (.ref (g.2.1 0)), some (.ref (g.2.1 168)), some (.int i)] [] σ P := by
  refine q_aload_n dlaw_410 rfl ?_
  refine q_aload_n dlaw_411 rfl ?_
  refine q_iload_n dlaw_412 rfl ?_
  refine q_iconst (v := 1) dlaw_413 (by decide) ?_
  refine q_iadd dlaw_414 ?_
  refine q_xald rfl dlaw_415 (hin 1 (by omega)) ?_
  refine q_aload_n dlaw_416 rfl ?_
  refine q_iload_n dlaw_417 rfl ?_
  refine q_iconst (v := 2) dlaw_418 (by decide) ?_
  refine q_iadd dlaw_419 ?_
  refine q_xald rfl dlaw_420 (hin 2 (by omega)) ?_
  refine q_callV (d := 3) (As := [.int (xs (i + 1).toNatClampNeg), .int (xs (i + 2).toNatClampNeg)]) (rest := []) dlaw_421 ok_X11_move mk_law_40 rc_0 rfl (Nat.le_of_ble_eq_true rfl) ⟨by decide, by decide⟩ hcs (op_move hI) (fun v σ1 h => ?_)
  obtain ⟨r, rfl, h⟩ := h
  refine q_aload_n dlaw_424 rfl ?_
  refine q_aload_n dlaw_425 rfl ?_
  refine q_iload_n dlaw_426 rfl ?_
  refine q_iconst (v := 1) dlaw_427 (by decide) ?_
  refine q_iadd dlaw_428 ?_
  refine q_xald rfl dlaw_429 (hin 1 (by omega)) ?_
  refine q_aload_n dlaw_430 rfl ?_
  refine q_iload_n dlaw_431 rfl ?_
  refine q_iconst (v := 2) dlaw_432 (by decide) ?_
  refine q_iadd dlaw_433 ?_
  refine q_xald rfl dlaw_434 (hin 2 (by omega)) ?_
  refine q_callV (d := 2) (As := [.int (xs (i + 1).toNatClampNeg), .int (xs (i + 2).toNatClampNeg)]) (rest := [.int r]) dlaw_435 ok_X12_move mk_law_43 rc_168 rfl (Nat.le_of_ble_eq_true rfl) ⟨by decide, by decide⟩ hcs h (fun v σ2 h => ?_)
  obtain ⟨r', rfl, rfl, hI2⟩ := h
  exact q_icmp_eq (tgt := 1320) dlaw_438 (by decide) (fun _ => K σ2 hI2) (fun c => absurd rfl c)
theorem lw_7 (hI : Inv σ) (hin : ∀ c : Nat, c < 6 → vp_in (i + nI c) N) (hcs : cl ≤ room_1.cells ∧ sl ≤ room_1.slots) (K : ∀ σ', Inv σ' → TT g room_1 cl sl D_law (some (b, N, xs)) 1320 [some (.ref b), some (.ref (g.2.1 0)), some (.ref (g.2.1 168)), some (.int i)] [] σ' P) :
    TT g room_1 cl sl D_law (some (b, N, xs)) 443 [some (.ref b), some (.ref (g.2.1 0)), some (.ref (g.2.1 168)), some (.int i)] [] σ P := by
  refine q_aload_n dlaw_443 rfl ?_
  refine q_aload_n dlaw_444 rfl ?_
  refine q_iload_n dlaw_445 rfl ?_
  refine q_iconst (v := 1) dlaw_446 (by decide) ?_
  refine q_iadd dlaw_447 ?_
  refine q_xald rfl dlaw_448 (hin 1 (by omega)) ?_
  refine q_callV (d := 1) (As := [.int (xs (i + 1).toNatClampNeg)]) (rest := []) dlaw_449 ok_X11_months mk_law_44 rc_0 rfl (Nat.le_of_ble_eq_true rfl) ⟨by decide, by decide⟩ hcs (op_months hI) (fun v σ1 h => ?_)
  obtain ⟨r, rfl, h⟩ := h
  refine q_aload_n dlaw_452 rfl ?_
  refine q_aload_n dlaw_453 rfl ?_
  refine q_iload_n dlaw_454 rfl ?_
  refine q_iconst (v := 1) dlaw_455 (by decide) ?_
  refine q_iadd dlaw_456 ?_
  refine q_xald rfl dlaw_457 (hin 1 (by omega)) ?_
  refine q_callV (d := 1) (As := [.int (xs (i + 1).toNatClampNeg)]) (rest := [.int r]) dlaw_458 ok_X12_months mk_law_47 rc_168 rfl (Nat.le_of_ble_eq_true rfl) ⟨by decide, by decide⟩ hcs h (fun v σ2 h => ?_)
  obtain ⟨r', rfl, rfl, hI2⟩ := h
  exact q_icmp_eq (tgt := 1320) dlaw_461 (by decide) (fun _ => K σ2 hI2) (fun c => absurd rfl c)
theorem lw_8 (hI : Inv σ) (hin : ∀ c : Nat, c < 6 → vp_in (i + nI c) N) (hcs : cl ≤ room_1.cells ∧ sl ≤ room_1.slots) (K : ∀ σ', Inv σ' → TT g room_1 cl sl D_law (some (b, N, xs)) 1320 [some (.ref b), some (.ref (g.2.1 0)), some (.ref (g.2.1 168)), some (.int i)] [] σ' P) :
    TT g room_1 cl sl D_law (some (b, N, xs)) 466 [some (.ref b), some (.ref (g.2.1 0)), some (.ref (g.2.1 168)), some (.int i)] [] σ P := by
  refine q_aload_n dlaw_466 rfl ?_
  refine q_aload_n dlaw_467 rfl ?_
  refine q_iload_n dlaw_468 rfl ?_
  refine q_iconst (v := 1) dlaw_469 (by decide) ?_
  refine q_iadd dlaw_470 ?_
  refine q_xald rfl dlaw_471 (hin 1 (by omega)) ?_
  refine q_aload_n dlaw_472 rfl ?_
  refine q_iload_n dlaw_473 rfl ?_
  refine q_iconst (v := 2) dlaw_474 (by decide) ?_
  refine q_iadd dlaw_475 ?_
  refine q_xald rfl dlaw_476 (hin 2 (by omega)) ?_
  refine q_callV (d := 1) (As := [.int (xs (i + 1).toNatClampNeg), .int (xs (i + 2).toNatClampNeg)]) (rest := []) dlaw_477 ok_X11_rule mk_law_48 rc_0 rfl (Nat.le_of_ble_eq_true rfl) ⟨by decide, by decide⟩ hcs (op_rule hI) (fun v σ1 h => ?_)
  obtain ⟨r, rfl, h⟩ := h
  refine q_aload_n dlaw_480 rfl ?_
  refine q_aload_n dlaw_481 rfl ?_
  refine q_iload_n dlaw_482 rfl ?_
  refine q_iconst (v := 1) dlaw_483 (by decide) ?_
  refine q_iadd dlaw_484 ?_
  refine q_xald rfl dlaw_485 (hin 1 (by omega)) ?_
  refine q_aload_n dlaw_486 rfl ?_
  refine q_iload_n dlaw_487 rfl ?_
  refine q_iconst (v := 2) dlaw_488 (by decide) ?_
  refine q_iadd dlaw_489 ?_
  refine q_xald rfl dlaw_490 (hin 2 (by omega)) ?_
  refine q_callV (d := 1) (As := [.int (xs (i + 1).toNatClampNeg), .int (xs (i + 2).toNatClampNeg)]) (rest := [.int r]) dlaw_491 ok_X12_rule mk_law_51 rc_168 rfl (Nat.le_of_ble_eq_true rfl) ⟨by decide, by decide⟩ hcs h (fun v σ2 h => ?_)
  obtain ⟨r', rfl, rfl, hI2⟩ := h
  exact q_icmp_eq (tgt := 1320) dlaw_494 (by decide) (fun _ => K σ2 hI2) (fun c => absurd rfl c)
theorem lw_9 (hI : Inv σ) (hin : ∀ c : Nat, c < 6 → vp_in (i + nI c) N) (hcs : cl ≤ room_1.cells ∧ sl ≤ room_1.slots) (K : ∀ σ', Inv σ' → TT g room_1 cl sl D_law (some (b, N, xs)) 1320 [some (.ref b), some (.ref (g.2.1 0)), some (.ref (g.2.1 168)), some (.int i)] [] σ' P) :
    TT g room_1 cl sl D_law (some (b, N, xs)) 499 [some (.ref b), some (.ref (g.2.1 0)), some (.ref (g.2.1 168)), some (.int i)] [] σ P := by
  refine q_aload_n dlaw_499 rfl ?_
  refine q_aload_n dlaw_500 rfl ?_
  refine q_iload_n dlaw_501 rfl ?_
  refine q_iconst (v := 1) dlaw_502 (by decide) ?_
  refine q_iadd dlaw_503 ?_
  refine q_xald rfl dlaw_504 (hin 1 (by omega)) ?_
  refine q_aload_n dlaw_505 rfl ?_
  refine q_iload_n dlaw_506 rfl ?_
  refine q_iconst (v := 2) dlaw_507 (by decide) ?_
  refine q_iadd dlaw_508 ?_
  refine q_xald rfl dlaw_509 (hin 2 (by omega)) ?_
  refine q_aload_n dlaw_510 rfl ?_
  refine q_iload_n dlaw_511 rfl ?_
  refine q_iconst (v := 3) dlaw_512 (by decide) ?_
  refine q_iadd dlaw_513 ?_
  refine q_xald rfl dlaw_514 (hin 3 (by omega)) ?_
  refine q_callV (d := 3) (As := [.int (xs (i + 1).toNatClampNeg), .int (xs (i + 2).toNatClampNeg), .int (xs (i + 3).toNatClampNeg)]) (rest := []) dlaw_515 ok_X11_stands mk_law_52 rc_0 rfl (Nat.le_of_ble_eq_true rfl) ⟨by decide, by decide⟩ hcs (op_stands hI) (fun v σ1 h => ?_)
  obtain ⟨r, rfl, h⟩ := h
  refine q_aload_n dlaw_518 rfl ?_
  refine q_aload_n dlaw_519 rfl ?_
  refine q_iload_n dlaw_520 rfl ?_
  refine q_iconst (v := 1) dlaw_521 (by decide) ?_
  refine q_iadd dlaw_522 ?_
  refine q_xald rfl dlaw_523 (hin 1 (by omega)) ?_
  refine q_aload_n dlaw_524 rfl ?_
  refine q_iload_n dlaw_525 rfl ?_
  refine q_iconst (v := 2) dlaw_526 (by decide) ?_
  refine q_iadd dlaw_527 ?_
  refine q_xald rfl dlaw_528 (hin 2 (by omega)) ?_
  refine q_aload_n dlaw_529 rfl ?_
  refine q_iload_n dlaw_530 rfl ?_
  refine q_iconst (v := 3) dlaw_531 (by decide) ?_
  refine q_iadd dlaw_532 ?_
  refine q_xald rfl dlaw_533 (hin 3 (by omega)) ?_
  refine q_callV (d := 4) (As := [.int (xs (i + 1).toNatClampNeg), .int (xs (i + 2).toNatClampNeg), .int (xs (i + 3).toNatClampNeg)]) (rest := [.int r]) dlaw_534 ok_X12_stands mk_law_56 rc_168 rfl (Nat.le_of_ble_eq_true rfl) ⟨by decide, by decide⟩ hcs h (fun v σ2 h => ?_)
  obtain ⟨r', rfl, rfl, hI2⟩ := h
  exact q_icmp_eq (tgt := 1320) dlaw_537 (by decide) (fun _ => K σ2 hI2) (fun c => absurd rfl c)
theorem lw_10 (hI : Inv σ) (hin : ∀ c : Nat, c < 6 → vp_in (i + nI c) N) (hcs : cl ≤ room_1.cells ∧ sl ≤ room_1.slots) (K : ∀ σ', Inv σ' → TT g room_1 cl sl D_law (some (b, N, xs)) 1320 [some (.ref b), some (.ref (g.2.1 0)), some (.ref (g.2.1 168)), some (.int i)] [] σ' P) :
    TT g room_1 cl sl D_law (some (b, N, xs)) 542 [some (.ref b), some (.ref (g.2.1 0)), some (.ref (g.2.1 168)), some (.int i)] [] σ P := by
  refine q_aload_n dlaw_542 rfl ?_
  refine q_aload_n dlaw_543 rfl ?_
  refine q_iload_n dlaw_544 rfl ?_
  refine q_iconst (v := 1) dlaw_545 (by decide) ?_
  refine q_iadd dlaw_546 ?_
  refine q_xald rfl dlaw_547 (hin 1 (by omega)) ?_
  refine q_aload_n dlaw_548 rfl ?_
  refine q_iload_n dlaw_549 rfl ?_
  refine q_iconst (v := 2) dlaw_550 (by decide) ?_
  refine q_iadd dlaw_551 ?_
  refine q_xald rfl dlaw_552 (hin 2 (by omega)) ?_
  refine q_callV (d := 3) (As := [.int (xs (i + 1).toNatClampNeg), .int (xs (i + 2).toNatClampNeg)]) (rest := []) dlaw_553 ok_X11_past mk_law_57 rc_0 rfl (Nat.le_of_ble_eq_true rfl) ⟨by decide, by decide⟩ hcs (op_past hI) (fun v σ1 h => ?_)
  obtain ⟨r, rfl, h⟩ := h
  refine q_aload_n dlaw_556 rfl ?_
  refine q_aload_n dlaw_557 rfl ?_
  refine q_iload_n dlaw_558 rfl ?_
  refine q_iconst (v := 1) dlaw_559 (by decide) ?_
  refine q_iadd dlaw_560 ?_
  refine q_xald rfl dlaw_561 (hin 1 (by omega)) ?_
  refine q_aload_n dlaw_562 rfl ?_
  refine q_iload_n dlaw_563 rfl ?_
  refine q_iconst (v := 2) dlaw_564 (by decide) ?_
  refine q_iadd dlaw_565 ?_
  refine q_xald rfl dlaw_566 (hin 2 (by omega)) ?_
  refine q_callV (d := 3) (As := [.int (xs (i + 1).toNatClampNeg), .int (xs (i + 2).toNatClampNeg)]) (rest := [.int r]) dlaw_567 ok_X12_past mk_law_60 rc_168 rfl (Nat.le_of_ble_eq_true rfl) ⟨by decide, by decide⟩ hcs h (fun v σ2 h => ?_)
  obtain ⟨r', rfl, rfl, hI2⟩ := h
  exact q_icmp_eq (tgt := 1320) dlaw_570 (by decide) (fun _ => K σ2 hI2) (fun c => absurd rfl c)
theorem lw_11 (hI : Inv σ) (hin : ∀ c : Nat, c < 6 → vp_in (i + nI c) N) (hcs : cl ≤ room_1.cells ∧ sl ≤ room_1.slots) (K : ∀ σ', Inv σ' → TT g room_1 cl sl D_law (some (b, N, xs)) 1320 [some (.ref b), some (.ref (g.2.1 0)), some (.ref (g.2.1 168)), some (.int i)] [] σ' P) :
    TT g room_1 cl sl D_law (some (b, N, xs)) 575 [some (.ref b), some (.ref (g.2.1 0)), some (.ref (g.2.1 168)), some (.int i)] [] σ P := by
  refine q_aload_n dlaw_575 rfl ?_
  refine q_aload_n dlaw_576 rfl ?_
  refine q_iload_n dlaw_577 rfl ?_
  refine q_iconst (v := 1) dlaw_578 (by decide) ?_
  refine q_iadd dlaw_579 ?_
  refine q_xald rfl dlaw_580 (hin 1 (by omega)) ?_
  refine q_aload_n dlaw_581 rfl ?_
  refine q_iload_n dlaw_582 rfl ?_
  refine q_iconst (v := 2) dlaw_583 (by decide) ?_
  refine q_iadd dlaw_584 ?_
  refine q_xald rfl dlaw_585 (hin 2 (by omega)) ?_
  refine q_aload_n dlaw_586 rfl ?_
  refine q_iload_n dlaw_587 rfl ?_
  refine q_iconst (v := 3) dlaw_588 (by decide) ?_
  refine q_iadd dlaw_589 ?_
  refine q_xald rfl dlaw_590 (hin 3 (by omega)) ?_
  refine q_callV (d := 2) (As := [.int (xs (i + 1).toNatClampNeg), .int (xs (i + 2).toNatClampNeg), .int (xs (i + 3).toNatClampNeg)]) (rest := []) dlaw_591 ok_X11_take mk_law_61 rc_0 rfl (Nat.le_of_ble_eq_true rfl) ⟨by decide, by decide⟩ hcs (op_take hI) (fun v σ1 h => ?_)
  obtain ⟨r, rfl, h⟩ := h
  refine q_aload_n dlaw_594 rfl ?_
  refine q_aload_n dlaw_595 rfl ?_
  refine q_iload_n dlaw_596 rfl ?_
  refine q_iconst (v := 1) dlaw_597 (by decide) ?_
  refine q_iadd dlaw_598 ?_
  refine q_xald rfl dlaw_599 (hin 1 (by omega)) ?_
  refine q_aload_n dlaw_600 rfl ?_
  refine q_iload_n dlaw_601 rfl ?_
  refine q_iconst (v := 2) dlaw_602 (by decide) ?_
  refine q_iadd dlaw_603 ?_
  refine q_xald rfl dlaw_604 (hin 2 (by omega)) ?_
  refine q_aload_n dlaw_605 rfl ?_
  refine q_iload_n dlaw_606 rfl ?_
  refine q_iconst (v := 3) dlaw_607 (by decide) ?_
  refine q_iadd dlaw_608 ?_
  refine q_xald rfl dlaw_609 (hin 3 (by omega)) ?_
  refine q_callV (d := 2) (As := [.int (xs (i + 1).toNatClampNeg), .int (xs (i + 2).toNatClampNeg), .int (xs (i + 3).toNatClampNeg)]) (rest := [.int r]) dlaw_610 ok_X12_take mk_law_64 rc_168 rfl (Nat.le_of_ble_eq_true rfl) ⟨by decide, by decide⟩ hcs h (fun v σ2 h => ?_)
  obtain ⟨r', rfl, rfl, hI2⟩ := h
  exact q_icmp_eq (tgt := 1320) dlaw_613 (by decide) (fun _ => K σ2 hI2) (fun c => absurd rfl c)
theorem lw_12 (hI : Inv σ) (hin : ∀ c : Nat, c < 6 → vp_in (i + nI c) N) (hcs : cl ≤ room_1.cells ∧ sl ≤ room_1.slots) (K : ∀ σ', Inv σ' → TT g room_1 cl sl D_law (some (b, N, xs)) 1320 [some (.ref b), some (.ref (g.2.1 0)), some (.ref (g.2.1 168)), some (.int i)] [] σ' P) :
    TT g room_1 cl sl D_law (some (b, N, xs)) 618 [some (.ref b), some (.ref (g.2.1 0)), some (.ref (g.2.1 168)), some (.int i)] [] σ P := by
  refine q_aload_n dlaw_618 rfl ?_
  refine q_aload_n dlaw_619 rfl ?_
  refine q_iload_n dlaw_620 rfl ?_
  refine q_iconst (v := 1) dlaw_621 (by decide) ?_
  refine q_iadd dlaw_622 ?_
  refine q_xald rfl dlaw_623 (hin 1 (by omega)) ?_
  refine q_callV (d := 1) (As := [.int (xs (i + 1).toNatClampNeg)]) (rest := []) dlaw_624 ok_X11_withdraw mk_law_65 rc_0 rfl (Nat.le_of_ble_eq_true rfl) ⟨by decide, by decide⟩ hcs (op_withdraw hI) (fun v σ1 h => ?_)
  obtain ⟨r, rfl, h⟩ := h
  refine q_aload_n dlaw_627 rfl ?_
  refine q_aload_n dlaw_628 rfl ?_
  refine q_iload_n dlaw_629 rfl ?_
  refine q_iconst (v := 1) dlaw_630 (by decide) ?_
  refine q_iadd dlaw_631 ?_
  refine q_xald rfl dlaw_632 (hin 1 (by omega)) ?_
  refine q_callV (d := 1) (As := [.int (xs (i + 1).toNatClampNeg)]) (rest := [.int r]) dlaw_633 ok_X12_withdraw mk_law_68 rc_168 rfl (Nat.le_of_ble_eq_true rfl) ⟨by decide, by decide⟩ hcs h (fun v σ2 h => ?_)
  obtain ⟨r', rfl, rfl, hI2⟩ := h
  exact q_icmp_eq (tgt := 1320) dlaw_636 (by decide) (fun _ => K σ2 hI2) (fun c => absurd rfl c)
theorem lw_13 (hI : Inv σ) (hin : ∀ c : Nat, c < 6 → vp_in (i + nI c) N) (hcs : cl ≤ room_1.cells ∧ sl ≤ room_1.slots) (K : ∀ σ', Inv σ' → TT g room_1 cl sl D_law (some (b, N, xs)) 1320 [some (.ref b), some (.ref (g.2.1 0)), some (.ref (g.2.1 168)), some (.int i)] [] σ' P) :
    TT g room_1 cl sl D_law (some (b, N, xs)) 641 [some (.ref b), some (.ref (g.2.1 0)), some (.ref (g.2.1 168)), some (.int i)] [] σ P := by
  refine q_aload_n dlaw_641 rfl ?_
  refine q_aload_n dlaw_642 rfl ?_
  refine q_iload_n dlaw_643 rfl ?_
  refine q_iconst (v := 1) dlaw_644 (by decide) ?_
  refine q_iadd dlaw_645 ?_
  refine q_xald rfl dlaw_646 (hin 1 (by omega)) ?_
  refine q_aload_n dlaw_647 rfl ?_
  refine q_iload_n dlaw_648 rfl ?_
  refine q_iconst (v := 2) dlaw_649 (by decide) ?_
  refine q_iadd dlaw_650 ?_
  refine q_xald rfl dlaw_651 (hin 2 (by omega)) ?_
  refine q_callV (d := 1) (As := [.int (xs (i + 1).toNatClampNeg), .int (xs (i + 2).toNatClampNeg)]) (rest := []) dlaw_652 ok_X11_line mk_law_69 rc_0 rfl (Nat.le_of_ble_eq_true rfl) ⟨by decide, by decide⟩ hcs (op_line hI) (fun v σ1 h => ?_)
  obtain ⟨r, rfl, h⟩ := h
  refine q_aload_n dlaw_655 rfl ?_
  refine q_aload_n dlaw_656 rfl ?_
  refine q_iload_n dlaw_657 rfl ?_
  refine q_iconst (v := 1) dlaw_658 (by decide) ?_
  refine q_iadd dlaw_659 ?_
  refine q_xald rfl dlaw_660 (hin 1 (by omega)) ?_
  refine q_aload_n dlaw_661 rfl ?_
  refine q_iload_n dlaw_662 rfl ?_
  refine q_iconst (v := 2) dlaw_663 (by decide) ?_
  refine q_iadd dlaw_664 ?_
  refine q_xald rfl dlaw_665 (hin 2 (by omega)) ?_
  refine q_callV (d := 1) (As := [.int (xs (i + 1).toNatClampNeg), .int (xs (i + 2).toNatClampNeg)]) (rest := [.int r]) dlaw_666 ok_X12_line mk_law_72 rc_168 rfl (Nat.le_of_ble_eq_true rfl) ⟨by decide, by decide⟩ hcs h (fun v σ2 h => ?_)
  obtain ⟨r', rfl, rfl, hI2⟩ := h
  exact q_icmp_eq (tgt := 1320) dlaw_669 (by decide) (fun _ => K σ2 hI2) (fun c => absurd rfl c)
theorem lw_14 (hI : Inv σ) (hin : ∀ c : Nat, c < 6 → vp_in (i + nI c) N) (hcs : cl ≤ room_1.cells ∧ sl ≤ room_1.slots) (K : ∀ σ', Inv σ' → TT g room_1 cl sl D_law (some (b, N, xs)) 1320 [some (.ref b), some (.ref (g.2.1 0)), some (.ref (g.2.1 168)), some (.int i)] [] σ' P) :
    TT g room_1 cl sl D_law (some (b, N, xs)) 674 [some (.ref b), some (.ref (g.2.1 0)), some (.ref (g.2.1 168)), some (.int i)] [] σ P := by
  refine q_aload_n dlaw_674 rfl ?_
  refine q_aload_n dlaw_675 rfl ?_
  refine q_iload_n dlaw_676 rfl ?_
  refine q_iconst (v := 1) dlaw_677 (by decide) ?_
  refine q_iadd dlaw_678 ?_
  refine q_xald rfl dlaw_679 (hin 1 (by omega)) ?_
  refine q_aload_n dlaw_680 rfl ?_
  refine q_iload_n dlaw_681 rfl ?_
  refine q_iconst (v := 2) dlaw_682 (by decide) ?_
  refine q_iadd dlaw_683 ?_
  refine q_xald rfl dlaw_684 (hin 2 (by omega)) ?_
  refine q_aload_n dlaw_685 rfl ?_
  refine q_iload_n dlaw_686 rfl ?_
  refine q_iconst (v := 3) dlaw_687 (by decide) ?_
  refine q_iadd dlaw_688 ?_
  refine q_xald rfl dlaw_689 (hin 3 (by omega)) ?_
  refine q_callV (d := 2) (As := [.int (xs (i + 1).toNatClampNeg), .int (xs (i + 2).toNatClampNeg), .int (xs (i + 3).toNatClampNeg)]) (rest := []) dlaw_690 ok_X11_takings mk_law_73 rc_0 rfl (Nat.le_of_ble_eq_true rfl) ⟨by decide, by decide⟩ hcs (op_takings hI) (fun v σ1 h => ?_)
  obtain ⟨r, rfl, h⟩ := h
  refine q_aload_n dlaw_693 rfl ?_
  refine q_aload_n dlaw_694 rfl ?_
  refine q_iload_n dlaw_695 rfl ?_
  refine q_iconst (v := 1) dlaw_696 (by decide) ?_
  refine q_iadd dlaw_697 ?_
  refine q_xald rfl dlaw_698 (hin 1 (by omega)) ?_
  refine q_aload_n dlaw_699 rfl ?_
  refine q_iload_n dlaw_700 rfl ?_
  refine q_iconst (v := 2) dlaw_701 (by decide) ?_
  refine q_iadd dlaw_702 ?_
  refine q_xald rfl dlaw_703 (hin 2 (by omega)) ?_
  refine q_aload_n dlaw_704 rfl ?_
  refine q_iload_n dlaw_705 rfl ?_
  refine q_iconst (v := 3) dlaw_706 (by decide) ?_
  refine q_iadd dlaw_707 ?_
  refine q_xald rfl dlaw_708 (hin 3 (by omega)) ?_
  refine q_callV (d := 2) (As := [.int (xs (i + 1).toNatClampNeg), .int (xs (i + 2).toNatClampNeg), .int (xs (i + 3).toNatClampNeg)]) (rest := [.int r]) dlaw_709 ok_X12_takings mk_law_76 rc_168 rfl (Nat.le_of_ble_eq_true rfl) ⟨by decide, by decide⟩ hcs h (fun v σ2 h => ?_)
  obtain ⟨r', rfl, rfl, hI2⟩ := h
  exact q_icmp_eq (tgt := 1320) dlaw_712 (by decide) (fun _ => K σ2 hI2) (fun c => absurd rfl c)
theorem lw_15 (hI : Inv σ) (hin : ∀ c : Nat, c < 6 → vp_in (i + nI c) N) (hcs : cl ≤ room_1.cells ∧ sl ≤ room_1.slots) (K : ∀ σ', Inv σ' → TT g room_1 cl sl D_law (some (b, N, xs)) 1320 [some (.ref b), some (.ref (g.2.1 0)), some (.ref (g.2.1 168)), some (.int i)] [] σ' P) :
    TT g room_1 cl sl D_law (some (b, N, xs)) 717 [some (.ref b), some (.ref (g.2.1 0)), some (.ref (g.2.1 168)), some (.int i)] [] σ P := by
  refine q_aload_n dlaw_717 rfl ?_
  refine q_aload_n dlaw_718 rfl ?_
  refine q_iload_n dlaw_719 rfl ?_
  refine q_iconst (v := 1) dlaw_720 (by decide) ?_
  refine q_iadd dlaw_721 ?_
  refine q_xald rfl dlaw_722 (hin 1 (by omega)) ?_
  refine q_aload_n dlaw_723 rfl ?_
  refine q_iload_n dlaw_724 rfl ?_
  refine q_iconst (v := 2) dlaw_725 (by decide) ?_
  refine q_iadd dlaw_726 ?_
  refine q_xald rfl dlaw_727 (hin 2 (by omega)) ?_
  refine q_aload_n dlaw_728 rfl ?_
  refine q_iload_n dlaw_729 rfl ?_
  refine q_iconst (v := 3) dlaw_730 (by decide) ?_
  refine q_iadd dlaw_731 ?_
  refine q_xald rfl dlaw_732 (hin 3 (by omega)) ?_
  refine q_callV (d := 3) (As := [.int (xs (i + 1).toNatClampNeg), .int (xs (i + 2).toNatClampNeg), .int (xs (i + 3).toNatClampNeg)]) (rest := []) dlaw_733 ok_X11_beyond mk_law_77 rc_0 rfl (Nat.le_of_ble_eq_true rfl) ⟨by decide, by decide⟩ hcs (op_beyond hI) (fun v σ1 h => ?_)
  obtain ⟨r, rfl, h⟩ := h
  refine q_aload_n dlaw_736 rfl ?_
  refine q_aload_n dlaw_737 rfl ?_
  refine q_iload_n dlaw_738 rfl ?_
  refine q_iconst (v := 1) dlaw_739 (by decide) ?_
  refine q_iadd dlaw_740 ?_
  refine q_xald rfl dlaw_741 (hin 1 (by omega)) ?_
  refine q_aload_n dlaw_742 rfl ?_
  refine q_iload_n dlaw_743 rfl ?_
  refine q_iconst (v := 2) dlaw_744 (by decide) ?_
  refine q_iadd dlaw_745 ?_
  refine q_xald rfl dlaw_746 (hin 2 (by omega)) ?_
  refine q_aload_n dlaw_747 rfl ?_
  refine q_iload_n dlaw_748 rfl ?_
  refine q_iconst (v := 3) dlaw_749 (by decide) ?_
  refine q_iadd dlaw_750 ?_
  refine q_xald rfl dlaw_751 (hin 3 (by omega)) ?_
  refine q_callV (d := 4) (As := [.int (xs (i + 1).toNatClampNeg), .int (xs (i + 2).toNatClampNeg), .int (xs (i + 3).toNatClampNeg)]) (rest := [.int r]) dlaw_752 ok_X12_beyond mk_law_80 rc_168 rfl (Nat.le_of_ble_eq_true rfl) ⟨by decide, by decide⟩ hcs h (fun v σ2 h => ?_)
  obtain ⟨r', rfl, rfl, hI2⟩ := h
  exact q_icmp_eq (tgt := 1320) dlaw_755 (by decide) (fun _ => K σ2 hI2) (fun c => absurd rfl c)
theorem lw_16 (hI : Inv σ) (hin : ∀ c : Nat, c < 6 → vp_in (i + nI c) N) (hcs : cl ≤ room_1.cells ∧ sl ≤ room_1.slots) (K : ∀ σ', Inv σ' → TT g room_1 cl sl D_law (some (b, N, xs)) 1320 [some (.ref b), some (.ref (g.2.1 0)), some (.ref (g.2.1 168)), some (.int i)] [] σ' P) :
    TT g room_1 cl sl D_law (some (b, N, xs)) 760 [some (.ref b), some (.ref (g.2.1 0)), some (.ref (g.2.1 168)), some (.int i)] [] σ P := by
  refine q_aload_n dlaw_760 rfl ?_
  refine q_aload_n dlaw_761 rfl ?_
  refine q_iload_n dlaw_762 rfl ?_
  refine q_iconst (v := 1) dlaw_763 (by decide) ?_
  refine q_iadd dlaw_764 ?_
  refine q_xald rfl dlaw_765 (hin 1 (by omega)) ?_
  refine q_aload_n dlaw_766 rfl ?_
  refine q_iload_n dlaw_767 rfl ?_
  refine q_iconst (v := 2) dlaw_768 (by decide) ?_
  refine q_iadd dlaw_769 ?_
  refine q_xald rfl dlaw_770 (hin 2 (by omega)) ?_
  refine q_aload_n dlaw_771 rfl ?_
  refine q_iload_n dlaw_772 rfl ?_
  refine q_iconst (v := 3) dlaw_773 (by decide) ?_
  refine q_iadd dlaw_774 ?_
  refine q_xald rfl dlaw_775 (hin 3 (by omega)) ?_
  refine q_callV (d := 1) (As := [.int (xs (i + 1).toNatClampNeg), .int (xs (i + 2).toNatClampNeg), .int (xs (i + 3).toNatClampNeg)]) (rest := []) dlaw_776 ok_X11_feed mk_law_81 rc_0 rfl (Nat.le_of_ble_eq_true rfl) ⟨by decide, by decide⟩ hcs (op_feed hI) (fun v σ1 h => ?_)
  obtain ⟨r, rfl, h⟩ := h
  refine q_aload_n dlaw_779 rfl ?_
  refine q_aload_n dlaw_780 rfl ?_
  refine q_iload_n dlaw_781 rfl ?_
  refine q_iconst (v := 1) dlaw_782 (by decide) ?_
  refine q_iadd dlaw_783 ?_
  refine q_xald rfl dlaw_784 (hin 1 (by omega)) ?_
  refine q_aload_n dlaw_785 rfl ?_
  refine q_iload_n dlaw_786 rfl ?_
  refine q_iconst (v := 2) dlaw_787 (by decide) ?_
  refine q_iadd dlaw_788 ?_
  refine q_xald rfl dlaw_789 (hin 2 (by omega)) ?_
  refine q_aload_n dlaw_790 rfl ?_
  refine q_iload_n dlaw_791 rfl ?_
  refine q_iconst (v := 3) dlaw_792 (by decide) ?_
  refine q_iadd dlaw_793 ?_
  refine q_xald rfl dlaw_794 (hin 3 (by omega)) ?_
  refine q_callV (d := 0) (As := [.int (xs (i + 1).toNatClampNeg), .int (xs (i + 2).toNatClampNeg), .int (xs (i + 3).toNatClampNeg)]) (rest := [.int r]) dlaw_795 ok_X12_feed mk_law_84 rc_168 rfl (Nat.le_of_ble_eq_true rfl) ⟨by decide, by decide⟩ hcs h (fun v σ2 h => ?_)
  obtain ⟨r', rfl, rfl, hI2⟩ := h
  exact q_icmp_eq (tgt := 1320) dlaw_798 (by decide) (fun _ => K σ2 hI2) (fun c => absurd rfl c)
theorem lw_17 (hI : Inv σ) (hin : ∀ c : Nat, c < 6 → vp_in (i + nI c) N) (hcs : cl ≤ room_1.cells ∧ sl ≤ room_1.slots) (K : ∀ σ', Inv σ' → TT g room_1 cl sl D_law (some (b, N, xs)) 1320 [some (.ref b), some (.ref (g.2.1 0)), some (.ref (g.2.1 168)), some (.int i)] [] σ' P) :
    TT g room_1 cl sl D_law (some (b, N, xs)) 803 [some (.ref b), some (.ref (g.2.1 0)), some (.ref (g.2.1 168)), some (.int i)] [] σ P := by
  refine q_aload_n dlaw_803 rfl ?_
  refine q_aload_n dlaw_804 rfl ?_
  refine q_iload_n dlaw_805 rfl ?_
  refine q_iconst (v := 1) dlaw_806 (by decide) ?_
  refine q_iadd dlaw_807 ?_
  refine q_xald rfl dlaw_808 (hin 1 (by omega)) ?_
  refine q_callV (d := 1) (As := [.int (xs (i + 1).toNatClampNeg)]) (rest := []) dlaw_809 ok_X11_trim mk_law_85 rc_0 rfl (Nat.le_of_ble_eq_true rfl) ⟨by decide, by decide⟩ hcs (op_trim hI) (fun v σ1 h => ?_)
  obtain ⟨r, rfl, h⟩ := h
  refine q_aload_n dlaw_812 rfl ?_
  refine q_aload_n dlaw_813 rfl ?_
  refine q_iload_n dlaw_814 rfl ?_
  refine q_iconst (v := 1) dlaw_815 (by decide) ?_
  refine q_iadd dlaw_816 ?_
  refine q_xald rfl dlaw_817 (hin 1 (by omega)) ?_
  refine q_callV (d := 1) (As := [.int (xs (i + 1).toNatClampNeg)]) (rest := [.int r]) dlaw_818 ok_X12_trim mk_law_88 rc_168 rfl (Nat.le_of_ble_eq_true rfl) ⟨by decide, by decide⟩ hcs h (fun v σ2 h => ?_)
  obtain ⟨r', rfl, rfl, hI2⟩ := h
  exact q_icmp_eq (tgt := 1320) dlaw_821 (by decide) (fun _ => K σ2 hI2) (fun c => absurd rfl c)
theorem lw_18 (hI : Inv σ) (hin : ∀ c : Nat, c < 6 → vp_in (i + nI c) N) (hcs : cl ≤ room_1.cells ∧ sl ≤ room_1.slots) (K : ∀ σ', Inv σ' → TT g room_1 cl sl D_law (some (b, N, xs)) 1320 [some (.ref b), some (.ref (g.2.1 0)), some (.ref (g.2.1 168)), some (.int i)] [] σ' P) :
    TT g room_1 cl sl D_law (some (b, N, xs)) 826 [some (.ref b), some (.ref (g.2.1 0)), some (.ref (g.2.1 168)), some (.int i)] [] σ P := by
  refine q_aload_n dlaw_826 rfl ?_
  refine q_aload_n dlaw_827 rfl ?_
  refine q_iload_n dlaw_828 rfl ?_
  refine q_iconst (v := 1) dlaw_829 (by decide) ?_
  refine q_iadd dlaw_830 ?_
  refine q_xald rfl dlaw_831 (hin 1 (by omega)) ?_
  refine q_callV (d := 122) (As := [.int (xs (i + 1).toNatClampNeg)]) (rest := []) dlaw_832 ok_X11_lease mk_law_89 rc_0 rfl (Nat.le_of_ble_eq_true rfl) ⟨by decide, by decide⟩ hcs (op_lease hI) (fun v σ1 h => ?_)
  obtain ⟨r, rfl, h⟩ := h
  refine q_aload_n dlaw_835 rfl ?_
  refine q_aload_n dlaw_836 rfl ?_
  refine q_iload_n dlaw_837 rfl ?_
  refine q_iconst (v := 1) dlaw_838 (by decide) ?_
  refine q_iadd dlaw_839 ?_
  refine q_xald rfl dlaw_840 (hin 1 (by omega)) ?_
  refine q_callV (d := 121) (As := [.int (xs (i + 1).toNatClampNeg)]) (rest := [.int r]) dlaw_841 ok_X12_lease mk_law_92 rc_168 rfl (Nat.le_of_ble_eq_true rfl) ⟨by decide, by decide⟩ hcs h (fun v σ2 h => ?_)
  obtain ⟨r', rfl, rfl, hI2⟩ := h
  exact q_icmp_eq (tgt := 1320) dlaw_844 (by decide) (fun _ => K σ2 hI2) (fun c => absurd rfl c)
theorem lw_19 (hI : Inv σ) (hin : ∀ c : Nat, c < 6 → vp_in (i + nI c) N) (hcs : cl ≤ room_1.cells ∧ sl ≤ room_1.slots) (K : ∀ σ', Inv σ' → TT g room_1 cl sl D_law (some (b, N, xs)) 1320 [some (.ref b), some (.ref (g.2.1 0)), some (.ref (g.2.1 168)), some (.int i)] [] σ' P) :
    TT g room_1 cl sl D_law (some (b, N, xs)) 849 [some (.ref b), some (.ref (g.2.1 0)), some (.ref (g.2.1 168)), some (.int i)] [] σ P := by
  refine q_aload_n dlaw_849 rfl ?_
  refine q_aload_n dlaw_850 rfl ?_
  refine q_iload_n dlaw_851 rfl ?_
  refine q_iconst (v := 1) dlaw_852 (by decide) ?_
  refine q_iadd dlaw_853 ?_
  refine q_xald rfl dlaw_854 (hin 1 (by omega)) ?_
  refine q_aload_n dlaw_855 rfl ?_
  refine q_iload_n dlaw_856 rfl ?_
  refine q_iconst (v := 2) dlaw_857 (by decide) ?_
  refine q_iadd dlaw_858 ?_
  refine q_xald rfl dlaw_859 (hin 2 (by omega)) ?_
  refine q_aload_n dlaw_860 rfl ?_
  refine q_iload_n dlaw_861 rfl ?_
  refine q_iconst (v := 3) dlaw_862 (by decide) ?_
  refine q_iadd dlaw_863 ?_
  refine q_xald rfl dlaw_864 (hin 3 (by omega)) ?_
  refine q_callV (d := 6) (As := [.int (xs (i + 1).toNatClampNeg), .int (xs (i + 2).toNatClampNeg), .int (xs (i + 3).toNatClampNeg)]) (rest := []) dlaw_865 ok_X11_rent mk_law_93 rc_0 rfl (Nat.le_of_ble_eq_true rfl) ⟨by decide, by decide⟩ hcs (op_rent hI) (fun v σ1 h => ?_)
  obtain ⟨r, rfl, h⟩ := h
  refine q_aload_n dlaw_868 rfl ?_
  refine q_aload_n dlaw_869 rfl ?_
  refine q_iload_n dlaw_870 rfl ?_
  refine q_iconst (v := 1) dlaw_871 (by decide) ?_
  refine q_iadd dlaw_872 ?_
  refine q_xald rfl dlaw_873 (hin 1 (by omega)) ?_
  refine q_aload_n dlaw_874 rfl ?_
  refine q_iload_n dlaw_875 rfl ?_
  refine q_iconst (v := 2) dlaw_876 (by decide) ?_
  refine q_iadd dlaw_877 ?_
  refine q_xald rfl dlaw_878 (hin 2 (by omega)) ?_
  refine q_aload_n dlaw_879 rfl ?_
  refine q_iload_n dlaw_880 rfl ?_
  refine q_iconst (v := 3) dlaw_881 (by decide) ?_
  refine q_iadd dlaw_882 ?_
  refine q_xald rfl dlaw_883 (hin 3 (by omega)) ?_
  refine q_callV (d := 6) (As := [.int (xs (i + 1).toNatClampNeg), .int (xs (i + 2).toNatClampNeg), .int (xs (i + 3).toNatClampNeg)]) (rest := [.int r]) dlaw_884 ok_X12_rent mk_law_96 rc_168 rfl (Nat.le_of_ble_eq_true rfl) ⟨by decide, by decide⟩ hcs h (fun v σ2 h => ?_)
  obtain ⟨r', rfl, rfl, hI2⟩ := h
  exact q_icmp_eq (tgt := 1320) dlaw_887 (by decide) (fun _ => K σ2 hI2) (fun c => absurd rfl c)
theorem lw_20 (hI : Inv σ) (hin : ∀ c : Nat, c < 6 → vp_in (i + nI c) N) (hcs : cl ≤ room_1.cells ∧ sl ≤ room_1.slots) (K : ∀ σ', Inv σ' → TT g room_1 cl sl D_law (some (b, N, xs)) 1320 [some (.ref b), some (.ref (g.2.1 0)), some (.ref (g.2.1 168)), some (.int i)] [] σ' P) :
    TT g room_1 cl sl D_law (some (b, N, xs)) 892 [some (.ref b), some (.ref (g.2.1 0)), some (.ref (g.2.1 168)), some (.int i)] [] σ P := by
  refine q_aload_n dlaw_892 rfl ?_
  refine q_aload_n dlaw_893 rfl ?_
  refine q_iload_n dlaw_894 rfl ?_
  refine q_iconst (v := 1) dlaw_895 (by decide) ?_
  refine q_iadd dlaw_896 ?_
  refine q_xald rfl dlaw_897 (hin 1 (by omega)) ?_
  refine q_aload_n dlaw_898 rfl ?_
  refine q_iload_n dlaw_899 rfl ?_
  refine q_iconst (v := 2) dlaw_900 (by decide) ?_
  refine q_iadd dlaw_901 ?_
  refine q_xald rfl dlaw_902 (hin 2 (by omega)) ?_
  refine q_callV (d := 6) (As := [.int (xs (i + 1).toNatClampNeg), .int (xs (i + 2).toNatClampNeg)]) (rest := []) dlaw_903 ok_X11_rents mk_law_97 rc_0 rfl (Nat.le_of_ble_eq_true rfl) ⟨by decide, by decide⟩ hcs (op_rents hI) (fun v σ1 h => ?_)
  obtain ⟨r, rfl, h⟩ := h
  refine q_aload_n dlaw_906 rfl ?_
  refine q_aload_n dlaw_907 rfl ?_
  refine q_iload_n dlaw_908 rfl ?_
  refine q_iconst (v := 1) dlaw_909 (by decide) ?_
  refine q_iadd dlaw_910 ?_
  refine q_xald rfl dlaw_911 (hin 1 (by omega)) ?_
  refine q_aload_n dlaw_912 rfl ?_
  refine q_iload_n dlaw_913 rfl ?_
  refine q_iconst (v := 2) dlaw_914 (by decide) ?_
  refine q_iadd dlaw_915 ?_
  refine q_xald rfl dlaw_916 (hin 2 (by omega)) ?_
  refine q_callV (d := 6) (As := [.int (xs (i + 1).toNatClampNeg), .int (xs (i + 2).toNatClampNeg)]) (rest := [.int r]) dlaw_917 ok_X12_rents mk_law_100 rc_168 rfl (Nat.le_of_ble_eq_true rfl) ⟨by decide, by decide⟩ hcs h (fun v σ2 h => ?_)
  obtain ⟨r', rfl, rfl, hI2⟩ := h
  exact q_icmp_eq (tgt := 1320) dlaw_920 (by decide) (fun _ => K σ2 hI2) (fun c => absurd rfl c)
theorem lw_21 (hI : Inv σ) (hin : ∀ c : Nat, c < 6 → vp_in (i + nI c) N) (hcs : cl ≤ room_1.cells ∧ sl ≤ room_1.slots) (K : ∀ σ', Inv σ' → TT g room_1 cl sl D_law (some (b, N, xs)) 1320 [some (.ref b), some (.ref (g.2.1 0)), some (.ref (g.2.1 168)), some (.int i)] [] σ' P) :
    TT g room_1 cl sl D_law (some (b, N, xs)) 925 [some (.ref b), some (.ref (g.2.1 0)), some (.ref (g.2.1 168)), some (.int i)] [] σ P := by
  refine q_aload_n dlaw_925 rfl ?_
  refine q_aload_n dlaw_926 rfl ?_
  refine q_iload_n dlaw_927 rfl ?_
  refine q_iconst (v := 1) dlaw_928 (by decide) ?_
  refine q_iadd dlaw_929 ?_
  refine q_xald rfl dlaw_930 (hin 1 (by omega)) ?_
  refine q_aload_n dlaw_931 rfl ?_
  refine q_iload_n dlaw_932 rfl ?_
  refine q_iconst (v := 2) dlaw_933 (by decide) ?_
  refine q_iadd dlaw_934 ?_
  refine q_xald rfl dlaw_935 (hin 2 (by omega)) ?_
  refine q_aload_n dlaw_936 rfl ?_
  refine q_iload_n dlaw_937 rfl ?_
  refine q_iconst (v := 3) dlaw_938 (by decide) ?_
  refine q_iadd dlaw_939 ?_
  refine q_xald rfl dlaw_940 (hin 3 (by omega)) ?_
  refine q_callV (d := 3) (As := [.int (xs (i + 1).toNatClampNeg), .int (xs (i + 2).toNatClampNeg), .int (xs (i + 3).toNatClampNeg)]) (rest := []) dlaw_941 ok_X11_charge mk_law_101 rc_0 rfl (Nat.le_of_ble_eq_true rfl) ⟨by decide, by decide⟩ hcs (op_charge hI) (fun v σ1 h => ?_)
  obtain ⟨r, rfl, h⟩ := h
  refine q_aload_n dlaw_944 rfl ?_
  refine q_aload_n dlaw_945 rfl ?_
  refine q_iload_n dlaw_946 rfl ?_
  refine q_iconst (v := 1) dlaw_947 (by decide) ?_
  refine q_iadd dlaw_948 ?_
  refine q_xald rfl dlaw_949 (hin 1 (by omega)) ?_
  refine q_aload_n dlaw_950 rfl ?_
  refine q_iload_n dlaw_951 rfl ?_
  refine q_iconst (v := 2) dlaw_952 (by decide) ?_
  refine q_iadd dlaw_953 ?_
  refine q_xald rfl dlaw_954 (hin 2 (by omega)) ?_
  refine q_aload_n dlaw_955 rfl ?_
  refine q_iload_n dlaw_956 rfl ?_
  refine q_iconst (v := 3) dlaw_957 (by decide) ?_
  refine q_iadd dlaw_958 ?_
  refine q_xald rfl dlaw_959 (hin 3 (by omega)) ?_
  refine q_callV (d := 2) (As := [.int (xs (i + 1).toNatClampNeg), .int (xs (i + 2).toNatClampNeg), .int (xs (i + 3).toNatClampNeg)]) (rest := [.int r]) dlaw_960 ok_X12_charge mk_law_104 rc_168 rfl (Nat.le_of_ble_eq_true rfl) ⟨by decide, by decide⟩ hcs h (fun v σ2 h => ?_)
  obtain ⟨r', rfl, rfl, hI2⟩ := h
  exact q_icmp_eq (tgt := 1320) dlaw_963 (by decide) (fun _ => K σ2 hI2) (fun c => absurd rfl c)
theorem lw_22 (hI : Inv σ) (hin : ∀ c : Nat, c < 6 → vp_in (i + nI c) N) (hcs : cl ≤ room_1.cells ∧ sl ≤ room_1.slots) (K : ∀ σ', Inv σ' → TT g room_1 cl sl D_law (some (b, N, xs)) 1320 [some (.ref b), some (.ref (g.2.1 0)), some (.ref (g.2.1 168)), some (.int i)] [] σ' P) :
    TT g room_1 cl sl D_law (some (b, N, xs)) 968 [some (.ref b), some (.ref (g.2.1 0)), some (.ref (g.2.1 168)), some (.int i)] [] σ P := by
  refine q_aload_n dlaw_968 rfl ?_
  refine q_callV (d := 6) (As := []) (rest := []) dlaw_969 ok_X11_fall mk_law_105 rc_0 rfl (Nat.le_of_ble_eq_true rfl) ⟨by decide, by decide⟩ hcs (op_fall hI) (fun v σ1 h => ?_)
  obtain ⟨r, rfl, h⟩ := h
  refine q_aload_n dlaw_972 rfl ?_
  refine q_callV (d := 6) (As := []) (rest := [.int r]) dlaw_973 ok_X12_fall mk_law_109 rc_168 rfl (Nat.le_of_ble_eq_true rfl) ⟨by decide, by decide⟩ hcs h (fun v σ2 h => ?_)
  obtain ⟨r', rfl, rfl, hI2⟩ := h
  exact q_icmp_eq (tgt := 1320) dlaw_976 (by decide) (fun _ => K σ2 hI2) (fun c => absurd rfl c)
theorem lw_23 (hI : Inv σ) (hin : ∀ c : Nat, c < 6 → vp_in (i + nI c) N) (hcs : cl ≤ room_1.cells ∧ sl ≤ room_1.slots) (K : ∀ σ', Inv σ' → TT g room_1 cl sl D_law (some (b, N, xs)) 1320 [some (.ref b), some (.ref (g.2.1 0)), some (.ref (g.2.1 168)), some (.int i)] [] σ' P) :
    TT g room_1 cl sl D_law (some (b, N, xs)) 981 [some (.ref b), some (.ref (g.2.1 0)), some (.ref (g.2.1 168)), some (.int i)] [] σ P := by
  refine q_aload_n dlaw_981 rfl ?_
  refine q_aload_n dlaw_982 rfl ?_
  refine q_iload_n dlaw_983 rfl ?_
  refine q_iconst (v := 1) dlaw_984 (by decide) ?_
  refine q_iadd dlaw_985 ?_
  refine q_xald rfl dlaw_986 (hin 1 (by omega)) ?_
  refine q_callV (d := 0) (As := [.int (xs (i + 1).toNatClampNeg)]) (rest := []) dlaw_987 ok_X11_fallen mk_law_110 rc_0 rfl (Nat.le_of_ble_eq_true rfl) ⟨by decide, by decide⟩ hcs (op_fallen hI) (fun v σ1 h => ?_)
  obtain ⟨r, rfl, h⟩ := h
  refine q_aload_n dlaw_990 rfl ?_
  refine q_aload_n dlaw_991 rfl ?_
  refine q_iload_n dlaw_992 rfl ?_
  refine q_iconst (v := 1) dlaw_993 (by decide) ?_
  refine q_iadd dlaw_994 ?_
  refine q_xald rfl dlaw_995 (hin 1 (by omega)) ?_
  refine q_callV (d := 0) (As := [.int (xs (i + 1).toNatClampNeg)]) (rest := [.int r]) dlaw_996 ok_X12_fallen mk_law_113 rc_168 rfl (Nat.le_of_ble_eq_true rfl) ⟨by decide, by decide⟩ hcs h (fun v σ2 h => ?_)
  obtain ⟨r', rfl, rfl, hI2⟩ := h
  exact q_icmp_eq (tgt := 1320) dlaw_999 (by decide) (fun _ => K σ2 hI2) (fun c => absurd rfl c)
theorem lw_24 (hI : Inv σ) (hin : ∀ c : Nat, c < 6 → vp_in (i + nI c) N) (hcs : cl ≤ room_1.cells ∧ sl ≤ room_1.slots) (K : ∀ σ', Inv σ' → TT g room_1 cl sl D_law (some (b, N, xs)) 1320 [some (.ref b), some (.ref (g.2.1 0)), some (.ref (g.2.1 168)), some (.int i)] [] σ' P) :
    TT g room_1 cl sl D_law (some (b, N, xs)) 1004 [some (.ref b), some (.ref (g.2.1 0)), some (.ref (g.2.1 168)), some (.int i)] [] σ P := by
  refine q_aload_n dlaw_1004 rfl ?_
  refine q_aload_n dlaw_1005 rfl ?_
  refine q_iload_n dlaw_1006 rfl ?_
  refine q_iconst (v := 1) dlaw_1007 (by decide) ?_
  refine q_iadd dlaw_1008 ?_
  refine q_xald rfl dlaw_1009 (hin 1 (by omega)) ?_
  refine q_callV (d := 6) (As := [.int (xs (i + 1).toNatClampNeg)]) (rest := []) dlaw_1010 ok_X11_without mk_law_114 rc_0 rfl (Nat.le_of_ble_eq_true rfl) ⟨by decide, by decide⟩ hcs (op_without hI) (fun v σ1 h => ?_)
  obtain ⟨r, rfl, h⟩ := h
  refine q_aload_n dlaw_1013 rfl ?_
  refine q_aload_n dlaw_1014 rfl ?_
  refine q_iload_n dlaw_1015 rfl ?_
  refine q_iconst (v := 1) dlaw_1016 (by decide) ?_
  refine q_iadd dlaw_1017 ?_
  refine q_xald rfl dlaw_1018 (hin 1 (by omega)) ?_
  refine q_callV (d := 6) (As := [.int (xs (i + 1).toNatClampNeg)]) (rest := [.int r]) dlaw_1019 ok_X12_without mk_law_117 rc_168 rfl (Nat.le_of_ble_eq_true rfl) ⟨by decide, by decide⟩ hcs h (fun v σ2 h => ?_)
  obtain ⟨r', rfl, rfl, hI2⟩ := h
  exact q_icmp_eq (tgt := 1320) dlaw_1022 (by decide) (fun _ => K σ2 hI2) (fun c => absurd rfl c)
theorem lw_25 (hI : Inv σ) (hin : ∀ c : Nat, c < 6 → vp_in (i + nI c) N) (hcs : cl ≤ room_1.cells ∧ sl ≤ room_1.slots) (K : ∀ σ', Inv σ' → TT g room_1 cl sl D_law (some (b, N, xs)) 1320 [some (.ref b), some (.ref (g.2.1 0)), some (.ref (g.2.1 168)), some (.int i)] [] σ' P) :
    TT g room_1 cl sl D_law (some (b, N, xs)) 1027 [some (.ref b), some (.ref (g.2.1 0)), some (.ref (g.2.1 168)), some (.int i)] [] σ P := by
  refine q_aload_n dlaw_1027 rfl ?_
  refine q_callV (d := 3) (As := []) (rest := []) dlaw_1028 ok_X11_broken mk_law_118 rc_0 rfl (Nat.le_of_ble_eq_true rfl) ⟨by decide, by decide⟩ hcs (op_broken hI) (fun v σ1 h => ?_)
  obtain ⟨r, rfl, h⟩ := h
  refine q_aload_n dlaw_1031 rfl ?_
  refine q_callV (d := 2) (As := []) (rest := [.int r]) dlaw_1032 ok_X12_broken mk_law_121 rc_168 rfl (Nat.le_of_ble_eq_true rfl) ⟨by decide, by decide⟩ hcs h (fun v σ2 h => ?_)
  obtain ⟨r', rfl, rfl, hI2⟩ := h
  exact q_icmp_eq (tgt := 1320) dlaw_1035 (by decide) (fun _ => K σ2 hI2) (fun c => absurd rfl c)
theorem lw_26 (hI : Inv σ) (hin : ∀ c : Nat, c < 6 → vp_in (i + nI c) N) (hcs : cl ≤ room_1.cells ∧ sl ≤ room_1.slots) (K : ∀ σ', Inv σ' → TT g room_1 cl sl D_law (some (b, N, xs)) 1320 [some (.ref b), some (.ref (g.2.1 0)), some (.ref (g.2.1 168)), some (.int i)] [] σ' P) :
    TT g room_1 cl sl D_law (some (b, N, xs)) 1040 [some (.ref b), some (.ref (g.2.1 0)), some (.ref (g.2.1 168)), some (.int i)] [] σ P := by
  refine q_aload_n dlaw_1040 rfl ?_
  refine q_aload_n dlaw_1041 rfl ?_
  refine q_iload_n dlaw_1042 rfl ?_
  refine q_iconst (v := 1) dlaw_1043 (by decide) ?_
  refine q_iadd dlaw_1044 ?_
  refine q_xald rfl dlaw_1045 (hin 1 (by omega)) ?_
  refine q_callV (d := 43) (As := [.int (xs (i + 1).toNatClampNeg)]) (rest := []) dlaw_1046 ok_X11_mix mk_law_122 rc_0 rfl (Nat.le_of_ble_eq_true rfl) ⟨by decide, by decide⟩ hcs (op_mix hI) (fun v σ1 h => ?_)
  obtain ⟨r, rfl, h⟩ := h
  refine q_aload_n dlaw_1049 rfl ?_
  refine q_aload_n dlaw_1050 rfl ?_
  refine q_iload_n dlaw_1051 rfl ?_
  refine q_iconst (v := 1) dlaw_1052 (by decide) ?_
  refine q_iadd dlaw_1053 ?_
  refine q_xald rfl dlaw_1054 (hin 1 (by omega)) ?_
  refine q_callV (d := 42) (As := [.int (xs (i + 1).toNatClampNeg)]) (rest := [.int r]) dlaw_1055 ok_X12_mix mk_law_125 rc_168 rfl (Nat.le_of_ble_eq_true rfl) ⟨by decide, by decide⟩ hcs h (fun v σ2 h => ?_)
  obtain ⟨r', rfl, rfl, hI2⟩ := h
  exact q_icmp_eq (tgt := 1320) dlaw_1058 (by decide) (fun _ => K σ2 hI2) (fun c => absurd rfl c)
theorem lw_27 (hI : Inv σ) (hin : ∀ c : Nat, c < 6 → vp_in (i + nI c) N) (hcs : cl ≤ room_1.cells ∧ sl ≤ room_1.slots) (K : ∀ σ', Inv σ' → TT g room_1 cl sl D_law (some (b, N, xs)) 1320 [some (.ref b), some (.ref (g.2.1 0)), some (.ref (g.2.1 168)), some (.int i)] [] σ' P) :
    TT g room_1 cl sl D_law (some (b, N, xs)) 1063 [some (.ref b), some (.ref (g.2.1 0)), some (.ref (g.2.1 168)), some (.int i)] [] σ P := by
  refine q_aload_n dlaw_1063 rfl ?_
  refine q_aload_n dlaw_1064 rfl ?_
  refine q_iload_n dlaw_1065 rfl ?_
  refine q_iconst (v := 1) dlaw_1066 (by decide) ?_
  refine q_iadd dlaw_1067 ?_
  refine q_xald rfl dlaw_1068 (hin 1 (by omega)) ?_
  refine q_aload_n dlaw_1069 rfl ?_
  refine q_iload_n dlaw_1070 rfl ?_
  refine q_iconst (v := 2) dlaw_1071 (by decide) ?_
  refine q_iadd dlaw_1072 ?_
  refine q_xald rfl dlaw_1073 (hin 2 (by omega)) ?_
  refine q_callV (d := 43) (As := [.int (xs (i + 1).toNatClampNeg), .int (xs (i + 2).toNatClampNeg)]) (rest := []) dlaw_1074 ok_X11_mixed mk_law_126 rc_0 rfl (Nat.le_of_ble_eq_true rfl) ⟨by decide, by decide⟩ hcs (op_mixed hI) (fun v σ1 h => ?_)
  obtain ⟨r, rfl, h⟩ := h
  refine q_aload_n dlaw_1077 rfl ?_
  refine q_aload_n dlaw_1078 rfl ?_
  refine q_iload_n dlaw_1079 rfl ?_
  refine q_iconst (v := 1) dlaw_1080 (by decide) ?_
  refine q_iadd dlaw_1081 ?_
  refine q_xald rfl dlaw_1082 (hin 1 (by omega)) ?_
  refine q_aload_n dlaw_1083 rfl ?_
  refine q_iload_n dlaw_1084 rfl ?_
  refine q_iconst (v := 2) dlaw_1085 (by decide) ?_
  refine q_iadd dlaw_1086 ?_
  refine q_xald rfl dlaw_1087 (hin 2 (by omega)) ?_
  refine q_callV (d := 42) (As := [.int (xs (i + 1).toNatClampNeg), .int (xs (i + 2).toNatClampNeg)]) (rest := [.int r]) dlaw_1088 ok_X12_mixed mk_law_129 rc_168 rfl (Nat.le_of_ble_eq_true rfl) ⟨by decide, by decide⟩ hcs h (fun v σ2 h => ?_)
  obtain ⟨r', rfl, rfl, hI2⟩ := h
  exact q_icmp_eq (tgt := 1320) dlaw_1091 (by decide) (fun _ => K σ2 hI2) (fun c => absurd rfl c)
theorem lw_28 (hI : Inv σ) (hin : ∀ c : Nat, c < 6 → vp_in (i + nI c) N) (hcs : cl ≤ room_1.cells ∧ sl ≤ room_1.slots) (K : ∀ σ', Inv σ' → TT g room_1 cl sl D_law (some (b, N, xs)) 1320 [some (.ref b), some (.ref (g.2.1 0)), some (.ref (g.2.1 168)), some (.int i)] [] σ' P) :
    TT g room_1 cl sl D_law (some (b, N, xs)) 1096 [some (.ref b), some (.ref (g.2.1 0)), some (.ref (g.2.1 168)), some (.int i)] [] σ P := by
  refine q_aload_n dlaw_1096 rfl ?_
  refine q_aload_n dlaw_1097 rfl ?_
  refine q_iload_n dlaw_1098 rfl ?_
  refine q_iconst (v := 1) dlaw_1099 (by decide) ?_
  refine q_iadd dlaw_1100 ?_
  refine q_xald rfl dlaw_1101 (hin 1 (by omega)) ?_
  refine q_callV (d := 0) (As := [.int (xs (i + 1).toNatClampNeg)]) (rest := []) dlaw_1102 ok_X11_tell mk_law_130 rc_0 rfl (Nat.le_of_ble_eq_true rfl) ⟨by decide, by decide⟩ hcs (op_tell hI) (fun v σ1 h => ?_)
  obtain ⟨r, rfl, h⟩ := h
  refine q_aload_n dlaw_1105 rfl ?_
  refine q_aload_n dlaw_1106 rfl ?_
  refine q_iload_n dlaw_1107 rfl ?_
  refine q_iconst (v := 1) dlaw_1108 (by decide) ?_
  refine q_iadd dlaw_1109 ?_
  refine q_xald rfl dlaw_1110 (hin 1 (by omega)) ?_
  refine q_callV (d := 0) (As := [.int (xs (i + 1).toNatClampNeg)]) (rest := [.int r]) dlaw_1111 ok_X12_tell mk_law_133 rc_168 rfl (Nat.le_of_ble_eq_true rfl) ⟨by decide, by decide⟩ hcs h (fun v σ2 h => ?_)
  obtain ⟨r', rfl, rfl, hI2⟩ := h
  exact q_icmp_eq (tgt := 1320) dlaw_1114 (by decide) (fun _ => K σ2 hI2) (fun c => absurd rfl c)
theorem lw_29 (hI : Inv σ) (hin : ∀ c : Nat, c < 6 → vp_in (i + nI c) N) (hcs : cl ≤ room_1.cells ∧ sl ≤ room_1.slots) (K : ∀ σ', Inv σ' → TT g room_1 cl sl D_law (some (b, N, xs)) 1320 [some (.ref b), some (.ref (g.2.1 0)), some (.ref (g.2.1 168)), some (.int i)] [] σ' P) :
    TT g room_1 cl sl D_law (some (b, N, xs)) 1119 [some (.ref b), some (.ref (g.2.1 0)), some (.ref (g.2.1 168)), some (.int i)] [] σ P := by
  refine q_aload_n dlaw_1119 rfl ?_
  refine q_callV (d := 43) (As := []) (rest := []) dlaw_1120 ok_X11_check mk_law_134 rc_0 rfl (Nat.le_of_ble_eq_true rfl) ⟨by decide, by decide⟩ hcs (op_check hI) (fun v σ1 h => ?_)
  obtain ⟨r, rfl, h⟩ := h
  refine q_aload_n dlaw_1123 rfl ?_
  refine q_callV (d := 42) (As := []) (rest := [.int r]) dlaw_1124 ok_X12_check mk_law_137 rc_168 rfl (Nat.le_of_ble_eq_true rfl) ⟨by decide, by decide⟩ hcs h (fun v σ2 h => ?_)
  obtain ⟨r', rfl, rfl, hI2⟩ := h
  exact q_icmp_eq (tgt := 1320) dlaw_1127 (by decide) (fun _ => K σ2 hI2) (fun c => absurd rfl c)
theorem lw_30 (hI : Inv σ) (hin : ∀ c : Nat, c < 6 → vp_in (i + nI c) N) (hcs : cl ≤ room_1.cells ∧ sl ≤ room_1.slots) (K : ∀ σ', Inv σ' → TT g room_1 cl sl D_law (some (b, N, xs)) 1320 [some (.ref b), some (.ref (g.2.1 0)), some (.ref (g.2.1 168)), some (.int i)] [] σ' P) :
    TT g room_1 cl sl D_law (some (b, N, xs)) 1132 [some (.ref b), some (.ref (g.2.1 0)), some (.ref (g.2.1 168)), some (.int i)] [] σ P := by
  refine q_aload_n dlaw_1132 rfl ?_
  refine q_callV (d := 3) (As := []) (rest := []) dlaw_1133 ok_X11_keep mk_law_138 rc_0 rfl (Nat.le_of_ble_eq_true rfl) ⟨by decide, by decide⟩ hcs (op_keep hI) (fun v σ1 h => ?_)
  obtain ⟨r, rfl, h⟩ := h
  refine q_aload_n dlaw_1136 rfl ?_
  refine q_callV (d := 0) (As := []) (rest := [.int r]) dlaw_1137 ok_X12_keep mk_law_141 rc_168 rfl (Nat.le_of_ble_eq_true rfl) ⟨by decide, by decide⟩ hcs h (fun v σ2 h => ?_)
  obtain ⟨r', rfl, rfl, hI2⟩ := h
  exact q_icmp_eq (tgt := 1320) dlaw_1140 (by decide) (fun _ => K σ2 hI2) (fun c => absurd rfl c)
theorem lw_31 (hI : Inv σ) (hin : ∀ c : Nat, c < 6 → vp_in (i + nI c) N) (hcs : cl ≤ room_1.cells ∧ sl ≤ room_1.slots) (K : ∀ σ', Inv σ' → TT g room_1 cl sl D_law (some (b, N, xs)) 1320 [some (.ref b), some (.ref (g.2.1 0)), some (.ref (g.2.1 168)), some (.int i)] [] σ' P) :
    TT g room_1 cl sl D_law (some (b, N, xs)) 1145 [some (.ref b), some (.ref (g.2.1 0)), some (.ref (g.2.1 168)), some (.int i)] [] σ P := by
  refine q_aload_n dlaw_1145 rfl ?_
  refine q_callV (d := 3) (As := []) (rest := []) dlaw_1146 ok_X11_back mk_law_142 rc_0 rfl (Nat.le_of_ble_eq_true rfl) ⟨by decide, by decide⟩ hcs (op_back hI) (fun v σ1 h => ?_)
  obtain ⟨r, rfl, h⟩ := h
  refine q_aload_n dlaw_1149 rfl ?_
  refine q_callV (d := 0) (As := []) (rest := [.int r]) dlaw_1150 ok_X12_back mk_law_145 rc_168 rfl (Nat.le_of_ble_eq_true rfl) ⟨by decide, by decide⟩ hcs h (fun v σ2 h => ?_)
  obtain ⟨r', rfl, rfl, hI2⟩ := h
  exact q_icmp_eq (tgt := 1320) dlaw_1153 (by decide) (fun _ => K σ2 hI2) (fun c => absurd rfl c)
theorem lw_32 (hI : Inv σ) (hin : ∀ c : Nat, c < 6 → vp_in (i + nI c) N) (hcs : cl ≤ room_1.cells ∧ sl ≤ room_1.slots) (K : ∀ σ', Inv σ' → TT g room_1 cl sl D_law (some (b, N, xs)) 1320 [some (.ref b), some (.ref (g.2.1 0)), some (.ref (g.2.1 168)), some (.int i)] [] σ' P) :
    TT g room_1 cl sl D_law (some (b, N, xs)) 1158 [some (.ref b), some (.ref (g.2.1 0)), some (.ref (g.2.1 168)), some (.int i)] [] σ P := by
  refine q_aload_n dlaw_1158 rfl ?_
  refine q_aload_n dlaw_1159 rfl ?_
  refine q_iload_n dlaw_1160 rfl ?_
  refine q_iconst (v := 1) dlaw_1161 (by decide) ?_
  refine q_iadd dlaw_1162 ?_
  refine q_xald rfl dlaw_1163 (hin 1 (by omega)) ?_
  refine q_aload_n dlaw_1164 rfl ?_
  refine q_iload_n dlaw_1165 rfl ?_
  refine q_iconst (v := 2) dlaw_1166 (by decide) ?_
  refine q_iadd dlaw_1167 ?_
  refine q_xald rfl dlaw_1168 (hin 2 (by omega)) ?_
  refine q_callV (d := 2) (As := [.int (xs (i + 1).toNatClampNeg), .int (xs (i + 2).toNatClampNeg)]) (rest := []) dlaw_1169 ok_X11_sheet mk_law_146 rc_0 rfl (Nat.le_of_ble_eq_true rfl) ⟨by decide, by decide⟩ hcs (op_sheet hI) (fun v σ1 h => ?_)
  obtain ⟨r, rfl, h⟩ := h
  refine q_aload_n dlaw_1172 rfl ?_
  refine q_aload_n dlaw_1173 rfl ?_
  refine q_iload_n dlaw_1174 rfl ?_
  refine q_iconst (v := 1) dlaw_1175 (by decide) ?_
  refine q_iadd dlaw_1176 ?_
  refine q_xald rfl dlaw_1177 (hin 1 (by omega)) ?_
  refine q_aload_n dlaw_1178 rfl ?_
  refine q_iload_n dlaw_1179 rfl ?_
  refine q_iconst (v := 2) dlaw_1180 (by decide) ?_
  refine q_iadd dlaw_1181 ?_
  refine q_xald rfl dlaw_1182 (hin 2 (by omega)) ?_
  refine q_callV (d := 1) (As := [.int (xs (i + 1).toNatClampNeg), .int (xs (i + 2).toNatClampNeg)]) (rest := [.int r]) dlaw_1183 ok_X12_sheet mk_law_149 rc_168 rfl (Nat.le_of_ble_eq_true rfl) ⟨by decide, by decide⟩ hcs h (fun v σ2 h => ?_)
  obtain ⟨r', rfl, rfl, hI2⟩ := h
  exact q_icmp_eq (tgt := 1320) dlaw_1186 (by decide) (fun _ => K σ2 hI2) (fun c => absurd rfl c)
theorem lw_33 (hI : Inv σ) (hin : ∀ c : Nat, c < 6 → vp_in (i + nI c) N) (hcs : cl ≤ room_1.cells ∧ sl ≤ room_1.slots) (K : ∀ σ', Inv σ' → TT g room_1 cl sl D_law (some (b, N, xs)) 1320 [some (.ref b), some (.ref (g.2.1 0)), some (.ref (g.2.1 168)), some (.int i)] [] σ' P) :
    TT g room_1 cl sl D_law (some (b, N, xs)) 1191 [some (.ref b), some (.ref (g.2.1 0)), some (.ref (g.2.1 168)), some (.int i)] [] σ P := by
  refine q_aload_n dlaw_1191 rfl ?_
  refine q_aload_n dlaw_1192 rfl ?_
  refine q_iload_n dlaw_1193 rfl ?_
  refine q_iconst (v := 1) dlaw_1194 (by decide) ?_
  refine q_iadd dlaw_1195 ?_
  refine q_xald rfl dlaw_1196 (hin 1 (by omega)) ?_
  refine q_aload_n dlaw_1197 rfl ?_
  refine q_iload_n dlaw_1198 rfl ?_
  refine q_iconst (v := 2) dlaw_1199 (by decide) ?_
  refine q_iadd dlaw_1200 ?_
  refine q_xald rfl dlaw_1201 (hin 2 (by omega)) ?_
  refine q_aload_n dlaw_1202 rfl ?_
  refine q_iload_n dlaw_1203 rfl ?_
  refine q_iconst (v := 3) dlaw_1204 (by decide) ?_
  refine q_iadd dlaw_1205 ?_
  refine q_xald rfl dlaw_1206 (hin 3 (by omega)) ?_
  refine q_callV (d := 1) (As := [.int (xs (i + 1).toNatClampNeg), .int (xs (i + 2).toNatClampNeg), .int (xs (i + 3).toNatClampNeg)]) (rest := []) dlaw_1207 ok_X11_mark mk_law_150 rc_0 rfl (Nat.le_of_ble_eq_true rfl) ⟨by decide, by decide⟩ hcs (op_mark hI) (fun v σ1 h => ?_)
  obtain ⟨r, rfl, h⟩ := h
  refine q_aload_n dlaw_1210 rfl ?_
  refine q_aload_n dlaw_1211 rfl ?_
  refine q_iload_n dlaw_1212 rfl ?_
  refine q_iconst (v := 1) dlaw_1213 (by decide) ?_
  refine q_iadd dlaw_1214 ?_
  refine q_xald rfl dlaw_1215 (hin 1 (by omega)) ?_
  refine q_aload_n dlaw_1216 rfl ?_
  refine q_iload_n dlaw_1217 rfl ?_
  refine q_iconst (v := 2) dlaw_1218 (by decide) ?_
  refine q_iadd dlaw_1219 ?_
  refine q_xald rfl dlaw_1220 (hin 2 (by omega)) ?_
  refine q_aload_n dlaw_1221 rfl ?_
  refine q_iload_n dlaw_1222 rfl ?_
  refine q_iconst (v := 3) dlaw_1223 (by decide) ?_
  refine q_iadd dlaw_1224 ?_
  refine q_xald rfl dlaw_1225 (hin 3 (by omega)) ?_
  refine q_callV (d := 1) (As := [.int (xs (i + 1).toNatClampNeg), .int (xs (i + 2).toNatClampNeg), .int (xs (i + 3).toNatClampNeg)]) (rest := [.int r]) dlaw_1226 ok_X12_mark mk_law_153 rc_168 rfl (Nat.le_of_ble_eq_true rfl) ⟨by decide, by decide⟩ hcs h (fun v σ2 h => ?_)
  obtain ⟨r', rfl, rfl, hI2⟩ := h
  exact q_icmp_eq (tgt := 1320) dlaw_1229 (by decide) (fun _ => K σ2 hI2) (fun c => absurd rfl c)
theorem lw_34 (hI : Inv σ) (hin : ∀ c : Nat, c < 6 → vp_in (i + nI c) N) (hcs : cl ≤ room_1.cells ∧ sl ≤ room_1.slots) (K : ∀ σ', Inv σ' → TT g room_1 cl sl D_law (some (b, N, xs)) 1320 [some (.ref b), some (.ref (g.2.1 0)), some (.ref (g.2.1 168)), some (.int i)] [] σ' P) :
    TT g room_1 cl sl D_law (some (b, N, xs)) 1234 [some (.ref b), some (.ref (g.2.1 0)), some (.ref (g.2.1 168)), some (.int i)] [] σ P := by
  refine q_aload_n dlaw_1234 rfl ?_
  refine q_aload_n dlaw_1235 rfl ?_
  refine q_iload_n dlaw_1236 rfl ?_
  refine q_iconst (v := 1) dlaw_1237 (by decide) ?_
  refine q_iadd dlaw_1238 ?_
  refine q_xald rfl dlaw_1239 (hin 1 (by omega)) ?_
  refine q_aload_n dlaw_1240 rfl ?_
  refine q_iload_n dlaw_1241 rfl ?_
  refine q_iconst (v := 2) dlaw_1242 (by decide) ?_
  refine q_iadd dlaw_1243 ?_
  refine q_xald rfl dlaw_1244 (hin 2 (by omega)) ?_
  refine q_aload_n dlaw_1245 rfl ?_
  refine q_iload_n dlaw_1246 rfl ?_
  refine q_iconst (v := 3) dlaw_1247 (by decide) ?_
  refine q_iadd dlaw_1248 ?_
  refine q_xald rfl dlaw_1249 (hin 3 (by omega)) ?_
  refine q_aload_n dlaw_1250 rfl ?_
  refine q_iload_n dlaw_1251 rfl ?_
  refine q_iconst (v := 4) dlaw_1252 (by decide) ?_
  refine q_iadd dlaw_1253 ?_
  refine q_xald rfl dlaw_1254 (hin 4 (by omega)) ?_
  refine q_aload_n dlaw_1255 rfl ?_
  refine q_iload_n dlaw_1256 rfl ?_
  refine q_iconst (v := 5) dlaw_1257 (by decide) ?_
  refine q_iadd dlaw_1258 ?_
  refine q_xald rfl dlaw_1259 (hin 5 (by omega)) ?_
  refine q_callV (d := 1) (As := [.int (xs (i + 1).toNatClampNeg), .int (xs (i + 2).toNatClampNeg), .int (xs (i + 3).toNatClampNeg), .int (xs (i + 4).toNatClampNeg), .int (xs (i + 5).toNatClampNeg)]) (rest := []) dlaw_1260 ok_X11_copy mk_law_154 rc_0 rfl (Nat.le_of_ble_eq_true rfl) ⟨by decide, by decide⟩ hcs (op_copy hI) (fun v σ1 h => ?_)
  obtain ⟨r, rfl, h⟩ := h
  refine q_aload_n dlaw_1263 rfl ?_
  refine q_aload_n dlaw_1264 rfl ?_
  refine q_iload_n dlaw_1265 rfl ?_
  refine q_iconst (v := 1) dlaw_1266 (by decide) ?_
  refine q_iadd dlaw_1267 ?_
  refine q_xald rfl dlaw_1268 (hin 1 (by omega)) ?_
  refine q_aload_n dlaw_1269 rfl ?_
  refine q_iload_n dlaw_1270 rfl ?_
  refine q_iconst (v := 2) dlaw_1271 (by decide) ?_
  refine q_iadd dlaw_1272 ?_
  refine q_xald rfl dlaw_1273 (hin 2 (by omega)) ?_
  refine q_aload_n dlaw_1274 rfl ?_
  refine q_iload_n dlaw_1275 rfl ?_
  refine q_iconst (v := 3) dlaw_1276 (by decide) ?_
  refine q_iadd dlaw_1277 ?_
  refine q_xald rfl dlaw_1278 (hin 3 (by omega)) ?_
  refine q_aload_n dlaw_1279 rfl ?_
  refine q_iload_n dlaw_1280 rfl ?_
  refine q_iconst (v := 4) dlaw_1281 (by decide) ?_
  refine q_iadd dlaw_1282 ?_
  refine q_xald rfl dlaw_1283 (hin 4 (by omega)) ?_
  refine q_aload_n dlaw_1284 rfl ?_
  refine q_iload_n dlaw_1285 rfl ?_
  refine q_iconst (v := 5) dlaw_1286 (by decide) ?_
  refine q_iadd dlaw_1287 ?_
  refine q_xald rfl dlaw_1288 (hin 5 (by omega)) ?_
  refine q_callV (d := 1) (As := [.int (xs (i + 1).toNatClampNeg), .int (xs (i + 2).toNatClampNeg), .int (xs (i + 3).toNatClampNeg), .int (xs (i + 4).toNatClampNeg), .int (xs (i + 5).toNatClampNeg)]) (rest := [.int r]) dlaw_1289 ok_X12_copy mk_law_157 rc_168 rfl (Nat.le_of_ble_eq_true rfl) ⟨by decide, by decide⟩ hcs h (fun v σ2 h => ?_)
  obtain ⟨r', rfl, rfl, hI2⟩ := h
  exact q_icmp_eq (tgt := 1320) dlaw_1292 (by decide) (fun _ => K σ2 hI2) (fun c => absurd rfl c)
theorem lw_35 (hI : Inv σ) (hin : ∀ c : Nat, c < 6 → vp_in (i + nI c) N) (hcs : cl ≤ room_1.cells ∧ sl ≤ room_1.slots) (K : ∀ σ', Inv σ' → TT g room_1 cl sl D_law (some (b, N, xs)) 1320 [some (.ref b), some (.ref (g.2.1 0)), some (.ref (g.2.1 168)), some (.int i)] [] σ' P) :
    TT g room_1 cl sl D_law (some (b, N, xs)) 1297 [some (.ref b), some (.ref (g.2.1 0)), some (.ref (g.2.1 168)), some (.int i)] [] σ P := by
  refine q_aload_n dlaw_1297 rfl ?_
  refine q_aload_n dlaw_1298 rfl ?_
  refine q_iload_n dlaw_1299 rfl ?_
  refine q_iconst (v := 1) dlaw_1300 (by decide) ?_
  refine q_iadd dlaw_1301 ?_
  refine q_xald rfl dlaw_1302 (hin 1 (by omega)) ?_
  refine q_callV (d := 4) (As := [.int (xs (i + 1).toNatClampNeg)]) (rest := []) dlaw_1303 ok_X11_count mk_law_158 rc_0 rfl (Nat.le_of_ble_eq_true rfl) ⟨by decide, by decide⟩ hcs (op_count hI) (fun v σ1 h => ?_)
  obtain ⟨r, rfl, h⟩ := h
  refine q_aload_n dlaw_1306 rfl ?_
  refine q_aload_n dlaw_1307 rfl ?_
  refine q_iload_n dlaw_1308 rfl ?_
  refine q_iconst (v := 1) dlaw_1309 (by decide) ?_
  refine q_iadd dlaw_1310 ?_
  refine q_xald rfl dlaw_1311 (hin 1 (by omega)) ?_
  refine q_callV (d := 2) (As := [.int (xs (i + 1).toNatClampNeg)]) (rest := [.int r]) dlaw_1312 ok_X12_count mk_law_161 rc_168 rfl (Nat.le_of_ble_eq_true rfl) ⟨by decide, by decide⟩ hcs h (fun v σ2 h => ?_)
  obtain ⟨r', rfl, rfl, hI2⟩ := h
  exact q_icmp_eq (tgt := 1320) dlaw_1315 (by decide) (fun _ => K σ2 hI2) (fun c => absurd rfl c)
theorem lw_switch {j : Nat} (hj : j < 64) (hI : Inv σ) (hin : ∀ c : Nat, c < 6 → vp_in (i + nI c) N) (hcs : cl ≤ room_1.cells ∧ sl ≤ room_1.slots) (K : ∀ σ', Inv σ' → TT g room_1 cl sl D_law (some (b, N, xs)) 1320 [some (.ref b), some (.ref (g.2.1 0)), some (.ref (g.2.1 168)), some (.int i)] [] σ' P) :
    TT g room_1 cl sl D_law (some (b, N, xs)) 33 [some (.ref b), some (.ref (g.2.1 0)), some (.ref (g.2.1 168)), some (.int i)] [.int (nI j)] σ P := by
  by_cases h36 : 36 ≤ j
  · exact q_tabOut (tgt := 1320) dlaw_33 (Or.inr (by rw [nI_toInt (by omega)]; omega)) (by decide) (K σ hI)
  · match j, h36 with
    | 0, _ => exact q_tabE (kk := 0) rfl (tgt := 192) (off := 159) dlaw_33 (by decide) (by decide) rfl (by decide) (lw_0 hI hin hcs K)
    | 1, _ => exact q_tabE (kk := 1) rfl (tgt := 225) (off := 192) dlaw_33 (by decide) (by decide) rfl (by decide) (lw_1 hI hin hcs K)
    | 2, _ => exact q_tabE (kk := 2) rfl (tgt := 248) (off := 215) dlaw_33 (by decide) (by decide) rfl (by decide) (lw_2 hI hin hcs K)
    | 3, _ => exact q_tabE (kk := 3) rfl (tgt := 281) (off := 248) dlaw_33 (by decide) (by decide) rfl (by decide) (lw_3 hI hin hcs K)
    | 4, _ => exact q_tabE (kk := 4) rfl (tgt := 314) (off := 281) dlaw_33 (by decide) (by decide) rfl (by decide) (lw_4 hI hin hcs K)
    | 5, _ => exact q_tabE (kk := 5) rfl (tgt := 377) (off := 344) dlaw_33 (by decide) (by decide) rfl (by decide) (lw_5 hI hin hcs K)
    | 6, _ => exact q_tabE (kk := 6) rfl (tgt := 410) (off := 377) dlaw_33 (by decide) (by decide) rfl (by decide) (lw_6 hI hin hcs K)
    | 7, _ => exact q_tabE (kk := 7) rfl (tgt := 443) (off := 410) dlaw_33 (by decide) (by decide) rfl (by decide) (lw_7 hI hin hcs K)
    | 8, _ => exact q_tabE (kk := 8) rfl (tgt := 466) (off := 433) dlaw_33 (by decide) (by decide) rfl (by decide) (lw_8 hI hin hcs K)
    | 9, _ => exact q_tabE (kk := 9) rfl (tgt := 499) (off := 466) dlaw_33 (by decide) (by decide) rfl (by decide) (lw_9 hI hin hcs K)
    | 10, _ => exact q_tabE (kk := 10) rfl (tgt := 542) (off := 509) dlaw_33 (by decide) (by decide) rfl (by decide) (lw_10 hI hin hcs K)
    | 11, _ => exact q_tabE (kk := 11) rfl (tgt := 575) (off := 542) dlaw_33 (by decide) (by decide) rfl (by decide) (lw_11 hI hin hcs K)
    | 12, _ => exact q_tabE (kk := 12) rfl (tgt := 618) (off := 585) dlaw_33 (by decide) (by decide) rfl (by decide) (lw_12 hI hin hcs K)
    | 13, _ => exact q_tabE (kk := 13) rfl (tgt := 641) (off := 608) dlaw_33 (by decide) (by decide) rfl (by decide) (lw_13 hI hin hcs K)
    | 14, _ => exact q_tabE (kk := 14) rfl (tgt := 674) (off := 641) dlaw_33 (by decide) (by decide) rfl (by decide) (lw_14 hI hin hcs K)
    | 15, _ => exact q_tabE (kk := 15) rfl (tgt := 717) (off := 684) dlaw_33 (by decide) (by decide) rfl (by decide) (lw_15 hI hin hcs K)
    | 16, _ => exact q_tabE (kk := 16) rfl (tgt := 760) (off := 727) dlaw_33 (by decide) (by decide) rfl (by decide) (lw_16 hI hin hcs K)
    | 17, _ => exact q_tabE (kk := 17) rfl (tgt := 803) (off := 770) dlaw_33 (by decide) (by decide) rfl (by decide) (lw_17 hI hin hcs K)
    | 18, _ => exact q_tabE (kk := 18) rfl (tgt := 826) (off := 793) dlaw_33 (by decide) (by decide) rfl (by decide) (lw_18 hI hin hcs K)
    | 19, _ => exact q_tabE (kk := 19) rfl (tgt := 849) (off := 816) dlaw_33 (by decide) (by decide) rfl (by decide) (lw_19 hI hin hcs K)
    | 20, _ => exact q_tabE (kk := 20) rfl (tgt := 892) (off := 859) dlaw_33 (by decide) (by decide) rfl (by decide) (lw_20 hI hin hcs K)
    | 21, _ => exact q_tabE (kk := 21) rfl (tgt := 925) (off := 892) dlaw_33 (by decide) (by decide) rfl (by decide) (lw_21 hI hin hcs K)
    | 22, _ => exact q_tabE (kk := 22) rfl (tgt := 968) (off := 935) dlaw_33 (by decide) (by decide) rfl (by decide) (lw_22 hI hin hcs K)
    | 23, _ => exact q_tabE (kk := 23) rfl (tgt := 981) (off := 948) dlaw_33 (by decide) (by decide) rfl (by decide) (lw_23 hI hin hcs K)
    | 24, _ => exact q_tabE (kk := 24) rfl (tgt := 1004) (off := 971) dlaw_33 (by decide) (by decide) rfl (by decide) (lw_24 hI hin hcs K)
    | 25, _ => exact q_tabE (kk := 25) rfl (tgt := 1027) (off := 994) dlaw_33 (by decide) (by decide) rfl (by decide) (lw_25 hI hin hcs K)
    | 26, _ => exact q_tabE (kk := 26) rfl (tgt := 1040) (off := 1007) dlaw_33 (by decide) (by decide) rfl (by decide) (lw_26 hI hin hcs K)
    | 27, _ => exact q_tabE (kk := 27) rfl (tgt := 1063) (off := 1030) dlaw_33 (by decide) (by decide) rfl (by decide) (lw_27 hI hin hcs K)
    | 28, _ => exact q_tabE (kk := 28) rfl (tgt := 1096) (off := 1063) dlaw_33 (by decide) (by decide) rfl (by decide) (lw_28 hI hin hcs K)
    | 29, _ => exact q_tabE (kk := 29) rfl (tgt := 1119) (off := 1086) dlaw_33 (by decide) (by decide) rfl (by decide) (lw_29 hI hin hcs K)
    | 30, _ => exact q_tabE (kk := 30) rfl (tgt := 1132) (off := 1099) dlaw_33 (by decide) (by decide) rfl (by decide) (lw_30 hI hin hcs K)
    | 31, _ => exact q_tabE (kk := 31) rfl (tgt := 1145) (off := 1112) dlaw_33 (by decide) (by decide) rfl (by decide) (lw_31 hI hin hcs K)
    | 32, _ => exact q_tabE (kk := 32) rfl (tgt := 1158) (off := 1125) dlaw_33 (by decide) (by decide) rfl (by decide) (lw_32 hI hin hcs K)
    | 33, _ => exact q_tabE (kk := 33) rfl (tgt := 1191) (off := 1158) dlaw_33 (by decide) (by decide) rfl (by decide) (lw_33 hI hin hcs K)
    | 34, _ => exact q_tabE (kk := 34) rfl (tgt := 1234) (off := 1201) dlaw_33 (by decide) (by decide) rfl (by decide) (lw_34 hI hin hcs K)
    | 35, _ => exact q_tabE (kk := 35) rfl (tgt := 1297) (off := 1264) dlaw_33 (by decide) (by decide) rfl (by decide) (lw_35 hI hin hcs K)
    | n + 36, h => exact absurd (by omega) h
end LAWW
