theorem cn_X11_183 : Cond.classLink RX11 183 "java/util/NoSuchElementException" ∈ tb := tb_of 799 (by decide +kernel) (by decide +kernel)
theorem cw_X5_read : Cond.code yX5_read cX5_read 3 none ∈ tb := tb_of 803 (by decide +kernel) (by decide +kernel)
theorem mw_X5_read : MW yX5_read cX5_read 3 none 1 := ⟨cw_X5_read, ini_X5, by decide +kernel⟩
theorem im_X5_read : Cond.instanceMethod yX5_read ∈ tb := tb_of 801 (by decide +kernel) (by decide +kernel)
theorem se_X5_read : Cond.selects (yX5_read).cls yX5_read yX5_read ∈ tb := tb_of 802 (by decide +kernel) (by decide +kernel)
theorem ml_X11_287 : Cond.methodLink RX11 287 yX5_read ∈ tb := tb_of 800 (by decide +kernel) (by decide +kernel)
theorem cn_X11_138 : Cond.classLink RX11 138 "java/lang/UnsupportedOperationException" ∈ tb := tb_of 714 (by decide +kernel) (by decide +kernel)
theorem gf_X11_2 : FI 11 RX11 TX11 16 tyX11 2 3 := ⟨rfl, inb_X11, tyX11_ok, nmX11, by decide, by decide, rfl, rfl, rfl⟩
theorem fl_X11_39 : Cond.fieldLink RX11 39 RX11 (TX11 2).2.1 (TX11 2).2.2.1 ∈ tb := tb_of 496 (by decide +kernel) (by decide +kernel)
theorem lk_0_2 : lks 0 2 = some 6 := by decide +kernel
theorem cw_X1_check : Cond.code yX1_check cX1_check 3 none ∈ tb := tb_of 1154 (by decide +kernel) (by decide +kernel)
theorem mw_X1_check : MW yX1_check cX1_check 3 none 1 := ⟨cw_X1_check, ini_X1, by decide +kernel⟩
theorem im_X1_check : Cond.instanceMethod yX1_check ∈ tb := tb_of 1152 (by decide +kernel) (by decide +kernel)
theorem se_X1_check : Cond.selects (yX1_check).cls yX1_check yX1_check ∈ tb := tb_of 1153 (by decide +kernel) (by decide +kernel)
theorem ml_X11_290 : Cond.methodLink RX11 290 yX1_check ∈ tb := tb_of 1151 (by decide +kernel) (by decide +kernel)
theorem gf_X11_3 : FI 11 RX11 TX11 16 tyX11 3 3 := ⟨rfl, inb_X11, tyX11_ok, nmX11, by decide, by decide, rfl, rfl, rfl⟩
theorem fl_X11_46 : Cond.fieldLink RX11 46 RX11 (TX11 3).2.1 (TX11 3).2.2.1 ∈ tb := tb_of 497 (by decide +kernel) (by decide +kernel)
theorem lk_0_3 : lks 0 3 = some 106 := by decide +kernel
theorem im_X11_canRead : Cond.instanceMethod yX11_canRead ∈ tb := tb_of 797 (by decide +kernel) (by decide +kernel)
theorem se_X11_canRead : Cond.selects (yX11_canRead).cls yX11_canRead yX11_canRead ∈ tb := tb_of 5 (by decide +kernel) (by decide +kernel)
theorem ml_X11_175 : Cond.methodLink RX11 175 yX11_canRead ∈ tb := tb_of 795 (by decide +kernel) (by decide +kernel)
theorem cw_X5_forget : Cond.code yX5_forget cX5_forget 1 none ∈ tb := tb_of 1141 (by decide +kernel) (by decide +kernel)
theorem mw_X5_forget : MW yX5_forget cX5_forget 1 none 0 := ⟨cw_X5_forget, ini_X5, by decide +kernel⟩
theorem im_X5_forget : Cond.instanceMethod yX5_forget ∈ tb := tb_of 1139 (by decide +kernel) (by decide +kernel)
theorem se_X5_forget : Cond.selects (yX5_forget).cls yX5_forget yX5_forget ∈ tb := tb_of 1140 (by decide +kernel) (by decide +kernel)
theorem ml_X11_178 : Cond.methodLink RX11 178 yX5_forget ∈ tb := tb_of 1138 (by decide +kernel) (by decide +kernel)
theorem im_X11_canFlow : Cond.instanceMethod yX11_canFlow ∈ tb := tb_of 1149 (by decide +kernel) (by decide +kernel)
theorem se_X11_canFlow : Cond.selects (yX11_canFlow).cls yX11_canFlow yX11_canFlow ∈ tb := tb_of 35 (by decide +kernel) (by decide +kernel)
theorem ml_X11_186 : Cond.methodLink RX11 186 yX11_canFlow ∈ tb := tb_of 1147 (by decide +kernel) (by decide +kernel)
theorem cw_X8_fits : Cond.code yX8_fits cX8_fits 3 (some .boolean) ∈ tb := tb_of 1222 (by decide +kernel) (by decide +kernel)
theorem mw_X8_fits : MW yX8_fits cX8_fits 3 (some .boolean) 2 := ⟨cw_X8_fits, ini_X8, by decide +kernel⟩
theorem im_X8_fits : Cond.instanceMethod yX8_fits ∈ tb := tb_of 1220 (by decide +kernel) (by decide +kernel)
theorem se_X8_fits : Cond.selects (yX8_fits).cls yX8_fits yX8_fits ∈ tb := tb_of 1221 (by decide +kernel) (by decide +kernel)
theorem ml_X11_190 : Cond.methodLink RX11 190 yX8_fits ∈ tb := tb_of 1219 (by decide +kernel) (by decide +kernel)
theorem cw_X11_takeSpare : Cond.code yX11_takeSpare cX11_takeSpare 3 none ∈ tb := tb_of 1267 (by decide +kernel) (by decide +kernel)
theorem mw_X11_takeSpare : MW yX11_takeSpare cX11_takeSpare 3 none 0 := ⟨cw_X11_takeSpare, ini_X11, by decide +kernel⟩
theorem im_X11_takeSpare : Cond.instanceMethod yX11_takeSpare ∈ tb := tb_of 1266 (by decide +kernel) (by decide +kernel)
theorem se_X11_takeSpare : Cond.selects (yX11_takeSpare).cls yX11_takeSpare yX11_takeSpare ∈ tb := tb_of 48 (by decide +kernel) (by decide +kernel)
theorem ml_X11_194 : Cond.methodLink RX11 194 yX11_takeSpare ∈ tb := tb_of 1264 (by decide +kernel) (by decide +kernel)
theorem cw_X1_place : Cond.code yX1_place cX1_place 1 (some .int) ∈ tb := tb_of 1218 (by decide +kernel) (by decide +kernel)
theorem mw_X1_place : MW yX1_place cX1_place 1 (some .int) 0 := ⟨cw_X1_place, ini_X1, by decide +kernel⟩
theorem im_X1_place : Cond.instanceMethod yX1_place ∈ tb := tb_of 1216 (by decide +kernel) (by decide +kernel)
theorem se_X1_place : Cond.selects (yX1_place).cls yX1_place yX1_place ∈ tb := tb_of 1217 (by decide +kernel) (by decide +kernel)
theorem ml_X11_189 : Cond.methodLink RX11 189 yX1_place ∈ tb := tb_of 1215 (by decide +kernel) (by decide +kernel)
theorem cw_X5_place : Cond.code yX5_place cX5_place 1 (some .int) ∈ tb := tb_of 1145 (by decide +kernel) (by decide +kernel)
theorem mw_X5_place : MW yX5_place cX5_place 1 (some .int) 0 := ⟨cw_X5_place, ini_X5, by decide +kernel⟩
theorem im_X5_place : Cond.instanceMethod yX5_place ∈ tb := tb_of 1143 (by decide +kernel) (by decide +kernel)
theorem se_X5_place : Cond.selects (yX5_place).cls yX5_place yX5_place ∈ tb := tb_of 1144 (by decide +kernel) (by decide +kernel)
theorem ml_X11_181 : Cond.methodLink RX11 181 yX5_place ∈ tb := tb_of 1142 (by decide +kernel) (by decide +kernel)
theorem cw_X11_compile : Cond.code yX11_compile cX11_compile 2 (some .int) ∈ tb := tb_of 794 (by decide +kernel) (by decide +kernel)
theorem mw_X11_compile : MW yX11_compile cX11_compile 2 (some .int) 0 := ⟨cw_X11_compile, ini_X11, by decide +kernel⟩
theorem im_X11_compile : Cond.instanceMethod yX11_compile ∈ tb := tb_of 792 (by decide +kernel) (by decide +kernel)
theorem se_X11_compile : Cond.selects (yX11_compile).cls yX11_compile yX11_compile ∈ tb := tb_of 793 (by decide +kernel) (by decide +kernel)
theorem kq_262 {nu c u : Nat} {K : Nat → Nat} : (Ax nu K c u).1 262 = 15 := kd_lt (K := K) (a := 262) (by decide) rfl
theorem lq_262 {nu c u : Nat} {K : Nat → Nat} : (Ax nu K c u).2.1 262 = 1 := rfl
theorem ini_L : Cond.initialized RL ∈ tb := tb_of 159 (by decide +kernel) (by decide +kernel)
theorem cn_L_13 : Cond.classLink RL 13 "java/lang/IllegalArgumentException" ∈ tb := tb_of 569 (by decide +kernel) (by decide +kernel)
theorem cn_L_15 : Cond.classLink RL 15 "java/lang/IllegalStateException" ∈ tb := tb_of 570 (by decide +kernel) (by decide +kernel)
theorem ml_L_7 : Cond.methodLink RL 7 yX11_below ∈ tb := tb_of 571 (by decide +kernel) (by decide +kernel)
theorem cw_X11_below : Cond.code yX11_below cX11_below 3 (some .int) ∈ tb := tb_of 574 (by decide +kernel) (by decide +kernel)
theorem mw_X11_below : MW yX11_below cX11_below 3 (some .int) 2 := ⟨cw_X11_below, ini_X11, by decide +kernel⟩
theorem im_X11_below : Cond.instanceMethod yX11_below ∈ tb := tb_of 572 (by decide +kernel) (by decide +kernel)
theorem se_X11_below : Cond.selects (yX11_below).cls yX11_below yX11_below ∈ tb := tb_of 573 (by decide +kernel) (by decide +kernel)
theorem cn_L_21 : Cond.classLink RL 21 "java/lang/UnsupportedOperationException" ∈ tb := tb_of 685 (by decide +kernel) (by decide +kernel)
theorem ml_L_17 : Cond.methodLink RL 17 yX11_seal ∈ tb := tb_of 686 (by decide +kernel) (by decide +kernel)
theorem cw_X11_seal : Cond.code yX11_seal cX11_seal 2 (some .int) ∈ tb := tb_of 689 (by decide +kernel) (by decide +kernel)
theorem mw_X11_seal : MW yX11_seal cX11_seal 2 (some .int) 0 := ⟨cw_X11_seal, ini_X11, by decide +kernel⟩
theorem im_X11_seal : Cond.instanceMethod yX11_seal ∈ tb := tb_of 687 (by decide +kernel) (by decide +kernel)
theorem se_X11_seal : Cond.selects (yX11_seal).cls yX11_seal yX11_seal ∈ tb := tb_of 688 (by decide +kernel) (by decide +kernel)
theorem ml_L_23 : Cond.methodLink RL 23 yX11_label ∈ tb := tb_of 740 (by decide +kernel) (by decide +kernel)
theorem cw_X11_label : Cond.code yX11_label cX11_label 4 (some .int) ∈ tb := tb_of 743 (by decide +kernel) (by decide +kernel)
theorem mw_X11_label : MW yX11_label cX11_label 4 (some .int) 3 := ⟨cw_X11_label, ini_X11, by decide +kernel⟩
theorem im_X11_label : Cond.instanceMethod yX11_label ∈ tb := tb_of 741 (by decide +kernel) (by decide +kernel)
theorem se_X11_label : Cond.selects (yX11_label).cls yX11_label yX11_label ∈ tb := tb_of 742 (by decide +kernel) (by decide +kernel)
theorem cn_L_31 : Cond.classLink RL 31 "java/lang/IndexOutOfBoundsException" ∈ tb := tb_of 753 (by decide +kernel) (by decide +kernel)
theorem ml_L_27 : Cond.methodLink RL 27 yX11_append ∈ tb := tb_of 754 (by decide +kernel) (by decide +kernel)
theorem cw_X11_append : Cond.code yX11_append cX11_append 4 (some .int) ∈ tb := tb_of 757 (by decide +kernel) (by decide +kernel)
theorem mw_X11_append : MW yX11_append cX11_append 4 (some .int) 2 := ⟨cw_X11_append, ini_X11, by decide +kernel⟩
theorem im_X11_append : Cond.instanceMethod yX11_append ∈ tb := tb_of 755 (by decide +kernel) (by decide +kernel)
theorem se_X11_append : Cond.selects (yX11_append).cls yX11_append yX11_append ∈ tb := tb_of 756 (by decide +kernel) (by decide +kernel)
theorem cn_L_36 : Cond.classLink RL 36 "java/util/NoSuchElementException" ∈ tb := tb_of 790 (by decide +kernel) (by decide +kernel)
theorem ml_L_33 : Cond.methodLink RL 33 yX11_compile ∈ tb := tb_of 791 (by decide +kernel) (by decide +kernel)
theorem ml_L_38 : Cond.methodLink RL 38 yX11_code ∈ tb := tb_of 1277 (by decide +kernel) (by decide +kernel)
theorem cw_X11_code : Cond.code yX11_code cX11_code 3 (some .int) ∈ tb := tb_of 1280 (by decide +kernel) (by decide +kernel)
theorem mw_X11_code : MW yX11_code cX11_code 3 (some .int) 2 := ⟨cw_X11_code, ini_X11, by decide +kernel⟩
theorem im_X11_code : Cond.instanceMethod yX11_code ∈ tb := tb_of 1278 (by decide +kernel) (by decide +kernel)
theorem se_X11_code : Cond.selects (yX11_code).cls yX11_code yX11_code ∈ tb := tb_of 1279 (by decide +kernel) (by decide +kernel)
theorem ml_L_41 : Cond.methodLink RL 41 yX11_fix ∈ tb := tb_of 1285 (by decide +kernel) (by decide +kernel)
theorem cw_X11_fix : Cond.code yX11_fix cX11_fix 6 (some .int) ∈ tb := tb_of 1288 (by decide +kernel) (by decide +kernel)
theorem mw_X11_fix : MW yX11_fix cX11_fix 6 (some .int) 3 := ⟨cw_X11_fix, ini_X11, by decide +kernel⟩
theorem im_X11_fix : Cond.instanceMethod yX11_fix ∈ tb := tb_of 1286 (by decide +kernel) (by decide +kernel)
theorem se_X11_fix : Cond.selects (yX11_fix).cls yX11_fix yX11_fix ∈ tb := tb_of 1287 (by decide +kernel) (by decide +kernel)
theorem ml_L_45 : Cond.methodLink RL 45 yX11_verify ∈ tb := tb_of 1292 (by decide +kernel) (by decide +kernel)
theorem cw_X11_verify : Cond.code yX11_verify cX11_verify 1 (some .int) ∈ tb := tb_of 1295 (by decide +kernel) (by decide +kernel)
theorem mw_X11_verify : MW yX11_verify cX11_verify 1 (some .int) 0 := ⟨cw_X11_verify, ini_X11, by decide +kernel⟩
theorem im_X11_verify : Cond.instanceMethod yX11_verify ∈ tb := tb_of 1293 (by decide +kernel) (by decide +kernel)
theorem se_X11_verify : Cond.selects (yX11_verify).cls yX11_verify yX11_verify ∈ tb := tb_of 1294 (by decide +kernel) (by decide +kernel)
theorem ml_L_48 : Cond.methodLink RL 48 yX11_map ∈ tb := tb_of 1474 (by decide +kernel) (by decide +kernel)
theorem cw_X11_map : Cond.code yX11_map cX11_map 3 (some .int) ∈ tb := tb_of 1477 (by decide +kernel) (by decide +kernel)
theorem mw_X11_map : MW yX11_map cX11_map 3 (some .int) 2 := ⟨cw_X11_map, ini_X11, by decide +kernel⟩
theorem im_X11_map : Cond.instanceMethod yX11_map ∈ tb := tb_of 1475 (by decide +kernel) (by decide +kernel)
theorem se_X11_map : Cond.selects (yX11_map).cls yX11_map yX11_map ∈ tb := tb_of 1476 (by decide +kernel) (by decide +kernel)
theorem ml_L_51 : Cond.methodLink RL 51 yX11_region ∈ tb := tb_of 1495 (by decide +kernel) (by decide +kernel)
theorem cw_X11_region : Cond.code yX11_region cX11_region 3 (some .int) ∈ tb := tb_of 1498 (by decide +kernel) (by decide +kernel)
theorem mw_X11_region : MW yX11_region cX11_region 3 (some .int) 2 := ⟨cw_X11_region, ini_X11, by decide +kernel⟩
theorem im_X11_region : Cond.instanceMethod yX11_region ∈ tb := tb_of 1496 (by decide +kernel) (by decide +kernel)
theorem se_X11_region : Cond.selects (yX11_region).cls yX11_region yX11_region ∈ tb := tb_of 1497 (by decide +kernel) (by decide +kernel)
theorem ml_L_54 : Cond.methodLink RL 54 yX11_feed ∈ tb := tb_of 1516 (by decide +kernel) (by decide +kernel)
theorem cw_X11_feed : Cond.code yX11_feed cX11_feed 3 (some .int) ∈ tb := tb_of 1519 (by decide +kernel) (by decide +kernel)
theorem mw_X11_feed : MW yX11_feed cX11_feed 3 (some .int) 2 := ⟨cw_X11_feed, ini_X11, by decide +kernel⟩
theorem im_X11_feed : Cond.instanceMethod yX11_feed ∈ tb := tb_of 1517 (by decide +kernel) (by decide +kernel)
theorem se_X11_feed : Cond.selects (yX11_feed).cls yX11_feed yX11_feed ∈ tb := tb_of 1518 (by decide +kernel) (by decide +kernel)
theorem ml_L_57 : Cond.methodLink RL 57 yX11_drain ∈ tb := tb_of 1534 (by decide +kernel) (by decide +kernel)
theorem cw_X11_drain : Cond.code yX11_drain cX11_drain 3 (some .int) ∈ tb := tb_of 1537 (by decide +kernel) (by decide +kernel)
theorem mw_X11_drain : MW yX11_drain cX11_drain 3 (some .int) 1 := ⟨cw_X11_drain, ini_X11, by decide +kernel⟩
theorem im_X11_drain : Cond.instanceMethod yX11_drain ∈ tb := tb_of 1535 (by decide +kernel) (by decide +kernel)
theorem se_X11_drain : Cond.selects (yX11_drain).cls yX11_drain yX11_drain ∈ tb := tb_of 1536 (by decide +kernel) (by decide +kernel)
theorem ml_L_61 : Cond.methodLink RL 61 yX11_run ∈ tb := tb_of 1545 (by decide +kernel) (by decide +kernel)
theorem cw_X11_run : Cond.code yX11_run cX11_run 2 (some .int) ∈ tb := tb_of 1548 (by decide +kernel) (by decide +kernel)
theorem mw_X11_run : MW yX11_run cX11_run 2 (some .int) 1 := ⟨cw_X11_run, ini_X11, by decide +kernel⟩
theorem im_X11_run : Cond.instanceMethod yX11_run ∈ tb := tb_of 1546 (by decide +kernel) (by decide +kernel)
theorem se_X11_run : Cond.selects (yX11_run).cls yX11_run yX11_run ∈ tb := tb_of 1547 (by decide +kernel) (by decide +kernel)
theorem ml_L_64 : Cond.methodLink RL 64 yX11_walk ∈ tb := tb_of 1624 (by decide +kernel) (by decide +kernel)
theorem cw_X11_walk : Cond.code yX11_walk cX11_walk 2 (some .int) ∈ tb := tb_of 1627 (by decide +kernel) (by decide +kernel)
theorem mw_X11_walk : MW yX11_walk cX11_walk 2 (some .int) 1 := ⟨cw_X11_walk, ini_X11, by decide +kernel⟩
theorem im_X11_walk : Cond.instanceMethod yX11_walk ∈ tb := tb_of 1625 (by decide +kernel) (by decide +kernel)
theorem se_X11_walk : Cond.selects (yX11_walk).cls yX11_walk yX11_walk ∈ tb := tb_of 1626 (by decide +kernel) (by decide +kernel)
theorem ml_L_67 : Cond.methodLink RL 67 yX11_output ∈ tb := tb_of 1667 (by decide +kernel) (by decide +kernel)
theorem cw_X11_output : Cond.code yX11_output cX11_output 3 (some .int) ∈ tb := tb_of 1670 (by decide +kernel) (by decide +kernel)
theorem mw_X11_output : MW yX11_output cX11_output 3 (some .int) 2 := ⟨cw_X11_output, ini_X11, by decide +kernel⟩
theorem im_X11_output : Cond.instanceMethod yX11_output ∈ tb := tb_of 1668 (by decide +kernel) (by decide +kernel)
theorem se_X11_output : Cond.selects (yX11_output).cls yX11_output yX11_output ∈ tb := tb_of 1669 (by decide +kernel) (by decide +kernel)
theorem ml_L_70 : Cond.methodLink RL 70 yX11_value ∈ tb := tb_of 1683 (by decide +kernel) (by decide +kernel)
theorem cw_X11_value : Cond.code yX11_value cX11_value 2 (some .int) ∈ tb := tb_of 1686 (by decide +kernel) (by decide +kernel)
theorem mw_X11_value : MW yX11_value cX11_value 2 (some .int) 1 := ⟨cw_X11_value, ini_X11, by decide +kernel⟩
theorem im_X11_value : Cond.instanceMethod yX11_value ∈ tb := tb_of 1684 (by decide +kernel) (by decide +kernel)
theorem se_X11_value : Cond.selects (yX11_value).cls yX11_value yX11_value ∈ tb := tb_of 1685 (by decide +kernel) (by decide +kernel)
theorem ml_L_73 : Cond.methodLink RL 73 yX11_instruction ∈ tb := tb_of 1694 (by decide +kernel) (by decide +kernel)
theorem cw_X11_instruction : Cond.code yX11_instruction cX11_instruction 3 (some .int) ∈ tb := tb_of 1697 (by decide +kernel) (by decide +kernel)
theorem mw_X11_instruction : MW yX11_instruction cX11_instruction 3 (some .int) 2 := ⟨cw_X11_instruction, ini_X11, by decide +kernel⟩
theorem im_X11_instruction : Cond.instanceMethod yX11_instruction ∈ tb := tb_of 1695 (by decide +kernel) (by decide +kernel)
theorem se_X11_instruction : Cond.selects (yX11_instruction).cls yX11_instruction yX11_instruction ∈ tb := tb_of 1696 (by decide +kernel) (by decide +kernel)
theorem ml_L_77 : Cond.methodLink RL 77 yX11_count ∈ tb := tb_of 1702 (by decide +kernel) (by decide +kernel)
theorem cw_X11_count : Cond.code yX11_count cX11_count 2 (some .int) ∈ tb := tb_of 1705 (by decide +kernel) (by decide +kernel)
theorem mw_X11_count : MW yX11_count cX11_count 2 (some .int) 1 := ⟨cw_X11_count, ini_X11, by decide +kernel⟩
theorem im_X11_count : Cond.instanceMethod yX11_count ∈ tb := tb_of 1703 (by decide +kernel) (by decide +kernel)
theorem se_X11_count : Cond.selects (yX11_count).cls yX11_count yX11_count ∈ tb := tb_of 1704 (by decide +kernel) (by decide +kernel)
def hhX11_canRead : Hh := [(0, 12, 13, 183)]
theorem cwh_X11_canRead : Cond.codeWith yX11_canRead cX11_canRead 2 (some .boolean) hhX11_canRead ∈ tb := tb_of 798 (by decide +kernel) (by decide +kernel)
theorem mwh_X11_canRead : MWh yX11_canRead cX11_canRead 2 (some .boolean) hhX11_canRead 0 := ⟨cwh_X11_canRead, ini_X11, by decide +kernel⟩
theorem hd_X11_canRead_4 : HdP RX11 hhX11_canRead 8 4 13 := ⟨[], [], (0, 12, 13, 183), "java/util/NoSuchElementException", rfl, rfl, fun _ h => absurd h List.not_mem_nil, by decide, by decide, by decide, cn_X11_183, rfl⟩
def f_X11_canRead (N nu n : Nat) (K : Nat → Nat) (cm um : Nat) (D : Dat) : Option (Int32 × (Nat → Nat) × Dat) :=
  (f_X5_read N nu (dR D 0 9) (n, K, cm, um) D).bind (fun z => match z.1 with | .inr _ => some (1, z.2.1.2.1, z.2.2) | .inl e => if e = 4 then some (0, z.2.1.2.1, z.2.2) else none)
set_option maxHeartbeats 4000000 in
theorem c_X11_canRead {l : Launch} {w : Wx} {N nu n cm um : Nat} {K : Nat → Nat} (hl : l.stackTraces = false) (hm : wlm w = true) {D : Dat} {z : Int32 × (Nat → Nat) × Dat} (h : f_X11_canRead N nu n K cm um D = some z) : C3 l w yX11_canRead cX11_canRead 2 (some .boolean) hhX11_canRead 1702 31795 cm um [.ref (wb w + pp 0)] n nu K D (some (.int z.1)) z.2.1 z.2.2 :=
  C3.of (by decide) (Nat.le_of_ble_eq_true rfl) (fun X e1 e2 e3 e4 e5 hT O => by
  subst e1
  subst e2
  show V X _ n _ D 0 [(0, .ref (bo X + pp 0))] []
  unfold f_X11_canRead at h
  obtain ⟨z0, hz0, h⟩ := bind_some h
  obtain ⟨z1, S1, D1⟩ := z0
  refine v_aload_n (pc := 0) O dX11_canRead_0 0 rfl ?_
  refine v_getK (pc := 1) (a := 0) O hm gf_X11_1 fl_X11_32 kq_0 lk_0_1 dX11_canRead_1 ?_
  refine v_aload_n (pc := 4) O dX11_canRead_4 0 rfl ?_
  refine v_getR (pc := 5) (a := 0) O gf_X11_9 fl_X11_90 kq_0 dX11_canRead_5 ?_
  cases z1 with
  | inl e =>
    obtain ⟨c1, h⟩ := if_none h
    subst c1
    obtain rfl := Option.some.inj h
    refine v_call2H (pc := 8) (S := (n, K, cm, um)) (a := 3) (As := [rv (bo X) (dR D 0 9)]) (rest := []) (e := 4) (S' := S1) (D' := D1) (hp := 13) O hT hd_X11_canRead_4 (c_X5_read (nu := nu) hl hm hz0 :) mw_X5_read im_X5_read se_X5_read ml_X11_287 kq_3 (by decide) rfl rfl rfl (by decide) (by decide) (Nat.le_of_ble_eq_true rfl) dX11_canRead_8 rfl (fun n' q hq => ?_)
    refine v_astore_n (pc := 13) (lv' := [(1, .ref q), (0, .ref (bo X + pp 0))]) O dX11_canRead_13 rfl (by rw [e3]; decide) rfl ?_
    refine v_iconst (pc := 14) O dX11_canRead_14 ic_0 ?_
    exact v_zret3 (pc := 15) O narrow_b0 hq dX11_canRead_15
  | inr r =>
    obtain rfl := Option.some.inj h
    refine v_call2C (pc := 8) (S := (n, K, cm, um)) (a := 3) (As := [rv (bo X) (dR D 0 9)]) (rest := []) (r := none) (S' := S1) (D' := D1) O hT.2 (c_X5_read (nu := nu) hl hm hz0 :) mw_X5_read im_X5_read se_X5_read ml_X11_287 kq_3 (by decide) rfl rfl rfl (by decide) (by decide) (Nat.le_of_ble_eq_true rfl) dX11_canRead_8 rfl rfl (fun hq => ?_)
    refine v_iconst (pc := 11) O dX11_canRead_11 ic_1 ?_
    exact v_zret3 (pc := 12) O narrow_b1 hq dX11_canRead_12)
def hhX11_canFlow : Hh := [(0, 12, 13, 138)]
theorem cwh_X11_canFlow : Cond.codeWith yX11_canFlow cX11_canFlow 2 (some .boolean) hhX11_canFlow ∈ tb := tb_of 1150 (by decide +kernel) (by decide +kernel)
theorem mwh_X11_canFlow : MWh yX11_canFlow cX11_canFlow 2 (some .boolean) hhX11_canFlow 0 := ⟨cwh_X11_canFlow, ini_X11, by decide +kernel⟩
theorem hd_X11_canFlow_2 : HdP RX11 hhX11_canFlow 8 2 13 := ⟨[], [], (0, 12, 13, 138), "java/lang/UnsupportedOperationException", rfl, rfl, fun _ h => absurd h List.not_mem_nil, by decide, by decide, by decide, cn_X11_138, rfl⟩
def f_X11_canFlow (N nu : Nat) (K : Nat → Nat) (D : Dat) : Option (Int32 × Dat) :=
  (f_X1_check N nu K (dR D 0 9) D).bind (fun z => match z.1 with | .inr _ => some (1, z.2) | .inl e => if e = 2 then some (0, z.2) else none)
set_option maxHeartbeats 4000000 in
theorem c_X11_canFlow {l : Launch} {w : Wx} {N nu n : Nat} {K : Nat → Nat} (hl : l.stackTraces = false) (hm : wlm w = true) {D : Dat} {z : Int32 × Dat} (h : f_X11_canFlow N nu K D = some z) : C3 l w yX11_canFlow cX11_canFlow 2 (some .boolean) hhX11_canFlow 402 7346 1 6 [.ref (wb w + pp 0)] n nu K D (some (.int z.1)) K z.2 :=
  C3.of (by decide) (Nat.le_of_ble_eq_true rfl) (fun X e1 e2 e3 e4 e5 hT O => by
  subst e1
  subst e2
  show V X _ n _ D 0 [(0, .ref (bo X + pp 0))] []
  unfold f_X11_canFlow at h
  obtain ⟨z0, hz0, h⟩ := bind_some h
  obtain ⟨z1, D1⟩ := z0
  refine v_aload_n (pc := 0) O dX11_canFlow_0 0 rfl ?_
  refine v_getK (pc := 1) (a := 0) O hm gf_X11_2 fl_X11_39 kq_0 lk_0_2 dX11_canFlow_1 ?_
  refine v_aload_n (pc := 4) O dX11_canFlow_4 0 rfl ?_
  refine v_getR (pc := 5) (a := 0) O gf_X11_9 fl_X11_90 kq_0 dX11_canFlow_5 ?_
  cases z1 with
  | inl e =>
    obtain ⟨c1, h⟩ := if_none h
    subst c1
    obtain rfl := Option.some.inj h
    refine v_call1H (pc := 8) (nu := nu) (K := K) (c := 1) (u := 6) (n := n) (a := 6) (As := [rv (bo X) (dR D 0 9)]) (rest := []) (e := 2) (D' := D1) (hp := 13) O hT hd_X11_canFlow_2 (by decide) (c_X1_check (n := n) (nu := nu) (c := 1) (u := 6) (K := K) hl hm hz0 :) mw_X1_check im_X1_check se_X1_check ml_X11_290 kq_6 (by decide) rfl rfl rfl (by decide) (by decide) (Nat.le_of_ble_eq_true rfl) dX11_canFlow_8 rfl (fun n' q hq => ?_)
    refine v_astore_n (pc := 13) (lv' := [(1, .ref q), (0, .ref (bo X + pp 0))]) O dX11_canFlow_13 rfl (by rw [e3]; decide) rfl ?_
    refine v_iconst (pc := 14) O dX11_canFlow_14 ic_0 ?_
    exact v_zret3 (pc := 15) O narrow_b0 hq dX11_canFlow_15
  | inr r =>
    obtain rfl := Option.some.inj h
    refine v_call1C (pc := 8) (a := 6) (As := [rv (bo X) (dR D 0 9)]) (rest := []) (r := none) (D' := D1) O ⟨by rw [e4]; exact Nat.le_trans (Nat.le_of_eq e4.symm) (Nat.le_trans hT.2.1 (Nat.le_add_right _ _)), by rw [e5]; exact Nat.le_trans (Nat.le_of_eq e5.symm) (Nat.le_trans hT.2.2 (Nat.le_add_right _ _))⟩ (c_X1_check (n := n) (nu := nu) (c := 1) (u := 6) (K := K) hl hm hz0 :) mw_X1_check im_X1_check se_X1_check ml_X11_290 kq_6 (by decide) rfl rfl rfl (by decide) (by decide) (Nat.le_of_ble_eq_true rfl) dX11_canFlow_8 rfl rfl (?_)
    refine v_iconst (pc := 11) O dX11_canFlow_11 ic_1 ?_
    exact v_zret3 (pc := 12) O narrow_b1 (Nat.le_refl _) dX11_canFlow_12)
def f_X11_compile (N nu n : Nat) (K : Nat → Nat) (D : Dat) : Option (Sum Nat Int32 × (Nat → Nat) × Dat) :=
  (f_X2_isSealed D).bind (fun p1 => if p1.1 = 0 then some (.inl 1, K, p1.2) else
   (f_X11_canRead N nu n K 9100 111000 p1.2).bind (fun p2 =>
    (f_X5_forget p2.2.2).bind (fun p3 => if p2.1 = 0 then
       (f_X5_place p3).bind (fun p4 => (f_X11_tell p4.1 8 p4.2).bind (fun p5 => some (.inl 4, p2.2.1, p5)))
     else (f_X11_canFlow N nu p2.2.1 p3).bind (fun p6 => if p6.1 = 0 then
       (f_X1_place p6.2).bind (fun p7 => (f_X11_tell p7.1 9 p7.2).bind (fun p8 => some (.inl 2, p2.2.1, p8)))
      else (f_X8_fits N nu p2.2.1 (dR p6.2 0 9) (dR p6.2 0 11) p6.2).bind (fun p9 => if p9.1 = 0 then (f_X11_tell 64 10 p9.2).bind (fun p10 => some (.inl 3, p2.2.1, p10))
        else (f_X11_tell (-1) (-1) p9.2).bind (fun p11 => (f_X11_takeSpare nu p2.2.1 p11).bind (fun p12 => (dR p12 0 10).bind (fun a => if a = 201 ∨ a = 204 then (f_X0_size a p12).bind (fun p13 => some (.inr p13.1, p2.2.1, p13.2)) else none))))))))
def zi4 (z : Sum Nat Int32 × (Nat → Nat) × Dat) : Sum Nat (Option Value) × (Nat → Nat) × Dat := (match z.1 with | .inl e => .inl e | .inr r => .inr (some (.int r)), z.2)
set_option maxHeartbeats 4000000 in
theorem c_X11_compile {l : Launch} {w : Wx} {N nu n : Nat} {K : Nat → Nat} (hl : l.stackTraces = false) (hm : wlm w = true) {D : Dat} {z : Sum Nat Int32 × (Nat → Nat) × Dat} (h : f_X11_compile N nu n K D = some z) : C4 l w yX11_compile cX11_compile 2 (some .int) 1703 31816 9200 112000 [.ref (wb w + pp 0)] n nu K D (zi4 z) :=
  C4.of hl (by decide) (Nat.le_of_ble_eq_true rfl) (fun X e1 e2 e3 e4 e5 hT O => by
  subst e1
  subst e2
  show V X _ n (Ax nu K 9200 112000) D 0 [(0, .ref (bo X + pp 0))] []
  unfold f_X11_compile at h
  obtain ⟨p1, q1, h⟩ := bind_some h
  refine v_aload_n (pc := 0) O dX11_compile_0 0 rfl ?_
  refine v_getK (pc := 1) (a := 0) O hm gf_X11_0 fl_X11_23 kq_0 lk_0_0 dX11_compile_1 ?_
  refine v_callV (pc := 4) (a := 1) (As := []) (rest := []) (r := (some (.int p1.1))) (D' := p1.2) O (bb2 hT) (c_X2_isSealed hm q1) mw_X2_isSealed im_X2_isSealed se_X2_isSealed ml_X11_117 kq_1 (by decide) rfl rfl rfl (by decide) (by decide) (Nat.le_of_ble_eq_true rfl) dX11_compile_4 rfl rfl ?_
  refine v_ifne (pc := 7) 18 O dX11_compile_7 (by decide) (fun c1 => ?_) (fun c1 => ?_)
  · have h := (if_neg c1).symm.trans h
    obtain ⟨p2, q2, h⟩ := bind_some h
    obtain ⟨p3, q3, h⟩ := bind_some h
    refine v_aload_n (pc := 18) O dX11_compile_18 0 rfl ?_
    refine v_call3V (pc := 19) (a := 0) (As := []) (rest := []) (r := (some (.int p2.1))) (K' := p2.2.1) (D' := p2.2.2) O ⟨hT.2.2.1, hT.2.2.2⟩ ⟨by decide, by decide⟩ (c_X11_canRead (n := n) (nu := nu) hl hm q2) mwh_X11_canRead im_X11_canRead se_X11_canRead ml_X11_175 kq_0 (by decide) rfl rfl rfl (by decide) (by decide) (Nat.le_of_ble_eq_true rfl) dX11_compile_19 rfl rfl (fun n1 g1 => ?_)
    refine v_istore_n (pc := 22) (lv' := [(1, .int p2.1), (0, .ref (bo X + pp 0))]) O dX11_compile_22 rfl (by rw [e3]; decide) rfl ?_
    refine v_aload_n (pc := 23) O dX11_compile_23 1 rfl ?_
    refine v_getK (pc := 24) (a := 0) O hm gf_X11_1 fl_X11_32 kq_0 lk_0_1 dX11_compile_24 ?_
    refine v_callV (pc := 27) (a := 3) (As := []) (rest := []) (r := none) (D' := p3) O (bb2 hT) (c_X5_forget hm q3) mw_X5_forget im_X5_forget se_X5_forget ml_X11_178 kq_3 (by decide) rfl rfl rfl (by decide) (by decide) (Nat.le_of_ble_eq_true rfl) dX11_compile_27 rfl rfl ?_
    refine v_iload_n (pc := 30) O dX11_compile_30 0 rfl ?_
    refine v_ifne (pc := 31) 55 O dX11_compile_31 (by decide) (fun c2 => ?_) (fun c2 => ?_)
    · have h := (if_neg c2).symm.trans h
      obtain ⟨p6, q6, h⟩ := bind_some h
      refine v_aload_n (pc := 55) O dX11_compile_55 1 rfl ?_
      refine v_call3V (pc := 56) (a := 0) (As := []) (rest := []) (r := (some (.int p6.1))) (K' := p2.2.1) (D' := p6.2) O ⟨hT.2.2.1, hT.2.2.2⟩ ⟨by decide, by decide⟩ (c_X11_canFlow (n := n1) (nu := nu) hl hm q6) mwh_X11_canFlow im_X11_canFlow se_X11_canFlow ml_X11_186 kq_0 (by decide) rfl rfl rfl (by decide) (by decide) (Nat.le_of_ble_eq_true rfl) dX11_compile_56 rfl rfl (fun n2 g2 => ?_)
      refine v_ifne (pc := 59) 83 O dX11_compile_59 (by decide) (fun c3 => ?_) (fun c3 => ?_)
      · have h := (if_neg c3).symm.trans h
        obtain ⟨p9, q9, h⟩ := bind_some h
        refine v_aload_n (pc := 83) O dX11_compile_83 1 rfl ?_
        refine v_getK (pc := 84) (a := 0) O hm gf_X11_3 fl_X11_46 kq_0 lk_0_3 dX11_compile_84 ?_
        refine v_aload_n (pc := 87) O dX11_compile_87 1 rfl ?_
        refine v_getR (pc := 88) (a := 0) O gf_X11_9 fl_X11_90 kq_0 dX11_compile_88 ?_
        refine v_aload_n (pc := 91) O dX11_compile_91 1 rfl ?_
        refine v_getR (pc := 92) (a := 0) O gf_X11_11 fl_X11_100 kq_0 dX11_compile_92 ?_
        refine v_callV (pc := 95) (a := 106) (As := [rv (bo X) (dR p6.2 0 9), rv (bo X) (dR p6.2 0 11)]) (rest := []) (r := (some (.int p9.1))) (D' := p9.2) O (bb2 hT) (c_X8_fits hm q9) mw_X8_fits im_X8_fits se_X8_fits ml_X11_190 kq_106 (by decide) rfl rfl rfl (by decide) (by decide) (Nat.le_of_ble_eq_true rfl) dX11_compile_95 rfl rfl ?_
        refine v_ifne (pc := 98) 117 O dX11_compile_98 (by decide) (fun c4 => ?_) (fun c4 => ?_)
        · have h := (if_neg c4).symm.trans h
          obtain ⟨p11, q11, h⟩ := bind_some h
          obtain ⟨p12, q12, h⟩ := bind_some h
          obtain ⟨a, qa, h⟩ := bind_some h
          obtain ⟨ca, h⟩ := if_none h
          obtain ⟨p13, q13, h⟩ := bind_some h
          obtain rfl := Option.some.inj h
          refine v_aload_n (pc := 117) O dX11_compile_117 1 rfl ?_
          refine v_iconst (pc := 118) O dX11_compile_118 ic_m1 ?_
          refine v_iconst (pc := 119) O dX11_compile_119 ic_m1 ?_
          refine v_callV (pc := 120) (a := 0) (As := [.int (-1), .int (-1)]) (rest := []) (r := none) (D' := p11) O (bb2 hT) (c_X11_tell hm q11) mw_X11_tell im_X11_tell se_X11_tell ml_X11_135 kq_0 (by decide) rfl rfl rfl (by decide) (by decide) (Nat.le_of_ble_eq_true rfl) dX11_compile_120 rfl rfl ?_
          refine v_aload_n (pc := 123) O dX11_compile_123 1 rfl ?_
          refine v_callV (pc := 124) (a := 0) (As := []) (rest := []) (r := none) (D' := p12) O (bb2 hT) (c_X11_takeSpare hm q12) mw_X11_takeSpare im_X11_takeSpare se_X11_takeSpare ml_X11_194 kq_0 (by decide) rfl rfl rfl (by decide) (by decide) (Nat.le_of_ble_eq_true rfl) dX11_compile_124 rfl rfl ?_
          refine v_aload_n (pc := 127) O dX11_compile_127 1 rfl ?_
          refine v_getR (pc := 128) (a := 0) O gf_X11_10 fl_X11_96 kq_0 dX11_compile_128 ?_
          rw [qa]
          refine v_callV (pc := 131) (a := a) (As := []) (rest := []) (r := (some (.int p13.1))) (D' := p13.2) O (bb2 hT) (c_X0_size hm ca q13) mw_X0_size im_X0_size se_X0_size ml_X11_197 (kt_X0 ca) (by decide) rfl rfl rfl (by decide) (by decide) (Nat.le_of_ble_eq_true rfl) dX11_compile_131 rfl rfl ?_
          exact v_iret4 (pc := 134) O (Nat.le_trans g1 g2) dX11_compile_134
        · have h := (if_pos c4).symm.trans h
          obtain ⟨p10, q10, h⟩ := bind_some h
          obtain rfl := Option.some.inj h
          refine v_aload_n (pc := 101) O dX11_compile_101 1 rfl ?_
          refine v_bipush (pc := 102) O dX11_compile_102 bp_64 ?_
          refine v_bipush (pc := 104) O dX11_compile_104 bp_10 ?_
          refine v_callV (pc := 106) (a := 0) (As := [.int 64, .int 10]) (rest := []) (r := none) (D' := p10) O (bb2 hT) (c_X11_tell hm q10) mw_X11_tell im_X11_tell se_X11_tell ml_X11_135 kq_0 (by decide) rfl rfl rfl (by decide) (by decide) (Nat.le_of_ble_eq_true rfl) dX11_compile_106 rfl rfl ?_
          exact v_throw4 (pc := 109) (e := 3) O hT ⟨by decide, by decide⟩ (Nat.le_trans g1 g2) rfl tw_X11_168_170 (by decide) (Nat.le_of_ble_eq_true rfl) dX11_compile_109 dX11_compile_112 dX11_compile_113 dX11_compile_116
      · have h := (if_pos c3).symm.trans h
        obtain ⟨p7, q7, h⟩ := bind_some h
        obtain ⟨p8, q8, h⟩ := bind_some h
        obtain rfl := Option.some.inj h
        refine v_aload_n (pc := 62) O dX11_compile_62 1 rfl ?_
        refine v_aload_n (pc := 63) O dX11_compile_63 1 rfl ?_
        refine v_getK (pc := 64) (a := 0) O hm gf_X11_2 fl_X11_39 kq_0 lk_0_2 dX11_compile_64 ?_
        refine v_callV (pc := 67) (a := 6) (As := []) (rest := [.ref (bo X + pp 0)]) (r := (some (.int p7.1))) (D' := p7.2) O (bb2 hT) (c_X1_place hm q7) mw_X1_place im_X1_place se_X1_place ml_X11_189 kq_6 (by decide) rfl rfl rfl (by decide) (by decide) (Nat.le_of_ble_eq_true rfl) dX11_compile_67 rfl rfl ?_
        refine v_bipush (pc := 70) O dX11_compile_70 bp_9 ?_
        refine v_callV (pc := 72) (a := 0) (As := [.int p7.1, .int 9]) (rest := []) (r := none) (D' := p8) O (bb2 hT) (c_X11_tell hm q8) mw_X11_tell im_X11_tell se_X11_tell ml_X11_135 kq_0 (by decide) rfl rfl rfl (by decide) (by decide) (Nat.le_of_ble_eq_true rfl) dX11_compile_72 rfl rfl ?_
        exact v_throw4 (pc := 75) (e := 2) O hT ⟨by decide, by decide⟩ (Nat.le_trans g1 g2) rfl tw_X11_138_140 (by decide) (Nat.le_of_ble_eq_true rfl) dX11_compile_75 dX11_compile_78 dX11_compile_79 dX11_compile_82
    · have h := (if_pos c2).symm.trans h
      obtain ⟨p4, q4, h⟩ := bind_some h
      obtain ⟨p5, q5, h⟩ := bind_some h
      obtain rfl := Option.some.inj h
      refine v_aload_n (pc := 34) O dX11_compile_34 1 rfl ?_
      refine v_aload_n (pc := 35) O dX11_compile_35 1 rfl ?_
      refine v_getK (pc := 36) (a := 0) O hm gf_X11_1 fl_X11_32 kq_0 lk_0_1 dX11_compile_36 ?_
      refine v_callV (pc := 39) (a := 3) (As := []) (rest := [.ref (bo X + pp 0)]) (r := (some (.int p4.1))) (D' := p4.2) O (bb2 hT) (c_X5_place hm q4) mw_X5_place im_X5_place se_X5_place ml_X11_181 kq_3 (by decide) rfl rfl rfl (by decide) (by decide) (Nat.le_of_ble_eq_true rfl) dX11_compile_39 rfl rfl ?_
      refine v_bipush (pc := 42) O dX11_compile_42 bp_8 ?_
      refine v_callV (pc := 44) (a := 0) (As := [.int p4.1, .int 8]) (rest := []) (r := none) (D' := p5) O (bb2 hT) (c_X11_tell hm q5) mw_X11_tell im_X11_tell se_X11_tell ml_X11_135 kq_0 (by decide) rfl rfl rfl (by decide) (by decide) (Nat.le_of_ble_eq_true rfl) dX11_compile_44 rfl rfl ?_
      exact v_throw4 (pc := 47) (e := 4) O hT ⟨by decide, by decide⟩ g1 rfl tw_X11_183_185 (by decide) (Nat.le_of_ble_eq_true rfl) dX11_compile_47 dX11_compile_50 dX11_compile_51 dX11_compile_54
  · have h := (if_pos c1).symm.trans h
    obtain rfl := Option.some.inj h
    exact v_throw4 (pc := 10) (e := 1) O hT ⟨by decide, by decide⟩ (Nat.le_refl _) rfl tw_X11_121_123 (by decide) (Nat.le_of_ble_eq_true rfl) dX11_compile_10 dX11_compile_13 dX11_compile_14 dX11_compile_17)
def hhL_below : Hh := [(0, 10, 13, 13), (0, 10, 17, 15)]
theorem cwh_L_below : Cond.codeWith yL_below cL_below 5 (some .int) hhL_below ∈ tb := tb_of 568 (by decide +kernel) (by decide +kernel)
theorem mwh_L_below : MWh yL_below cL_below 5 (some .int) hhL_below 4 := ⟨cwh_L_below, ini_L, by decide +kernel⟩
theorem hd_L_below_0 : HdP RL hhL_below 5 0 13 := ⟨[], [(0, 10, 17, 15)], (0, 10, 13, 13), "java/lang/IllegalArgumentException", rfl, rfl, fun _ h => absurd h List.not_mem_nil, by decide, by decide, by decide, cn_L_13, rfl⟩
theorem hd_L_below_1 : HdP RL hhL_below 5 1 17 := ⟨[(0, 10, 13, 13)], [], (0, 10, 17, 15), "java/lang/IllegalStateException", rfl, rfl, List.forall_mem_cons.mpr ⟨⟨by decide, "java/lang/IllegalArgumentException", by decide, by decide, cn_L_13⟩, fun _ h => absurd h List.not_mem_nil⟩, by decide, by decide, by decide, cn_L_15, rfl⟩
def f_L_below (N nu : Nat) (K : Nat → Nat) (x1 : Int32) (x2 : Int32) (D : Dat) : Option (Int32 × Dat) :=
  (f_X11_below N nu K x1 x2 D).bind (fun z => match z.1 with | .inr r => some (0, sL z.2 262 (0 : Int32).toNatClampNeg r.toInt64) | .inl e => if e = 0 then some (1, z.2) else if e = 1 then some (2, z.2) else none)
set_option maxHeartbeats 4000000 in
theorem c_L_below {l : Launch} {w : Wx} {N nu n : Nat} {K : Nat → Nat} (hl : l.stackTraces = false) (hm : wlm w = true) {x1 : Int32} {x2 : Int32} {D : Dat} {z : Int32 × Dat} (h : f_L_below N nu K x1 x2 D = some z) : C3 l w yL_below cL_below 5 (some .int) hhL_below 7 122 1 6 [.ref (wb w + pp 0), .int x1, .int x2, .ref (wb w + pp 262)] n nu K D (some (.int z.1)) K z.2 :=
  C3.of (by decide) (Nat.le_of_ble_eq_true rfl) (fun X e1 e2 e3 e4 e5 hT O => by
  subst e1
  subst e2
  show V X _ n (Ax nu K 1 6) D 0 [(0, .ref (bo X + pp 0)), (1, .int x1), (2, .int x2), (3, .ref (bo X + pp 262))] []
  unfold f_L_below at h
  obtain ⟨z0, hz0, h⟩ := bind_some h
  obtain ⟨z1, D1⟩ := z0
  refine v_aload_n (pc := 0) O dL_below_0 3 rfl ?_
  refine v_iconst (pc := 1) O dL_below_1 ic_0 ?_
  refine v_aload_n (pc := 2) O dL_below_2 0 rfl ?_
  refine v_iload_n (pc := 3) O dL_below_3 1 rfl ?_
  refine v_iload_n (pc := 4) O dL_below_4 2 rfl ?_
  cases z1 with
  | inl e =>
    by_cases g0 : e = 0
    · have h := (if_pos g0).symm.trans h
      subst g0
      obtain rfl := Option.some.inj h
      refine v_call1H (pc := 5) (n := n) (nu := nu) (K := K) (c := 1) (u := 6) (a := 0) (As := [.int x1, .int x2]) (rest := [.int 0, .ref (bo X + pp 262)]) (e := 0) (D' := D1) (hp := 13) O hT hd_L_below_0 ⟨by decide, by decide⟩ (c_X11_below (n := n) (nu := nu) (c := 1) (u := 6) (K := K) hl hm hz0 :) mw_X11_below im_X11_below se_X11_below ml_L_7 kq_0 (by decide) rfl rfl rfl (by decide) (by decide) (Nat.le_of_ble_eq_true rfl) dL_below_5 rfl (fun n' q hq => ?_)
      refine v_astore (pc := 13) (lv' := [(4, .ref q), (0, .ref (bo X + pp 0)), (1, .int x1), (2, .int x2), (3, .ref (bo X + pp 262))]) O dL_below_13 (by rw [e3]; decide) rfl ?_
      refine v_iconst (pc := 15) O dL_below_15 ic_1 ?_
      exact v_iret3 (pc := 16) O hq dL_below_16
    · have h := (if_neg g0).symm.trans h
      by_cases g1 : e = 1
      · have h := (if_pos g1).symm.trans h
        subst g1
        obtain rfl := Option.some.inj h
        refine v_call1H (pc := 5) (n := n) (nu := nu) (K := K) (c := 1) (u := 6) (a := 0) (As := [.int x1, .int x2]) (rest := [.int 0, .ref (bo X + pp 262)]) (e := 1) (D' := D1) (hp := 17) O hT hd_L_below_1 ⟨by decide, by decide⟩ (c_X11_below (n := n) (nu := nu) (c := 1) (u := 6) (K := K) hl hm hz0 :) mw_X11_below im_X11_below se_X11_below ml_L_7 kq_0 (by decide) rfl rfl rfl (by decide) (by decide) (Nat.le_of_ble_eq_true rfl) dL_below_5 rfl (fun n' q hq => ?_)
        refine v_astore (pc := 17) (lv' := [(4, .ref q), (0, .ref (bo X + pp 0)), (1, .int x1), (2, .int x2), (3, .ref (bo X + pp 262))]) O dL_below_17 (by rw [e3]; decide) rfl ?_
        refine v_iconst (pc := 19) O dL_below_19 ic_2 ?_
        exact v_iret3 (pc := 20) O hq dL_below_20
      · have h := (if_neg g1).symm.trans h
        cases h
  | inr r =>
    obtain rfl := Option.some.inj h
    refine v_call1C (pc := 5) (a := 0) (As := [.int x1, .int x2]) (rest := [.int 0, .ref (bo X + pp 262)]) (r := some (.int r)) (D' := D1) O ⟨Nat.le_trans hT.2.1 (Nat.le_add_right _ _), Nat.le_trans hT.2.2 (Nat.le_add_right _ _)⟩ (c_X11_below (n := n) (nu := nu) (c := 1) (u := 6) (K := K) hl hm hz0 :) mw_X11_below im_X11_below se_X11_below ml_L_7 kq_0 (by decide) rfl rfl rfl (by decide) (by decide) (Nat.le_of_ble_eq_true rfl) dL_below_5 rfl rfl ?_
    refine v_i2l (pc := 8) O dL_below_8 ?_
    refine v_last (pc := 9) (a := 262) O kq_262 (inq lq_262 (by decide)) dL_below_9 ?_
    refine v_goto (pc := 10) 21 O dL_below_10 (by decide) ?_
    refine v_iconst (pc := 21) O dL_below_21 ic_0 ?_
    exact v_iret3 (pc := 22) O (Nat.le_refl _) dL_below_22)
def hhL_seal : Hh := [(0, 8, 11, 15), (0, 8, 14, 21)]
theorem cwh_L_seal : Cond.codeWith yL_seal cL_seal 3 (some .int) hhL_seal ∈ tb := tb_of 684 (by decide +kernel) (by decide +kernel)
theorem mwh_L_seal : MWh yL_seal cL_seal 3 (some .int) hhL_seal 2 := ⟨cwh_L_seal, ini_L, by decide +kernel⟩
theorem hd_L_seal_1 : HdP RL hhL_seal 3 1 11 := ⟨[], [(0, 8, 14, 21)], (0, 8, 11, 15), "java/lang/IllegalStateException", rfl, rfl, fun _ h => absurd h List.not_mem_nil, by decide, by decide, by decide, cn_L_15, rfl⟩
theorem hd_L_seal_2 : HdP RL hhL_seal 3 2 14 := ⟨[(0, 8, 11, 15)], [], (0, 8, 14, 21), "java/lang/UnsupportedOperationException", rfl, rfl, List.forall_mem_cons.mpr ⟨⟨by decide, "java/lang/IllegalStateException", by decide, by decide, cn_L_15⟩, fun _ h => absurd h List.not_mem_nil⟩, by decide, by decide, by decide, cn_L_21, rfl⟩
def f_L_seal (N nu : Nat) (K : Nat → Nat) (D : Dat) : Option (Int32 × Dat) :=
  (f_X11_seal N nu K D).bind (fun z => match z.1 with | .inr r => some (0, sL z.2 262 (0 : Int32).toNatClampNeg r.toInt64) | .inl e => if e = 1 then some (1, z.2) else if e = 2 then some (2, z.2) else none)
set_option maxHeartbeats 4000000 in
theorem c_L_seal {l : Launch} {w : Wx} {N nu n : Nat} {K : Nat → Nat} (hl : l.stackTraces = false) (hm : wlm w = true) {D : Dat} {z : Int32 × Dat} (h : f_L_seal N nu K D = some z) : C3 l w yL_seal cL_seal 3 (some .int) hhL_seal 7 135 1 6 [.ref (wb w + pp 0), .ref (wb w + pp 262)] n nu K D (some (.int z.1)) K z.2 :=
  C3.of (by decide) (Nat.le_of_ble_eq_true rfl) (fun X e1 e2 e3 e4 e5 hT O => by
  subst e1
  subst e2
  show V X _ n (Ax nu K 1 6) D 0 [(0, .ref (bo X + pp 0)), (1, .ref (bo X + pp 262))] []
  unfold f_L_seal at h
  obtain ⟨z0, hz0, h⟩ := bind_some h
  obtain ⟨z1, D1⟩ := z0
  refine v_aload_n (pc := 0) O dL_seal_0 1 rfl ?_
  refine v_iconst (pc := 1) O dL_seal_1 ic_0 ?_
  refine v_aload_n (pc := 2) O dL_seal_2 0 rfl ?_
  cases z1 with
  | inl e =>
    by_cases g0 : e = 1
    · have h := (if_pos g0).symm.trans h
      subst g0
      obtain rfl := Option.some.inj h
      refine v_call1H (pc := 3) (n := n) (nu := nu) (K := K) (c := 1) (u := 6) (a := 0) (As := []) (rest := [.int 0, .ref (bo X + pp 262)]) (e := 1) (D' := D1) (hp := 11) O hT hd_L_seal_1 ⟨by decide, by decide⟩ (c_X11_seal (n := n) (nu := nu) (c := 1) (u := 6) (K := K) hl hm hz0 :) mw_X11_seal im_X11_seal se_X11_seal ml_L_17 kq_0 (by decide) rfl rfl rfl (by decide) (by decide) (Nat.le_of_ble_eq_true rfl) dL_seal_3 rfl (fun n' q hq => ?_)
      refine v_astore_n (pc := 11) (lv' := [(2, .ref q), (0, .ref (bo X + pp 0)), (1, .ref (bo X + pp 262))]) O dL_seal_11 rfl (by rw [e3]; decide) rfl ?_
      refine v_iconst (pc := 12) O dL_seal_12 ic_1 ?_
      exact v_iret3 (pc := 13) O hq dL_seal_13
    · have h := (if_neg g0).symm.trans h
      by_cases g1 : e = 2
      · have h := (if_pos g1).symm.trans h
        subst g1
        obtain rfl := Option.some.inj h
        refine v_call1H (pc := 3) (n := n) (nu := nu) (K := K) (c := 1) (u := 6) (a := 0) (As := []) (rest := [.int 0, .ref (bo X + pp 262)]) (e := 2) (D' := D1) (hp := 14) O hT hd_L_seal_2 ⟨by decide, by decide⟩ (c_X11_seal (n := n) (nu := nu) (c := 1) (u := 6) (K := K) hl hm hz0 :) mw_X11_seal im_X11_seal se_X11_seal ml_L_17 kq_0 (by decide) rfl rfl rfl (by decide) (by decide) (Nat.le_of_ble_eq_true rfl) dL_seal_3 rfl (fun n' q hq => ?_)
        refine v_astore_n (pc := 14) (lv' := [(2, .ref q), (0, .ref (bo X + pp 0)), (1, .ref (bo X + pp 262))]) O dL_seal_14 rfl (by rw [e3]; decide) rfl ?_
        refine v_iconst (pc := 15) O dL_seal_15 ic_2 ?_
        exact v_iret3 (pc := 16) O hq dL_seal_16
      · have h := (if_neg g1).symm.trans h
        cases h
  | inr r =>
    obtain rfl := Option.some.inj h
    refine v_call1C (pc := 3) (a := 0) (As := []) (rest := [.int 0, .ref (bo X + pp 262)]) (r := some (.int r)) (D' := D1) O ⟨Nat.le_trans hT.2.1 (Nat.le_add_right _ _), Nat.le_trans hT.2.2 (Nat.le_add_right _ _)⟩ (c_X11_seal (n := n) (nu := nu) (c := 1) (u := 6) (K := K) hl hm hz0 :) mw_X11_seal im_X11_seal se_X11_seal ml_L_17 kq_0 (by decide) rfl rfl rfl (by decide) (by decide) (Nat.le_of_ble_eq_true rfl) dL_seal_3 rfl rfl ?_
    refine v_i2l (pc := 6) O dL_seal_6 ?_
    refine v_last (pc := 7) (a := 262) O kq_262 (inq lq_262 (by decide)) dL_seal_7 ?_
    refine v_goto (pc := 8) 17 O dL_seal_8 (by decide) ?_
    refine v_iconst (pc := 17) O dL_seal_17 ic_0 ?_
    exact v_iret3 (pc := 18) O (Nat.le_refl _) dL_seal_18)
def hhL_label : Hh := [(0, 12, 15, 13), (0, 12, 19, 15)]
theorem cwh_L_label : Cond.codeWith yL_label cL_label 6 (some .int) hhL_label ∈ tb := tb_of 739 (by decide +kernel) (by decide +kernel)
theorem mwh_L_label : MWh yL_label cL_label 6 (some .int) hhL_label 5 := ⟨cwh_L_label, ini_L, by decide +kernel⟩
theorem hd_L_label_0 : HdP RL hhL_label 7 0 15 := ⟨[], [(0, 12, 19, 15)], (0, 12, 15, 13), "java/lang/IllegalArgumentException", rfl, rfl, fun _ h => absurd h List.not_mem_nil, by decide, by decide, by decide, cn_L_13, rfl⟩
theorem hd_L_label_1 : HdP RL hhL_label 7 1 19 := ⟨[(0, 12, 15, 13)], [], (0, 12, 19, 15), "java/lang/IllegalStateException", rfl, rfl, List.forall_mem_cons.mpr ⟨⟨by decide, "java/lang/IllegalArgumentException", by decide, by decide, cn_L_13⟩, fun _ h => absurd h List.not_mem_nil⟩, by decide, by decide, by decide, cn_L_15, rfl⟩
def f_L_label (N nu : Nat) (K : Nat → Nat) (x1 : Int32) (x2 : Int32) (x3 : Int32) (D : Dat) : Option (Int32 × Dat) :=
  (f_X11_label N nu K x1 x2 x3 D).bind (fun z => match z.1 with | .inr r => some (0, sL z.2 262 (0 : Int32).toNatClampNeg r.toInt64) | .inl e => if e = 0 then some (1, z.2) else if e = 1 then some (2, z.2) else none)
set_option maxHeartbeats 4000000 in
theorem c_L_label {l : Launch} {w : Wx} {N nu n : Nat} {K : Nat → Nat} (hl : l.stackTraces = false) (hm : wlm w = true) {x1 : Int32} {x2 : Int32} {x3 : Int32} {D : Dat} {z : Int32 × Dat} (h : f_L_label N nu K x1 x2 x3 D = some z) : C3 l w yL_label cL_label 6 (some .int) hhL_label 7 123 1 6 [.ref (wb w + pp 0), .int x1, .int x2, .int x3, .ref (wb w + pp 262)] n nu K D (some (.int z.1)) K z.2 :=
  C3.of (by decide) (Nat.le_of_ble_eq_true rfl) (fun X e1 e2 e3 e4 e5 hT O => by
  subst e1
  subst e2
  show V X _ n (Ax nu K 1 6) D 0 [(0, .ref (bo X + pp 0)), (1, .int x1), (2, .int x2), (3, .int x3), (4, .ref (bo X + pp 262))] []
  unfold f_L_label at h
  obtain ⟨z0, hz0, h⟩ := bind_some h
  obtain ⟨z1, D1⟩ := z0
  refine v_aload (pc := 0) O dL_label_0 4 rfl ?_
  refine v_iconst (pc := 2) O dL_label_2 ic_0 ?_
  refine v_aload_n (pc := 3) O dL_label_3 0 rfl ?_
  refine v_iload_n (pc := 4) O dL_label_4 1 rfl ?_
  refine v_iload_n (pc := 5) O dL_label_5 2 rfl ?_
  refine v_iload_n (pc := 6) O dL_label_6 3 rfl ?_
  cases z1 with
  | inl e =>
    by_cases g0 : e = 0
    · have h := (if_pos g0).symm.trans h
      subst g0
      obtain rfl := Option.some.inj h
      refine v_call1H (pc := 7) (n := n) (nu := nu) (K := K) (c := 1) (u := 6) (a := 0) (As := [.int x1, .int x2, .int x3]) (rest := [.int 0, .ref (bo X + pp 262)]) (e := 0) (D' := D1) (hp := 15) O hT hd_L_label_0 ⟨by decide, by decide⟩ (c_X11_label (n := n) (nu := nu) (c := 1) (u := 6) (K := K) hl hm hz0 :) mw_X11_label im_X11_label se_X11_label ml_L_23 kq_0 (by decide) rfl rfl rfl (by decide) (by decide) (Nat.le_of_ble_eq_true rfl) dL_label_7 rfl (fun n' q hq => ?_)
      refine v_astore (pc := 15) (lv' := [(5, .ref q), (0, .ref (bo X + pp 0)), (1, .int x1), (2, .int x2), (3, .int x3), (4, .ref (bo X + pp 262))]) O dL_label_15 (by rw [e3]; decide) rfl ?_
      refine v_iconst (pc := 17) O dL_label_17 ic_1 ?_
      exact v_iret3 (pc := 18) O hq dL_label_18
    · have h := (if_neg g0).symm.trans h
      by_cases g1 : e = 1
      · have h := (if_pos g1).symm.trans h
        subst g1
        obtain rfl := Option.some.inj h
        refine v_call1H (pc := 7) (n := n) (nu := nu) (K := K) (c := 1) (u := 6) (a := 0) (As := [.int x1, .int x2, .int x3]) (rest := [.int 0, .ref (bo X + pp 262)]) (e := 1) (D' := D1) (hp := 19) O hT hd_L_label_1 ⟨by decide, by decide⟩ (c_X11_label (n := n) (nu := nu) (c := 1) (u := 6) (K := K) hl hm hz0 :) mw_X11_label im_X11_label se_X11_label ml_L_23 kq_0 (by decide) rfl rfl rfl (by decide) (by decide) (Nat.le_of_ble_eq_true rfl) dL_label_7 rfl (fun n' q hq => ?_)
        refine v_astore (pc := 19) (lv' := [(5, .ref q), (0, .ref (bo X + pp 0)), (1, .int x1), (2, .int x2), (3, .int x3), (4, .ref (bo X + pp 262))]) O dL_label_19 (by rw [e3]; decide) rfl ?_
        refine v_iconst (pc := 21) O dL_label_21 ic_2 ?_
        exact v_iret3 (pc := 22) O hq dL_label_22
      · have h := (if_neg g1).symm.trans h
        cases h
  | inr r =>
    obtain rfl := Option.some.inj h
    refine v_call1C (pc := 7) (a := 0) (As := [.int x1, .int x2, .int x3]) (rest := [.int 0, .ref (bo X + pp 262)]) (r := some (.int r)) (D' := D1) O ⟨Nat.le_trans hT.2.1 (Nat.le_add_right _ _), Nat.le_trans hT.2.2 (Nat.le_add_right _ _)⟩ (c_X11_label (n := n) (nu := nu) (c := 1) (u := 6) (K := K) hl hm hz0 :) mw_X11_label im_X11_label se_X11_label ml_L_23 kq_0 (by decide) rfl rfl rfl (by decide) (by decide) (Nat.le_of_ble_eq_true rfl) dL_label_7 rfl rfl ?_
    refine v_i2l (pc := 10) O dL_label_10 ?_
    refine v_last (pc := 11) (a := 262) O kq_262 (inq lq_262 (by decide)) dL_label_11 ?_
    refine v_goto (pc := 12) 23 O dL_label_12 (by decide) ?_
    refine v_iconst (pc := 23) O dL_label_23 ic_0 ?_
    exact v_iret3 (pc := 24) O (Nat.le_refl _) dL_label_24)
def hhL_append : Hh := [(0, 11, 14, 13), (0, 11, 18, 31)]
theorem cwh_L_append : Cond.codeWith yL_append cL_append 6 (some .int) hhL_append ∈ tb := tb_of 752 (by decide +kernel) (by decide +kernel)
theorem mwh_L_append : MWh yL_append cL_append 6 (some .int) hhL_append 4 := ⟨cwh_L_append, ini_L, by decide +kernel⟩
theorem hd_L_append_0 : HdP RL hhL_append 6 0 14 := ⟨[], [(0, 11, 18, 31)], (0, 11, 14, 13), "java/lang/IllegalArgumentException", rfl, rfl, fun _ h => absurd h List.not_mem_nil, by decide, by decide, by decide, cn_L_13, rfl⟩
theorem hd_L_append_3 : HdP RL hhL_append 6 3 18 := ⟨[(0, 11, 14, 13)], [], (0, 11, 18, 31), "java/lang/IndexOutOfBoundsException", rfl, rfl, List.forall_mem_cons.mpr ⟨⟨by decide, "java/lang/IllegalArgumentException", by decide, by decide, cn_L_13⟩, fun _ h => absurd h List.not_mem_nil⟩, by decide, by decide, by decide, cn_L_31, rfl⟩
def f_L_append (N nu : Nat) (K : Nat → Nat) (x1 : Int64) (x3 : Int32) (D : Dat) : Option (Int32 × Dat) :=
  (f_X11_append N x1 x3 D).bind (fun z => match z.1 with | .inr r => some (0, sL z.2 262 (0 : Int32).toNatClampNeg r.toInt64) | .inl e => if e = 0 then some (1, z.2) else if e = 3 then some (2, z.2) else none)
set_option maxHeartbeats 4000000 in
theorem c_L_append {l : Launch} {w : Wx} {N nu n : Nat} {K : Nat → Nat} (hl : l.stackTraces = false) (hm : wlm w = true) {x1 : Int64} {x3 : Int32} {D : Dat} {z : Int32 × Dat} (h : f_L_append N nu K x1 x3 D = some z) : C3 l w yL_append cL_append 6 (some .int) hhL_append 7 123 1 6 [.ref (wb w + pp 0), .long x1, .int x3, .ref (wb w + pp 262)] n nu K D (some (.int z.1)) K z.2 :=
  C3.of (by decide) (Nat.le_of_ble_eq_true rfl) (fun X e1 e2 e3 e4 e5 hT O => by
  subst e1
  subst e2
  show V X _ n (Ax nu K 1 6) D 0 [(0, .ref (bo X + pp 0)), (1, .long x1), (3, .int x3), (4, .ref (bo X + pp 262))] []
  unfold f_L_append at h
  obtain ⟨z0, hz0, h⟩ := bind_some h
  obtain ⟨z1, D1⟩ := z0
  refine v_aload (pc := 0) O dL_append_0 3 rfl ?_
  refine v_iconst (pc := 2) O dL_append_2 ic_0 ?_
  refine v_aload_n (pc := 3) O dL_append_3 0 rfl ?_
  refine v_lload_n (pc := 4) O dL_append_4 1 rfl ?_
  refine v_iload_n (pc := 5) O dL_append_5 2 rfl ?_
  cases z1 with
  | inl e =>
    by_cases g0 : e = 0
    · have h := (if_pos g0).symm.trans h
      subst g0
      obtain rfl := Option.some.inj h
      refine v_call1H (pc := 6) (n := n) (nu := nu) (K := K) (c := 1) (u := 6) (a := 0) (As := [.long x1, .int x3]) (rest := [.int 0, .ref (bo X + pp 262)]) (e := 0) (D' := D1) (hp := 14) O hT hd_L_append_0 ⟨by decide, by decide⟩ (c_X11_append (n := n) (nu := nu) (c := 1) (u := 6) (K := K) hl hm hz0 :) mw_X11_append im_X11_append se_X11_append ml_L_27 kq_0 (by decide) rfl rfl rfl (by decide) (by decide) (Nat.le_of_ble_eq_true rfl) dL_append_6 rfl (fun n' q hq => ?_)
      refine v_astore (pc := 14) (lv' := [(5, .ref q), (0, .ref (bo X + pp 0)), (1, .long x1), (3, .int x3), (4, .ref (bo X + pp 262))]) O dL_append_14 (by rw [e3]; decide) rfl ?_
      refine v_iconst (pc := 16) O dL_append_16 ic_1 ?_
      exact v_iret3 (pc := 17) O hq dL_append_17
    · have h := (if_neg g0).symm.trans h
      by_cases g1 : e = 3
      · have h := (if_pos g1).symm.trans h
        subst g1
        obtain rfl := Option.some.inj h
        refine v_call1H (pc := 6) (n := n) (nu := nu) (K := K) (c := 1) (u := 6) (a := 0) (As := [.long x1, .int x3]) (rest := [.int 0, .ref (bo X + pp 262)]) (e := 3) (D' := D1) (hp := 18) O hT hd_L_append_3 ⟨by decide, by decide⟩ (c_X11_append (n := n) (nu := nu) (c := 1) (u := 6) (K := K) hl hm hz0 :) mw_X11_append im_X11_append se_X11_append ml_L_27 kq_0 (by decide) rfl rfl rfl (by decide) (by decide) (Nat.le_of_ble_eq_true rfl) dL_append_6 rfl (fun n' q hq => ?_)
        refine v_astore (pc := 18) (lv' := [(5, .ref q), (0, .ref (bo X + pp 0)), (1, .long x1), (3, .int x3), (4, .ref (bo X + pp 262))]) O dL_append_18 (by rw [e3]; decide) rfl ?_
        refine v_iconst (pc := 20) O dL_append_20 ic_2 ?_
        exact v_iret3 (pc := 21) O hq dL_append_21
      · have h := (if_neg g1).symm.trans h
        cases h
  | inr r =>
    obtain rfl := Option.some.inj h
    refine v_call1C (pc := 6) (a := 0) (As := [.long x1, .int x3]) (rest := [.int 0, .ref (bo X + pp 262)]) (r := some (.int r)) (D' := D1) O ⟨Nat.le_trans hT.2.1 (Nat.le_add_right _ _), Nat.le_trans hT.2.2 (Nat.le_add_right _ _)⟩ (c_X11_append (n := n) (nu := nu) (c := 1) (u := 6) (K := K) hl hm hz0 :) mw_X11_append im_X11_append se_X11_append ml_L_27 kq_0 (by decide) rfl rfl rfl (by decide) (by decide) (Nat.le_of_ble_eq_true rfl) dL_append_6 rfl rfl ?_
    refine v_i2l (pc := 9) O dL_append_9 ?_
    refine v_last (pc := 10) (a := 262) O kq_262 (inq lq_262 (by decide)) dL_append_10 ?_
    refine v_goto (pc := 11) 22 O dL_append_11 (by decide) ?_
    refine v_iconst (pc := 22) O dL_append_22 ic_0 ?_
    exact v_iret3 (pc := 23) O (Nat.le_refl _) dL_append_23)
def hhL_compile : Hh := [(0, 8, 11, 15), (0, 8, 14, 36), (0, 8, 17, 21), (0, 8, 20, 31)]
theorem cwh_L_compile : Cond.codeWith yL_compile cL_compile 3 (some .int) hhL_compile ∈ tb := tb_of 789 (by decide +kernel) (by decide +kernel)
theorem mwh_L_compile : MWh yL_compile cL_compile 3 (some .int) hhL_compile 2 := ⟨cwh_L_compile, ini_L, by decide +kernel⟩
theorem hd_L_compile_1 : HdP RL hhL_compile 3 1 11 := ⟨[], [(0, 8, 14, 36), (0, 8, 17, 21), (0, 8, 20, 31)], (0, 8, 11, 15), "java/lang/IllegalStateException", rfl, rfl, fun _ h => absurd h List.not_mem_nil, by decide, by decide, by decide, cn_L_15, rfl⟩
theorem hd_L_compile_4 : HdP RL hhL_compile 3 4 14 := ⟨[(0, 8, 11, 15)], [(0, 8, 17, 21), (0, 8, 20, 31)], (0, 8, 14, 36), "java/util/NoSuchElementException", rfl, rfl, List.forall_mem_cons.mpr ⟨⟨by decide, "java/lang/IllegalStateException", by decide, by decide, cn_L_15⟩, fun _ h => absurd h List.not_mem_nil⟩, by decide, by decide, by decide, cn_L_36, rfl⟩
theorem hd_L_compile_2 : HdP RL hhL_compile 3 2 17 := ⟨[(0, 8, 11, 15), (0, 8, 14, 36)], [(0, 8, 20, 31)], (0, 8, 17, 21), "java/lang/UnsupportedOperationException", rfl, rfl, List.forall_mem_cons.mpr ⟨⟨by decide, "java/lang/IllegalStateException", by decide, by decide, cn_L_15⟩, List.forall_mem_cons.mpr ⟨⟨by decide, "java/util/NoSuchElementException", by decide, by decide, cn_L_36⟩, fun _ h => absurd h List.not_mem_nil⟩⟩, by decide, by decide, by decide, cn_L_21, rfl⟩
theorem hd_L_compile_3 : HdP RL hhL_compile 3 3 20 := ⟨[(0, 8, 11, 15), (0, 8, 14, 36), (0, 8, 17, 21)], [], (0, 8, 20, 31), "java/lang/IndexOutOfBoundsException", rfl, rfl, List.forall_mem_cons.mpr ⟨⟨by decide, "java/lang/IllegalStateException", by decide, by decide, cn_L_15⟩, List.forall_mem_cons.mpr ⟨⟨by decide, "java/util/NoSuchElementException", by decide, by decide, cn_L_36⟩, List.forall_mem_cons.mpr ⟨⟨by decide, "java/lang/UnsupportedOperationException", by decide, by decide, cn_L_21⟩, fun _ h => absurd h List.not_mem_nil⟩⟩⟩, by decide, by decide, by decide, cn_L_31, rfl⟩
def f_L_compile (N nu n : Nat) (K : Nat → Nat) (D : Dat) : Option (Int32 × (Nat → Nat) × Dat) :=
  (f_X11_compile N nu n K D).bind (fun z => match z.1 with | .inr r => some (0, z.2.1, sL z.2.2 262 (0 : Int32).toNatClampNeg r.toInt64) | .inl e => if e = 1 then some (1, z.2.1, z.2.2) else if e = 4 then some (2, z.2.1, z.2.2) else if e = 2 then some (3, z.2.1, z.2.2) else if e = 3 then some (4, z.2.1, z.2.2) else none)
set_option maxHeartbeats 4000000 in
theorem c_L_compile {l : Launch} {w : Wx} {N nu n : Nat} {K : Nat → Nat} (hl : l.stackTraces = false) (hm : wlm w = true) {D : Dat} {z : Int32 × (Nat → Nat) × Dat} (h : f_L_compile N nu n K D = some z) : C3 l w yL_compile cL_compile 3 (some .int) hhL_compile 1704 31837 9200 112000 [.ref (wb w + pp 0), .ref (wb w + pp 262)] n nu K D (some (.int z.1)) z.2.1 z.2.2 :=
  C3.of (by decide) (Nat.le_of_ble_eq_true rfl) (fun X e1 e2 e3 e4 e5 hT O => by
  subst e1
  subst e2
  show V X _ n (Ax nu K 9200 112000) D 0 [(0, .ref (bo X + pp 0)), (1, .ref (bo X + pp 262))] []
  unfold f_L_compile at h
  obtain ⟨z0, hz0, h⟩ := bind_some h
  obtain ⟨z1, K1, D1⟩ := z0
  refine v_aload_n (pc := 0) O dL_compile_0 1 rfl ?_
  refine v_iconst (pc := 1) O dL_compile_1 ic_0 ?_
  refine v_aload_n (pc := 2) O dL_compile_2 0 rfl ?_
  cases z1 with
  | inl e =>
    by_cases g0 : e = 1
    · have h := (if_pos g0).symm.trans h
      subst g0
      obtain rfl := Option.some.inj h
      refine v_call4H (pc := 3) (nu := nu) (K := K) (K' := K1) (c := 9200) (u := 112000) (a := 0) (As := []) (rest := [.int 0, .ref (bo X + pp 262)]) (e := 1) (D' := D1) (hp := 11) O hT hd_L_compile_1 ⟨Nat.le_refl _, Nat.le_refl _⟩ (c_X11_compile (n := n) (nu := nu) (K := K) hl hm hz0 :) mw_X11_compile im_X11_compile se_X11_compile ml_L_33 kq_0 (by decide) rfl rfl rfl (by decide) (by decide) (Nat.le_of_ble_eq_true rfl) dL_compile_3 rfl (fun n' q hq => ?_)
      refine v_astore_n (pc := 11) (lv' := [(2, .ref q), (0, .ref (bo X + pp 0)), (1, .ref (bo X + pp 262))]) O dL_compile_11 rfl (by rw [e3]; decide) rfl ?_
      refine v_iconst (pc := 12) O dL_compile_12 ic_1 ?_
      exact v_iret3 (pc := 13) O hq dL_compile_13
    · have h := (if_neg g0).symm.trans h
      by_cases g1 : e = 4
      · have h := (if_pos g1).symm.trans h
        subst g1
        obtain rfl := Option.some.inj h
        refine v_call4H (pc := 3) (nu := nu) (K := K) (K' := K1) (c := 9200) (u := 112000) (a := 0) (As := []) (rest := [.int 0, .ref (bo X + pp 262)]) (e := 4) (D' := D1) (hp := 14) O hT hd_L_compile_4 ⟨Nat.le_refl _, Nat.le_refl _⟩ (c_X11_compile (n := n) (nu := nu) (K := K) hl hm hz0 :) mw_X11_compile im_X11_compile se_X11_compile ml_L_33 kq_0 (by decide) rfl rfl rfl (by decide) (by decide) (Nat.le_of_ble_eq_true rfl) dL_compile_3 rfl (fun n' q hq => ?_)
        refine v_astore_n (pc := 14) (lv' := [(2, .ref q), (0, .ref (bo X + pp 0)), (1, .ref (bo X + pp 262))]) O dL_compile_14 rfl (by rw [e3]; decide) rfl ?_
        refine v_iconst (pc := 15) O dL_compile_15 ic_2 ?_
        exact v_iret3 (pc := 16) O hq dL_compile_16
      · have h := (if_neg g1).symm.trans h
        by_cases g2 : e = 2
        · have h := (if_pos g2).symm.trans h
          subst g2
          obtain rfl := Option.some.inj h
          refine v_call4H (pc := 3) (nu := nu) (K := K) (K' := K1) (c := 9200) (u := 112000) (a := 0) (As := []) (rest := [.int 0, .ref (bo X + pp 262)]) (e := 2) (D' := D1) (hp := 17) O hT hd_L_compile_2 ⟨Nat.le_refl _, Nat.le_refl _⟩ (c_X11_compile (n := n) (nu := nu) (K := K) hl hm hz0 :) mw_X11_compile im_X11_compile se_X11_compile ml_L_33 kq_0 (by decide) rfl rfl rfl (by decide) (by decide) (Nat.le_of_ble_eq_true rfl) dL_compile_3 rfl (fun n' q hq => ?_)
          refine v_astore_n (pc := 17) (lv' := [(2, .ref q), (0, .ref (bo X + pp 0)), (1, .ref (bo X + pp 262))]) O dL_compile_17 rfl (by rw [e3]; decide) rfl ?_
          refine v_iconst (pc := 18) O dL_compile_18 ic_3 ?_
          exact v_iret3 (pc := 19) O hq dL_compile_19
        · have h := (if_neg g2).symm.trans h
          by_cases g3 : e = 3
          · have h := (if_pos g3).symm.trans h
            subst g3
            obtain rfl := Option.some.inj h
            refine v_call4H (pc := 3) (nu := nu) (K := K) (K' := K1) (c := 9200) (u := 112000) (a := 0) (As := []) (rest := [.int 0, .ref (bo X + pp 262)]) (e := 3) (D' := D1) (hp := 20) O hT hd_L_compile_3 ⟨Nat.le_refl _, Nat.le_refl _⟩ (c_X11_compile (n := n) (nu := nu) (K := K) hl hm hz0 :) mw_X11_compile im_X11_compile se_X11_compile ml_L_33 kq_0 (by decide) rfl rfl rfl (by decide) (by decide) (Nat.le_of_ble_eq_true rfl) dL_compile_3 rfl (fun n' q hq => ?_)
            refine v_astore_n (pc := 20) (lv' := [(2, .ref q), (0, .ref (bo X + pp 0)), (1, .ref (bo X + pp 262))]) O dL_compile_20 rfl (by rw [e3]; decide) rfl ?_
            refine v_iconst (pc := 21) O dL_compile_21 ic_4 ?_
            exact v_iret3 (pc := 22) O hq dL_compile_22
          · have h := (if_neg g3).symm.trans h
            cases h
  | inr r =>
    obtain rfl := Option.some.inj h
    refine v_call4C (pc := 3) (nu := nu) (K := K) (K' := K1) (c := 9200) (u := 112000) (a := 0) (As := []) (rest := [.int 0, .ref (bo X + pp 262)]) (r := some (.int r)) (D' := D1) O hT.2 ⟨Nat.le_refl _, Nat.le_refl _⟩ (c_X11_compile (n := n) (nu := nu) (K := K) hl hm hz0 :) mw_X11_compile im_X11_compile se_X11_compile ml_L_33 kq_0 (by decide) rfl rfl rfl (by decide) (by decide) (Nat.le_of_ble_eq_true rfl) dL_compile_3 rfl rfl (fun n1 g1 => ?_)
    refine v_i2l (pc := 6) O dL_compile_6 ?_
    refine v_last (pc := 7) (a := 262) O kq_262 (inq lq_262 (by decide)) dL_compile_7 ?_
    refine v_goto (pc := 8) 23 O dL_compile_8 (by decide) ?_
    refine v_iconst (pc := 23) O dL_compile_23 ic_0 ?_
    exact v_iret3 (pc := 24) O g1 dL_compile_24)
def hhL_code : Hh := [(0, 10, 13, 13), (0, 10, 17, 15)]
theorem cwh_L_code : Cond.codeWith yL_code cL_code 5 (some .int) hhL_code ∈ tb := tb_of 1276 (by decide +kernel) (by decide +kernel)
theorem mwh_L_code : MWh yL_code cL_code 5 (some .int) hhL_code 4 := ⟨cwh_L_code, ini_L, by decide +kernel⟩
theorem hd_L_code_0 : HdP RL hhL_code 5 0 13 := ⟨[], [(0, 10, 17, 15)], (0, 10, 13, 13), "java/lang/IllegalArgumentException", rfl, rfl, fun _ h => absurd h List.not_mem_nil, by decide, by decide, by decide, cn_L_13, rfl⟩
theorem hd_L_code_1 : HdP RL hhL_code 5 1 17 := ⟨[(0, 10, 13, 13)], [], (0, 10, 17, 15), "java/lang/IllegalStateException", rfl, rfl, List.forall_mem_cons.mpr ⟨⟨by decide, "java/lang/IllegalArgumentException", by decide, by decide, cn_L_13⟩, fun _ h => absurd h List.not_mem_nil⟩, by decide, by decide, by decide, cn_L_15, rfl⟩
def f_L_code (N nu : Nat) (K : Nat → Nat) (x1 : Int32) (x2 : Int32) (D : Dat) : Option (Int32 × Dat) :=
  (f_X11_code x1 x2 D).bind (fun z => match z.1 with | .inr r => some (0, sL z.2 262 (0 : Int32).toNatClampNeg r.toInt64) | .inl e => if e = 0 then some (1, z.2) else if e = 1 then some (2, z.2) else none)
set_option maxHeartbeats 4000000 in
theorem c_L_code {l : Launch} {w : Wx} {N nu n : Nat} {K : Nat → Nat} (hl : l.stackTraces = false) (hm : wlm w = true) {x1 : Int32} {x2 : Int32} {D : Dat} {z : Int32 × Dat} (h : f_L_code N nu K x1 x2 D = some z) : C3 l w yL_code cL_code 5 (some .int) hhL_code 7 122 1 6 [.ref (wb w + pp 0), .int x1, .int x2, .ref (wb w + pp 262)] n nu K D (some (.int z.1)) K z.2 :=
  C3.of (by decide) (Nat.le_of_ble_eq_true rfl) (fun X e1 e2 e3 e4 e5 hT O => by
  subst e1
  subst e2
  show V X _ n (Ax nu K 1 6) D 0 [(0, .ref (bo X + pp 0)), (1, .int x1), (2, .int x2), (3, .ref (bo X + pp 262))] []
  unfold f_L_code at h
  obtain ⟨z0, hz0, h⟩ := bind_some h
  obtain ⟨z1, D1⟩ := z0
  refine v_aload_n (pc := 0) O dL_code_0 3 rfl ?_
  refine v_iconst (pc := 1) O dL_code_1 ic_0 ?_
  refine v_aload_n (pc := 2) O dL_code_2 0 rfl ?_
  refine v_iload_n (pc := 3) O dL_code_3 1 rfl ?_
  refine v_iload_n (pc := 4) O dL_code_4 2 rfl ?_
  cases z1 with
  | inl e =>
    by_cases g0 : e = 0
    · have h := (if_pos g0).symm.trans h
      subst g0
      obtain rfl := Option.some.inj h
      refine v_call1H (pc := 5) (n := n) (nu := nu) (K := K) (c := 1) (u := 6) (a := 0) (As := [.int x1, .int x2]) (rest := [.int 0, .ref (bo X + pp 262)]) (e := 0) (D' := D1) (hp := 13) O hT hd_L_code_0 ⟨by decide, by decide⟩ (c_X11_code (n := n) (nu := nu) (c := 1) (u := 6) (K := K) hl hm hz0 :) mw_X11_code im_X11_code se_X11_code ml_L_38 kq_0 (by decide) rfl rfl rfl (by decide) (by decide) (Nat.le_of_ble_eq_true rfl) dL_code_5 rfl (fun n' q hq => ?_)
      refine v_astore (pc := 13) (lv' := [(4, .ref q), (0, .ref (bo X + pp 0)), (1, .int x1), (2, .int x2), (3, .ref (bo X + pp 262))]) O dL_code_13 (by rw [e3]; decide) rfl ?_
      refine v_iconst (pc := 15) O dL_code_15 ic_1 ?_
      exact v_iret3 (pc := 16) O hq dL_code_16
    · have h := (if_neg g0).symm.trans h
      by_cases g1 : e = 1
      · have h := (if_pos g1).symm.trans h
        subst g1
        obtain rfl := Option.some.inj h
        refine v_call1H (pc := 5) (n := n) (nu := nu) (K := K) (c := 1) (u := 6) (a := 0) (As := [.int x1, .int x2]) (rest := [.int 0, .ref (bo X + pp 262)]) (e := 1) (D' := D1) (hp := 17) O hT hd_L_code_1 ⟨by decide, by decide⟩ (c_X11_code (n := n) (nu := nu) (c := 1) (u := 6) (K := K) hl hm hz0 :) mw_X11_code im_X11_code se_X11_code ml_L_38 kq_0 (by decide) rfl rfl rfl (by decide) (by decide) (Nat.le_of_ble_eq_true rfl) dL_code_5 rfl (fun n' q hq => ?_)
        refine v_astore (pc := 17) (lv' := [(4, .ref q), (0, .ref (bo X + pp 0)), (1, .int x1), (2, .int x2), (3, .ref (bo X + pp 262))]) O dL_code_17 (by rw [e3]; decide) rfl ?_
        refine v_iconst (pc := 19) O dL_code_19 ic_2 ?_
        exact v_iret3 (pc := 20) O hq dL_code_20
      · have h := (if_neg g1).symm.trans h
        cases h
  | inr r =>
    obtain rfl := Option.some.inj h
    refine v_call1C (pc := 5) (a := 0) (As := [.int x1, .int x2]) (rest := [.int 0, .ref (bo X + pp 262)]) (r := some (.int r)) (D' := D1) O ⟨Nat.le_trans hT.2.1 (Nat.le_add_right _ _), Nat.le_trans hT.2.2 (Nat.le_add_right _ _)⟩ (c_X11_code (n := n) (nu := nu) (c := 1) (u := 6) (K := K) hl hm hz0 :) mw_X11_code im_X11_code se_X11_code ml_L_38 kq_0 (by decide) rfl rfl rfl (by decide) (by decide) (Nat.le_of_ble_eq_true rfl) dL_code_5 rfl rfl ?_
    refine v_i2l (pc := 8) O dL_code_8 ?_
    refine v_last (pc := 9) (a := 262) O kq_262 (inq lq_262 (by decide)) dL_code_9 ?_
    refine v_goto (pc := 10) 21 O dL_code_10 (by decide) ?_
    refine v_iconst (pc := 21) O dL_code_21 ic_0 ?_
    exact v_iret3 (pc := 22) O (Nat.le_refl _) dL_code_22)
def hhL_fix : Hh := [(0, 12, 15, 13)]
theorem cwh_L_fix : Cond.codeWith yL_fix cL_fix 6 (some .int) hhL_fix ∈ tb := tb_of 1284 (by decide +kernel) (by decide +kernel)
theorem mwh_L_fix : MWh yL_fix cL_fix 6 (some .int) hhL_fix 5 := ⟨cwh_L_fix, ini_L, by decide +kernel⟩
theorem hd_L_fix_0 : HdP RL hhL_fix 7 0 15 := ⟨[], [], (0, 12, 15, 13), "java/lang/IllegalArgumentException", rfl, rfl, fun _ h => absurd h List.not_mem_nil, by decide, by decide, by decide, cn_L_13, rfl⟩
def f_L_fix (N nu : Nat) (K : Nat → Nat) (x1 : Int32) (x2 : Int32) (x3 : Int32) (D : Dat) : Option (Int32 × Dat) :=
  (f_X11_fix x1 x2 x3 D).bind (fun z => match z.1 with | .inr r => some (0, sL z.2 262 (0 : Int32).toNatClampNeg r.toInt64) | .inl e => if e = 0 then some (1, z.2) else none)
set_option maxHeartbeats 4000000 in
theorem c_L_fix {l : Launch} {w : Wx} {N nu n : Nat} {K : Nat → Nat} (hl : l.stackTraces = false) (hm : wlm w = true) {x1 : Int32} {x2 : Int32} {x3 : Int32} {D : Dat} {z : Int32 × Dat} (h : f_L_fix N nu K x1 x2 x3 D = some z) : C3 l w yL_fix cL_fix 6 (some .int) hhL_fix 7 125 1 6 [.ref (wb w + pp 0), .int x1, .int x2, .int x3, .ref (wb w + pp 262)] n nu K D (some (.int z.1)) K z.2 :=
  C3.of (by decide) (Nat.le_of_ble_eq_true rfl) (fun X e1 e2 e3 e4 e5 hT O => by
  subst e1
  subst e2
  show V X _ n (Ax nu K 1 6) D 0 [(0, .ref (bo X + pp 0)), (1, .int x1), (2, .int x2), (3, .int x3), (4, .ref (bo X + pp 262))] []
  unfold f_L_fix at h
  obtain ⟨z0, hz0, h⟩ := bind_some h
  obtain ⟨z1, D1⟩ := z0
  refine v_aload (pc := 0) O dL_fix_0 4 rfl ?_
  refine v_iconst (pc := 2) O dL_fix_2 ic_0 ?_
  refine v_aload_n (pc := 3) O dL_fix_3 0 rfl ?_
  refine v_iload_n (pc := 4) O dL_fix_4 1 rfl ?_
  refine v_iload_n (pc := 5) O dL_fix_5 2 rfl ?_
  refine v_iload_n (pc := 6) O dL_fix_6 3 rfl ?_
  cases z1 with
  | inl e =>
    by_cases g0 : e = 0
    · have h := (if_pos g0).symm.trans h
      subst g0
      obtain rfl := Option.some.inj h
      refine v_call1H (pc := 7) (n := n) (nu := nu) (K := K) (c := 1) (u := 6) (a := 0) (As := [.int x1, .int x2, .int x3]) (rest := [.int 0, .ref (bo X + pp 262)]) (e := 0) (D' := D1) (hp := 15) O hT hd_L_fix_0 ⟨by decide, by decide⟩ (c_X11_fix (n := n) (nu := nu) (c := 1) (u := 6) (K := K) hl hm hz0 :) mw_X11_fix im_X11_fix se_X11_fix ml_L_41 kq_0 (by decide) rfl rfl rfl (by decide) (by decide) (Nat.le_of_ble_eq_true rfl) dL_fix_7 rfl (fun n' q hq => ?_)
      refine v_astore (pc := 15) (lv' := [(5, .ref q), (0, .ref (bo X + pp 0)), (1, .int x1), (2, .int x2), (3, .int x3), (4, .ref (bo X + pp 262))]) O dL_fix_15 (by rw [e3]; decide) rfl ?_
      refine v_iconst (pc := 17) O dL_fix_17 ic_1 ?_
      exact v_iret3 (pc := 18) O hq dL_fix_18
    · have h := (if_neg g0).symm.trans h
      cases h
  | inr r =>
    obtain rfl := Option.some.inj h
    refine v_call1C (pc := 7) (a := 0) (As := [.int x1, .int x2, .int x3]) (rest := [.int 0, .ref (bo X + pp 262)]) (r := some (.int r)) (D' := D1) O ⟨Nat.le_trans hT.2.1 (Nat.le_add_right _ _), Nat.le_trans hT.2.2 (Nat.le_add_right _ _)⟩ (c_X11_fix (n := n) (nu := nu) (c := 1) (u := 6) (K := K) hl hm hz0 :) mw_X11_fix im_X11_fix se_X11_fix ml_L_41 kq_0 (by decide) rfl rfl rfl (by decide) (by decide) (Nat.le_of_ble_eq_true rfl) dL_fix_7 rfl rfl ?_
    refine v_i2l (pc := 10) O dL_fix_10 ?_
    refine v_last (pc := 11) (a := 262) O kq_262 (inq lq_262 (by decide)) dL_fix_11 ?_
    refine v_goto (pc := 12) 19 O dL_fix_12 (by decide) ?_
    refine v_iconst (pc := 19) O dL_fix_19 ic_0 ?_
    exact v_iret3 (pc := 20) O (Nat.le_refl _) dL_fix_20)
def hhL_verify : Hh := [(0, 8, 11, 15), (0, 8, 14, 21)]
theorem cwh_L_verify : Cond.codeWith yL_verify cL_verify 3 (some .int) hhL_verify ∈ tb := tb_of 1291 (by decide +kernel) (by decide +kernel)
theorem mwh_L_verify : MWh yL_verify cL_verify 3 (some .int) hhL_verify 2 := ⟨cwh_L_verify, ini_L, by decide +kernel⟩
theorem hd_L_verify_1 : HdP RL hhL_verify 3 1 11 := ⟨[], [(0, 8, 14, 21)], (0, 8, 11, 15), "java/lang/IllegalStateException", rfl, rfl, fun _ h => absurd h List.not_mem_nil, by decide, by decide, by decide, cn_L_15, rfl⟩
theorem hd_L_verify_2 : HdP RL hhL_verify 3 2 14 := ⟨[(0, 8, 11, 15)], [], (0, 8, 14, 21), "java/lang/UnsupportedOperationException", rfl, rfl, List.forall_mem_cons.mpr ⟨⟨by decide, "java/lang/IllegalStateException", by decide, by decide, cn_L_15⟩, fun _ h => absurd h List.not_mem_nil⟩, by decide, by decide, by decide, cn_L_21, rfl⟩
def f_L_verify (N nu : Nat) (K : Nat → Nat) (D : Dat) : Option (Int32 × Dat) :=
  (f_X11_verify N nu K D).bind (fun z => match z.1 with | .inr r => some (0, sL z.2 262 (0 : Int32).toNatClampNeg r.toInt64) | .inl e => if e = 1 then some (1, z.2) else if e = 2 then some (2, z.2) else none)
set_option maxHeartbeats 4000000 in
theorem c_L_verify {l : Launch} {w : Wx} {N nu n : Nat} {K : Nat → Nat} (hl : l.stackTraces = false) (hm : wlm w = true) {D : Dat} {z : Int32 × Dat} (h : f_L_verify N nu K D = some z) : C3 l w yL_verify cL_verify 3 (some .int) hhL_verify 8 179 1 6 [.ref (wb w + pp 0), .ref (wb w + pp 262)] n nu K D (some (.int z.1)) K z.2 :=
  C3.of (by decide) (Nat.le_of_ble_eq_true rfl) (fun X e1 e2 e3 e4 e5 hT O => by
  subst e1
  subst e2
  show V X _ n (Ax nu K 1 6) D 0 [(0, .ref (bo X + pp 0)), (1, .ref (bo X + pp 262))] []
  unfold f_L_verify at h
  obtain ⟨z0, hz0, h⟩ := bind_some h
  obtain ⟨z1, D1⟩ := z0
  refine v_aload_n (pc := 0) O dL_verify_0 1 rfl ?_
  refine v_iconst (pc := 1) O dL_verify_1 ic_0 ?_
  refine v_aload_n (pc := 2) O dL_verify_2 0 rfl ?_
  cases z1 with
  | inl e =>
    by_cases g0 : e = 1
    · have h := (if_pos g0).symm.trans h
      subst g0
      obtain rfl := Option.some.inj h
      refine v_call1H (pc := 3) (n := n) (nu := nu) (K := K) (c := 1) (u := 6) (a := 0) (As := []) (rest := [.int 0, .ref (bo X + pp 262)]) (e := 1) (D' := D1) (hp := 11) O hT hd_L_verify_1 ⟨by decide, by decide⟩ (c_X11_verify (n := n) (nu := nu) (c := 1) (u := 6) (K := K) hl hm hz0 :) mw_X11_verify im_X11_verify se_X11_verify ml_L_45 kq_0 (by decide) rfl rfl rfl (by decide) (by decide) (Nat.le_of_ble_eq_true rfl) dL_verify_3 rfl (fun n' q hq => ?_)
      refine v_astore_n (pc := 11) (lv' := [(2, .ref q), (0, .ref (bo X + pp 0)), (1, .ref (bo X + pp 262))]) O dL_verify_11 rfl (by rw [e3]; decide) rfl ?_
      refine v_iconst (pc := 12) O dL_verify_12 ic_1 ?_
      exact v_iret3 (pc := 13) O hq dL_verify_13
    · have h := (if_neg g0).symm.trans h
      by_cases g1 : e = 2
      · have h := (if_pos g1).symm.trans h
        subst g1
        obtain rfl := Option.some.inj h
        refine v_call1H (pc := 3) (n := n) (nu := nu) (K := K) (c := 1) (u := 6) (a := 0) (As := []) (rest := [.int 0, .ref (bo X + pp 262)]) (e := 2) (D' := D1) (hp := 14) O hT hd_L_verify_2 ⟨by decide, by decide⟩ (c_X11_verify (n := n) (nu := nu) (c := 1) (u := 6) (K := K) hl hm hz0 :) mw_X11_verify im_X11_verify se_X11_verify ml_L_45 kq_0 (by decide) rfl rfl rfl (by decide) (by decide) (Nat.le_of_ble_eq_true rfl) dL_verify_3 rfl (fun n' q hq => ?_)
        refine v_astore_n (pc := 14) (lv' := [(2, .ref q), (0, .ref (bo X + pp 0)), (1, .ref (bo X + pp 262))]) O dL_verify_14 rfl (by rw [e3]; decide) rfl ?_
        refine v_iconst (pc := 15) O dL_verify_15 ic_2 ?_
        exact v_iret3 (pc := 16) O hq dL_verify_16
      · have h := (if_neg g1).symm.trans h
        cases h
  | inr r =>
    obtain rfl := Option.some.inj h
    refine v_call1C (pc := 3) (a := 0) (As := []) (rest := [.int 0, .ref (bo X + pp 262)]) (r := some (.int r)) (D' := D1) O ⟨Nat.le_trans hT.2.1 (Nat.le_add_right _ _), Nat.le_trans hT.2.2 (Nat.le_add_right _ _)⟩ (c_X11_verify (n := n) (nu := nu) (c := 1) (u := 6) (K := K) hl hm hz0 :) mw_X11_verify im_X11_verify se_X11_verify ml_L_45 kq_0 (by decide) rfl rfl rfl (by decide) (by decide) (Nat.le_of_ble_eq_true rfl) dL_verify_3 rfl rfl ?_
    refine v_i2l (pc := 6) O dL_verify_6 ?_
    refine v_last (pc := 7) (a := 262) O kq_262 (inq lq_262 (by decide)) dL_verify_7 ?_
    refine v_goto (pc := 8) 17 O dL_verify_8 (by decide) ?_
    refine v_iconst (pc := 17) O dL_verify_17 ic_0 ?_
    exact v_iret3 (pc := 18) O (Nat.le_refl _) dL_verify_18)
def hhL_map : Hh := [(0, 10, 13, 13), (0, 10, 17, 15), (0, 10, 21, 36)]
theorem cwh_L_map : Cond.codeWith yL_map cL_map 5 (some .int) hhL_map ∈ tb := tb_of 1473 (by decide +kernel) (by decide +kernel)
theorem mwh_L_map : MWh yL_map cL_map 5 (some .int) hhL_map 4 := ⟨cwh_L_map, ini_L, by decide +kernel⟩
theorem hd_L_map_0 : HdP RL hhL_map 5 0 13 := ⟨[], [(0, 10, 17, 15), (0, 10, 21, 36)], (0, 10, 13, 13), "java/lang/IllegalArgumentException", rfl, rfl, fun _ h => absurd h List.not_mem_nil, by decide, by decide, by decide, cn_L_13, rfl⟩
theorem hd_L_map_1 : HdP RL hhL_map 5 1 17 := ⟨[(0, 10, 13, 13)], [(0, 10, 21, 36)], (0, 10, 17, 15), "java/lang/IllegalStateException", rfl, rfl, List.forall_mem_cons.mpr ⟨⟨by decide, "java/lang/IllegalArgumentException", by decide, by decide, cn_L_13⟩, fun _ h => absurd h List.not_mem_nil⟩, by decide, by decide, by decide, cn_L_15, rfl⟩
theorem hd_L_map_4 : HdP RL hhL_map 5 4 21 := ⟨[(0, 10, 13, 13), (0, 10, 17, 15)], [], (0, 10, 21, 36), "java/util/NoSuchElementException", rfl, rfl, List.forall_mem_cons.mpr ⟨⟨by decide, "java/lang/IllegalArgumentException", by decide, by decide, cn_L_13⟩, List.forall_mem_cons.mpr ⟨⟨by decide, "java/lang/IllegalStateException", by decide, by decide, cn_L_15⟩, fun _ h => absurd h List.not_mem_nil⟩⟩, by decide, by decide, by decide, cn_L_36, rfl⟩
def f_L_map (N nu : Nat) (K : Nat → Nat) (x1 : Int32) (x2 : Int32) (D : Dat) : Option (Int32 × Dat) :=
  (f_X11_map N nu K x1 x2 D).bind (fun z => match z.1 with | .inr r => some (0, sL z.2 262 (0 : Int32).toNatClampNeg r.toInt64) | .inl e => if e = 0 then some (1, z.2) else if e = 1 then some (2, z.2) else if e = 4 then some (3, z.2) else none)
set_option maxHeartbeats 4000000 in
theorem c_L_map {l : Launch} {w : Wx} {N nu n : Nat} {K : Nat → Nat} (hl : l.stackTraces = false) (hm : wlm w = true) {x1 : Int32} {x2 : Int32} {D : Dat} {z : Int32 × Dat} (h : f_L_map N nu K x1 x2 D = some z) : C3 l w yL_map cL_map 5 (some .int) hhL_map 7 122 1 6 [.ref (wb w + pp 0), .int x1, .int x2, .ref (wb w + pp 262)] n nu K D (some (.int z.1)) K z.2 :=
  C3.of (by decide) (Nat.le_of_ble_eq_true rfl) (fun X e1 e2 e3 e4 e5 hT O => by
  subst e1
  subst e2
  show V X _ n (Ax nu K 1 6) D 0 [(0, .ref (bo X + pp 0)), (1, .int x1), (2, .int x2), (3, .ref (bo X + pp 262))] []
  unfold f_L_map at h
  obtain ⟨z0, hz0, h⟩ := bind_some h
  obtain ⟨z1, D1⟩ := z0
  refine v_aload_n (pc := 0) O dL_map_0 3 rfl ?_
  refine v_iconst (pc := 1) O dL_map_1 ic_0 ?_
  refine v_aload_n (pc := 2) O dL_map_2 0 rfl ?_
  refine v_iload_n (pc := 3) O dL_map_3 1 rfl ?_
  refine v_iload_n (pc := 4) O dL_map_4 2 rfl ?_
  cases z1 with
  | inl e =>
    by_cases g0 : e = 0
    · have h := (if_pos g0).symm.trans h
      subst g0
      obtain rfl := Option.some.inj h
      refine v_call1H (pc := 5) (n := n) (nu := nu) (K := K) (c := 1) (u := 6) (a := 0) (As := [.int x1, .int x2]) (rest := [.int 0, .ref (bo X + pp 262)]) (e := 0) (D' := D1) (hp := 13) O hT hd_L_map_0 ⟨by decide, by decide⟩ (c_X11_map (n := n) (nu := nu) (c := 1) (u := 6) (K := K) hl hm hz0 :) mw_X11_map im_X11_map se_X11_map ml_L_48 kq_0 (by decide) rfl rfl rfl (by decide) (by decide) (Nat.le_of_ble_eq_true rfl) dL_map_5 rfl (fun n' q hq => ?_)
      refine v_astore (pc := 13) (lv' := [(4, .ref q), (0, .ref (bo X + pp 0)), (1, .int x1), (2, .int x2), (3, .ref (bo X + pp 262))]) O dL_map_13 (by rw [e3]; decide) rfl ?_
      refine v_iconst (pc := 15) O dL_map_15 ic_1 ?_
      exact v_iret3 (pc := 16) O hq dL_map_16
    · have h := (if_neg g0).symm.trans h
      by_cases g1 : e = 1
      · have h := (if_pos g1).symm.trans h
        subst g1
        obtain rfl := Option.some.inj h
        refine v_call1H (pc := 5) (n := n) (nu := nu) (K := K) (c := 1) (u := 6) (a := 0) (As := [.int x1, .int x2]) (rest := [.int 0, .ref (bo X + pp 262)]) (e := 1) (D' := D1) (hp := 17) O hT hd_L_map_1 ⟨by decide, by decide⟩ (c_X11_map (n := n) (nu := nu) (c := 1) (u := 6) (K := K) hl hm hz0 :) mw_X11_map im_X11_map se_X11_map ml_L_48 kq_0 (by decide) rfl rfl rfl (by decide) (by decide) (Nat.le_of_ble_eq_true rfl) dL_map_5 rfl (fun n' q hq => ?_)
        refine v_astore (pc := 17) (lv' := [(4, .ref q), (0, .ref (bo X + pp 0)), (1, .int x1), (2, .int x2), (3, .ref (bo X + pp 262))]) O dL_map_17 (by rw [e3]; decide) rfl ?_
        refine v_iconst (pc := 19) O dL_map_19 ic_2 ?_
        exact v_iret3 (pc := 20) O hq dL_map_20
      · have h := (if_neg g1).symm.trans h
        by_cases g2 : e = 4
        · have h := (if_pos g2).symm.trans h
          subst g2
          obtain rfl := Option.some.inj h
          refine v_call1H (pc := 5) (n := n) (nu := nu) (K := K) (c := 1) (u := 6) (a := 0) (As := [.int x1, .int x2]) (rest := [.int 0, .ref (bo X + pp 262)]) (e := 4) (D' := D1) (hp := 21) O hT hd_L_map_4 ⟨by decide, by decide⟩ (c_X11_map (n := n) (nu := nu) (c := 1) (u := 6) (K := K) hl hm hz0 :) mw_X11_map im_X11_map se_X11_map ml_L_48 kq_0 (by decide) rfl rfl rfl (by decide) (by decide) (Nat.le_of_ble_eq_true rfl) dL_map_5 rfl (fun n' q hq => ?_)
          refine v_astore (pc := 21) (lv' := [(4, .ref q), (0, .ref (bo X + pp 0)), (1, .int x1), (2, .int x2), (3, .ref (bo X + pp 262))]) O dL_map_21 (by rw [e3]; decide) rfl ?_
          refine v_iconst (pc := 23) O dL_map_23 ic_3 ?_
          exact v_iret3 (pc := 24) O hq dL_map_24
        · have h := (if_neg g2).symm.trans h
          cases h
  | inr r =>
    obtain rfl := Option.some.inj h
    refine v_call1C (pc := 5) (a := 0) (As := [.int x1, .int x2]) (rest := [.int 0, .ref (bo X + pp 262)]) (r := some (.int r)) (D' := D1) O ⟨Nat.le_trans hT.2.1 (Nat.le_add_right _ _), Nat.le_trans hT.2.2 (Nat.le_add_right _ _)⟩ (c_X11_map (n := n) (nu := nu) (c := 1) (u := 6) (K := K) hl hm hz0 :) mw_X11_map im_X11_map se_X11_map ml_L_48 kq_0 (by decide) rfl rfl rfl (by decide) (by decide) (Nat.le_of_ble_eq_true rfl) dL_map_5 rfl rfl ?_
    refine v_i2l (pc := 8) O dL_map_8 ?_
    refine v_last (pc := 9) (a := 262) O kq_262 (inq lq_262 (by decide)) dL_map_9 ?_
    refine v_goto (pc := 10) 25 O dL_map_10 (by decide) ?_
    refine v_iconst (pc := 25) O dL_map_25 ic_0 ?_
    exact v_iret3 (pc := 26) O (Nat.le_refl _) dL_map_26)
def hhL_region : Hh := [(0, 10, 13, 13), (0, 10, 17, 15), (0, 10, 21, 36), (0, 10, 25, 21)]
theorem cwh_L_region : Cond.codeWith yL_region cL_region 5 (some .int) hhL_region ∈ tb := tb_of 1494 (by decide +kernel) (by decide +kernel)
theorem mwh_L_region : MWh yL_region cL_region 5 (some .int) hhL_region 4 := ⟨cwh_L_region, ini_L, by decide +kernel⟩
theorem hd_L_region_0 : HdP RL hhL_region 5 0 13 := ⟨[], [(0, 10, 17, 15), (0, 10, 21, 36), (0, 10, 25, 21)], (0, 10, 13, 13), "java/lang/IllegalArgumentException", rfl, rfl, fun _ h => absurd h List.not_mem_nil, by decide, by decide, by decide, cn_L_13, rfl⟩
theorem hd_L_region_1 : HdP RL hhL_region 5 1 17 := ⟨[(0, 10, 13, 13)], [(0, 10, 21, 36), (0, 10, 25, 21)], (0, 10, 17, 15), "java/lang/IllegalStateException", rfl, rfl, List.forall_mem_cons.mpr ⟨⟨by decide, "java/lang/IllegalArgumentException", by decide, by decide, cn_L_13⟩, fun _ h => absurd h List.not_mem_nil⟩, by decide, by decide, by decide, cn_L_15, rfl⟩
theorem hd_L_region_4 : HdP RL hhL_region 5 4 21 := ⟨[(0, 10, 13, 13), (0, 10, 17, 15)], [(0, 10, 25, 21)], (0, 10, 21, 36), "java/util/NoSuchElementException", rfl, rfl, List.forall_mem_cons.mpr ⟨⟨by decide, "java/lang/IllegalArgumentException", by decide, by decide, cn_L_13⟩, List.forall_mem_cons.mpr ⟨⟨by decide, "java/lang/IllegalStateException", by decide, by decide, cn_L_15⟩, fun _ h => absurd h List.not_mem_nil⟩⟩, by decide, by decide, by decide, cn_L_36, rfl⟩
theorem hd_L_region_2 : HdP RL hhL_region 5 2 25 := ⟨[(0, 10, 13, 13), (0, 10, 17, 15), (0, 10, 21, 36)], [], (0, 10, 25, 21), "java/lang/UnsupportedOperationException", rfl, rfl, List.forall_mem_cons.mpr ⟨⟨by decide, "java/lang/IllegalArgumentException", by decide, by decide, cn_L_13⟩, List.forall_mem_cons.mpr ⟨⟨by decide, "java/lang/IllegalStateException", by decide, by decide, cn_L_15⟩, List.forall_mem_cons.mpr ⟨⟨by decide, "java/util/NoSuchElementException", by decide, by decide, cn_L_36⟩, fun _ h => absurd h List.not_mem_nil⟩⟩⟩, by decide, by decide, by decide, cn_L_21, rfl⟩
def f_L_region (N nu : Nat) (K : Nat → Nat) (x1 : Int32) (x2 : Int32) (D : Dat) : Option (Int32 × Dat) :=
  (f_X11_region x1 x2 D).bind (fun z => match z.1 with | .inr r => some (0, sL z.2 262 (0 : Int32).toNatClampNeg r.toInt64) | .inl e => if e = 0 then some (1, z.2) else if e = 1 then some (2, z.2) else if e = 4 then some (3, z.2) else if e = 2 then some (4, z.2) else none)
set_option maxHeartbeats 4000000 in
theorem c_L_region {l : Launch} {w : Wx} {N nu n : Nat} {K : Nat → Nat} (hl : l.stackTraces = false) (hm : wlm w = true) {x1 : Int32} {x2 : Int32} {D : Dat} {z : Int32 × Dat} (h : f_L_region N nu K x1 x2 D = some z) : C3 l w yL_region cL_region 5 (some .int) hhL_region 7 122 1 6 [.ref (wb w + pp 0), .int x1, .int x2, .ref (wb w + pp 262)] n nu K D (some (.int z.1)) K z.2 :=
  C3.of (by decide) (Nat.le_of_ble_eq_true rfl) (fun X e1 e2 e3 e4 e5 hT O => by
  subst e1
  subst e2
  show V X _ n (Ax nu K 1 6) D 0 [(0, .ref (bo X + pp 0)), (1, .int x1), (2, .int x2), (3, .ref (bo X + pp 262))] []
  unfold f_L_region at h
  obtain ⟨z0, hz0, h⟩ := bind_some h
  obtain ⟨z1, D1⟩ := z0
  refine v_aload_n (pc := 0) O dL_region_0 3 rfl ?_
  refine v_iconst (pc := 1) O dL_region_1 ic_0 ?_
  refine v_aload_n (pc := 2) O dL_region_2 0 rfl ?_
  refine v_iload_n (pc := 3) O dL_region_3 1 rfl ?_
  refine v_iload_n (pc := 4) O dL_region_4 2 rfl ?_
  cases z1 with
  | inl e =>
    by_cases g0 : e = 0
    · have h := (if_pos g0).symm.trans h
      subst g0
      obtain rfl := Option.some.inj h
      refine v_call1H (pc := 5) (n := n) (nu := nu) (K := K) (c := 1) (u := 6) (a := 0) (As := [.int x1, .int x2]) (rest := [.int 0, .ref (bo X + pp 262)]) (e := 0) (D' := D1) (hp := 13) O hT hd_L_region_0 ⟨by decide, by decide⟩ (c_X11_region (n := n) (nu := nu) (c := 1) (u := 6) (K := K) hl hm hz0 :) mw_X11_region im_X11_region se_X11_region ml_L_51 kq_0 (by decide) rfl rfl rfl (by decide) (by decide) (Nat.le_of_ble_eq_true rfl) dL_region_5 rfl (fun n' q hq => ?_)
      refine v_astore (pc := 13) (lv' := [(4, .ref q), (0, .ref (bo X + pp 0)), (1, .int x1), (2, .int x2), (3, .ref (bo X + pp 262))]) O dL_region_13 (by rw [e3]; decide) rfl ?_
      refine v_iconst (pc := 15) O dL_region_15 ic_1 ?_
      exact v_iret3 (pc := 16) O hq dL_region_16
    · have h := (if_neg g0).symm.trans h
      by_cases g1 : e = 1
      · have h := (if_pos g1).symm.trans h
        subst g1
        obtain rfl := Option.some.inj h
        refine v_call1H (pc := 5) (n := n) (nu := nu) (K := K) (c := 1) (u := 6) (a := 0) (As := [.int x1, .int x2]) (rest := [.int 0, .ref (bo X + pp 262)]) (e := 1) (D' := D1) (hp := 17) O hT hd_L_region_1 ⟨by decide, by decide⟩ (c_X11_region (n := n) (nu := nu) (c := 1) (u := 6) (K := K) hl hm hz0 :) mw_X11_region im_X11_region se_X11_region ml_L_51 kq_0 (by decide) rfl rfl rfl (by decide) (by decide) (Nat.le_of_ble_eq_true rfl) dL_region_5 rfl (fun n' q hq => ?_)
        refine v_astore (pc := 17) (lv' := [(4, .ref q), (0, .ref (bo X + pp 0)), (1, .int x1), (2, .int x2), (3, .ref (bo X + pp 262))]) O dL_region_17 (by rw [e3]; decide) rfl ?_
        refine v_iconst (pc := 19) O dL_region_19 ic_2 ?_
        exact v_iret3 (pc := 20) O hq dL_region_20
      · have h := (if_neg g1).symm.trans h
        by_cases g2 : e = 4
        · have h := (if_pos g2).symm.trans h
          subst g2
          obtain rfl := Option.some.inj h
          refine v_call1H (pc := 5) (n := n) (nu := nu) (K := K) (c := 1) (u := 6) (a := 0) (As := [.int x1, .int x2]) (rest := [.int 0, .ref (bo X + pp 262)]) (e := 4) (D' := D1) (hp := 21) O hT hd_L_region_4 ⟨by decide, by decide⟩ (c_X11_region (n := n) (nu := nu) (c := 1) (u := 6) (K := K) hl hm hz0 :) mw_X11_region im_X11_region se_X11_region ml_L_51 kq_0 (by decide) rfl rfl rfl (by decide) (by decide) (Nat.le_of_ble_eq_true rfl) dL_region_5 rfl (fun n' q hq => ?_)
          refine v_astore (pc := 21) (lv' := [(4, .ref q), (0, .ref (bo X + pp 0)), (1, .int x1), (2, .int x2), (3, .ref (bo X + pp 262))]) O dL_region_21 (by rw [e3]; decide) rfl ?_
          refine v_iconst (pc := 23) O dL_region_23 ic_3 ?_
          exact v_iret3 (pc := 24) O hq dL_region_24
        · have h := (if_neg g2).symm.trans h
          by_cases g3 : e = 2
          · have h := (if_pos g3).symm.trans h
            subst g3
            obtain rfl := Option.some.inj h
            refine v_call1H (pc := 5) (n := n) (nu := nu) (K := K) (c := 1) (u := 6) (a := 0) (As := [.int x1, .int x2]) (rest := [.int 0, .ref (bo X + pp 262)]) (e := 2) (D' := D1) (hp := 25) O hT hd_L_region_2 ⟨by decide, by decide⟩ (c_X11_region (n := n) (nu := nu) (c := 1) (u := 6) (K := K) hl hm hz0 :) mw_X11_region im_X11_region se_X11_region ml_L_51 kq_0 (by decide) rfl rfl rfl (by decide) (by decide) (Nat.le_of_ble_eq_true rfl) dL_region_5 rfl (fun n' q hq => ?_)
            refine v_astore (pc := 25) (lv' := [(4, .ref q), (0, .ref (bo X + pp 0)), (1, .int x1), (2, .int x2), (3, .ref (bo X + pp 262))]) O dL_region_25 (by rw [e3]; decide) rfl ?_
            refine v_iconst (pc := 27) O dL_region_27 ic_4 ?_
            exact v_iret3 (pc := 28) O hq dL_region_28
          · have h := (if_neg g3).symm.trans h
            cases h
  | inr r =>
    obtain rfl := Option.some.inj h
    refine v_call1C (pc := 5) (a := 0) (As := [.int x1, .int x2]) (rest := [.int 0, .ref (bo X + pp 262)]) (r := some (.int r)) (D' := D1) O ⟨Nat.le_trans hT.2.1 (Nat.le_add_right _ _), Nat.le_trans hT.2.2 (Nat.le_add_right _ _)⟩ (c_X11_region (n := n) (nu := nu) (c := 1) (u := 6) (K := K) hl hm hz0 :) mw_X11_region im_X11_region se_X11_region ml_L_51 kq_0 (by decide) rfl rfl rfl (by decide) (by decide) (Nat.le_of_ble_eq_true rfl) dL_region_5 rfl rfl ?_
    refine v_i2l (pc := 8) O dL_region_8 ?_
    refine v_last (pc := 9) (a := 262) O kq_262 (inq lq_262 (by decide)) dL_region_9 ?_
    refine v_goto (pc := 10) 29 O dL_region_10 (by decide) ?_
    refine v_iconst (pc := 29) O dL_region_29 ic_0 ?_
    exact v_iret3 (pc := 30) O (Nat.le_refl _) dL_region_30)
def hhL_feed : Hh := [(0, 10, 13, 13), (0, 10, 17, 15)]
theorem cwh_L_feed : Cond.codeWith yL_feed cL_feed 5 (some .int) hhL_feed ∈ tb := tb_of 1515 (by decide +kernel) (by decide +kernel)
theorem mwh_L_feed : MWh yL_feed cL_feed 5 (some .int) hhL_feed 4 := ⟨cwh_L_feed, ini_L, by decide +kernel⟩
theorem hd_L_feed_0 : HdP RL hhL_feed 5 0 13 := ⟨[], [(0, 10, 17, 15)], (0, 10, 13, 13), "java/lang/IllegalArgumentException", rfl, rfl, fun _ h => absurd h List.not_mem_nil, by decide, by decide, by decide, cn_L_13, rfl⟩
theorem hd_L_feed_1 : HdP RL hhL_feed 5 1 17 := ⟨[(0, 10, 13, 13)], [], (0, 10, 17, 15), "java/lang/IllegalStateException", rfl, rfl, List.forall_mem_cons.mpr ⟨⟨by decide, "java/lang/IllegalArgumentException", by decide, by decide, cn_L_13⟩, fun _ h => absurd h List.not_mem_nil⟩, by decide, by decide, by decide, cn_L_15, rfl⟩
def f_L_feed (N nu : Nat) (K : Nat → Nat) (x1 : Int32) (x2 : Int32) (D : Dat) : Option (Int32 × Dat) :=
  (f_X11_feed x1 x2 D).bind (fun z => match z.1 with | .inr r => some (0, sL z.2 262 (0 : Int32).toNatClampNeg r.toInt64) | .inl e => if e = 0 then some (1, z.2) else if e = 1 then some (2, z.2) else none)
set_option maxHeartbeats 4000000 in
theorem c_L_feed {l : Launch} {w : Wx} {N nu n : Nat} {K : Nat → Nat} (hl : l.stackTraces = false) (hm : wlm w = true) {x1 : Int32} {x2 : Int32} {D : Dat} {z : Int32 × Dat} (h : f_L_feed N nu K x1 x2 D = some z) : C3 l w yL_feed cL_feed 5 (some .int) hhL_feed 7 122 1 6 [.ref (wb w + pp 0), .int x1, .int x2, .ref (wb w + pp 262)] n nu K D (some (.int z.1)) K z.2 :=
  C3.of (by decide) (Nat.le_of_ble_eq_true rfl) (fun X e1 e2 e3 e4 e5 hT O => by
  subst e1
  subst e2
  show V X _ n (Ax nu K 1 6) D 0 [(0, .ref (bo X + pp 0)), (1, .int x1), (2, .int x2), (3, .ref (bo X + pp 262))] []
  unfold f_L_feed at h
  obtain ⟨z0, hz0, h⟩ := bind_some h
  obtain ⟨z1, D1⟩ := z0
  refine v_aload_n (pc := 0) O dL_feed_0 3 rfl ?_
  refine v_iconst (pc := 1) O dL_feed_1 ic_0 ?_
  refine v_aload_n (pc := 2) O dL_feed_2 0 rfl ?_
  refine v_iload_n (pc := 3) O dL_feed_3 1 rfl ?_
  refine v_iload_n (pc := 4) O dL_feed_4 2 rfl ?_
  cases z1 with
  | inl e =>
    by_cases g0 : e = 0
    · have h := (if_pos g0).symm.trans h
      subst g0
      obtain rfl := Option.some.inj h
      refine v_call1H (pc := 5) (n := n) (nu := nu) (K := K) (c := 1) (u := 6) (a := 0) (As := [.int x1, .int x2]) (rest := [.int 0, .ref (bo X + pp 262)]) (e := 0) (D' := D1) (hp := 13) O hT hd_L_feed_0 ⟨by decide, by decide⟩ (c_X11_feed (n := n) (nu := nu) (c := 1) (u := 6) (K := K) hl hm hz0 :) mw_X11_feed im_X11_feed se_X11_feed ml_L_54 kq_0 (by decide) rfl rfl rfl (by decide) (by decide) (Nat.le_of_ble_eq_true rfl) dL_feed_5 rfl (fun n' q hq => ?_)
      refine v_astore (pc := 13) (lv' := [(4, .ref q), (0, .ref (bo X + pp 0)), (1, .int x1), (2, .int x2), (3, .ref (bo X + pp 262))]) O dL_feed_13 (by rw [e3]; decide) rfl ?_
      refine v_iconst (pc := 15) O dL_feed_15 ic_1 ?_
      exact v_iret3 (pc := 16) O hq dL_feed_16
    · have h := (if_neg g0).symm.trans h
      by_cases g1 : e = 1
      · have h := (if_pos g1).symm.trans h
        subst g1
        obtain rfl := Option.some.inj h
        refine v_call1H (pc := 5) (n := n) (nu := nu) (K := K) (c := 1) (u := 6) (a := 0) (As := [.int x1, .int x2]) (rest := [.int 0, .ref (bo X + pp 262)]) (e := 1) (D' := D1) (hp := 17) O hT hd_L_feed_1 ⟨by decide, by decide⟩ (c_X11_feed (n := n) (nu := nu) (c := 1) (u := 6) (K := K) hl hm hz0 :) mw_X11_feed im_X11_feed se_X11_feed ml_L_54 kq_0 (by decide) rfl rfl rfl (by decide) (by decide) (Nat.le_of_ble_eq_true rfl) dL_feed_5 rfl (fun n' q hq => ?_)
        refine v_astore (pc := 17) (lv' := [(4, .ref q), (0, .ref (bo X + pp 0)), (1, .int x1), (2, .int x2), (3, .ref (bo X + pp 262))]) O dL_feed_17 (by rw [e3]; decide) rfl ?_
        refine v_iconst (pc := 19) O dL_feed_19 ic_2 ?_
        exact v_iret3 (pc := 20) O hq dL_feed_20
      · have h := (if_neg g1).symm.trans h
        cases h
  | inr r =>
    obtain rfl := Option.some.inj h
    refine v_call1C (pc := 5) (a := 0) (As := [.int x1, .int x2]) (rest := [.int 0, .ref (bo X + pp 262)]) (r := some (.int r)) (D' := D1) O ⟨Nat.le_trans hT.2.1 (Nat.le_add_right _ _), Nat.le_trans hT.2.2 (Nat.le_add_right _ _)⟩ (c_X11_feed (n := n) (nu := nu) (c := 1) (u := 6) (K := K) hl hm hz0 :) mw_X11_feed im_X11_feed se_X11_feed ml_L_54 kq_0 (by decide) rfl rfl rfl (by decide) (by decide) (Nat.le_of_ble_eq_true rfl) dL_feed_5 rfl rfl ?_
    refine v_i2l (pc := 8) O dL_feed_8 ?_
    refine v_last (pc := 9) (a := 262) O kq_262 (inq lq_262 (by decide)) dL_feed_9 ?_
    refine v_goto (pc := 10) 21 O dL_feed_10 (by decide) ?_
    refine v_iconst (pc := 21) O dL_feed_21 ic_0 ?_
    exact v_iret3 (pc := 22) O (Nat.le_refl _) dL_feed_22)
def hhL_drain : Hh := [(0, 9, 12, 13)]
theorem cwh_L_drain : Cond.codeWith yL_drain cL_drain 4 (some .int) hhL_drain ∈ tb := tb_of 1533 (by decide +kernel) (by decide +kernel)
theorem mwh_L_drain : MWh yL_drain cL_drain 4 (some .int) hhL_drain 3 := ⟨cwh_L_drain, ini_L, by decide +kernel⟩
theorem hd_L_drain_0 : HdP RL hhL_drain 4 0 12 := ⟨[], [], (0, 9, 12, 13), "java/lang/IllegalArgumentException", rfl, rfl, fun _ h => absurd h List.not_mem_nil, by decide, by decide, by decide, cn_L_13, rfl⟩
def f_L_drain (N nu : Nat) (K : Nat → Nat) (x1 : Int32) (D : Dat) : Option (Int32 × Dat) :=
  (f_X11_drain x1 D).bind (fun z => match z.1 with | .inr r => some (0, sL z.2 262 (0 : Int32).toNatClampNeg r.toInt64) | .inl e => if e = 0 then some (1, z.2) else none)
set_option maxHeartbeats 4000000 in
theorem c_L_drain {l : Launch} {w : Wx} {N nu n : Nat} {K : Nat → Nat} (hl : l.stackTraces = false) (hm : wlm w = true) {x1 : Int32} {D : Dat} {z : Int32 × Dat} (h : f_L_drain N nu K x1 D = some z) : C3 l w yL_drain cL_drain 4 (some .int) hhL_drain 7 122 1 6 [.ref (wb w + pp 0), .int x1, .ref (wb w + pp 262)] n nu K D (some (.int z.1)) K z.2 :=
  C3.of (by decide) (Nat.le_of_ble_eq_true rfl) (fun X e1 e2 e3 e4 e5 hT O => by
  subst e1
  subst e2
  show V X _ n (Ax nu K 1 6) D 0 [(0, .ref (bo X + pp 0)), (1, .int x1), (2, .ref (bo X + pp 262))] []
  unfold f_L_drain at h
  obtain ⟨z0, hz0, h⟩ := bind_some h
  obtain ⟨z1, D1⟩ := z0
  refine v_aload_n (pc := 0) O dL_drain_0 2 rfl ?_
  refine v_iconst (pc := 1) O dL_drain_1 ic_0 ?_
  refine v_aload_n (pc := 2) O dL_drain_2 0 rfl ?_
  refine v_iload_n (pc := 3) O dL_drain_3 1 rfl ?_
  cases z1 with
  | inl e =>
    by_cases g0 : e = 0
    · have h := (if_pos g0).symm.trans h
      subst g0
      obtain rfl := Option.some.inj h
      refine v_call1H (pc := 4) (n := n) (nu := nu) (K := K) (c := 1) (u := 6) (a := 0) (As := [.int x1]) (rest := [.int 0, .ref (bo X + pp 262)]) (e := 0) (D' := D1) (hp := 12) O hT hd_L_drain_0 ⟨by decide, by decide⟩ (c_X11_drain (n := n) (nu := nu) (c := 1) (u := 6) (K := K) hl hm hz0 :) mw_X11_drain im_X11_drain se_X11_drain ml_L_57 kq_0 (by decide) rfl rfl rfl (by decide) (by decide) (Nat.le_of_ble_eq_true rfl) dL_drain_4 rfl (fun n' q hq => ?_)
      refine v_astore_n (pc := 12) (lv' := [(3, .ref q), (0, .ref (bo X + pp 0)), (1, .int x1), (2, .ref (bo X + pp 262))]) O dL_drain_12 rfl (by rw [e3]; decide) rfl ?_
      refine v_iconst (pc := 13) O dL_drain_13 ic_1 ?_
      exact v_iret3 (pc := 14) O hq dL_drain_14
    · have h := (if_neg g0).symm.trans h
      cases h
  | inr r =>
    obtain rfl := Option.some.inj h
    refine v_call1C (pc := 4) (a := 0) (As := [.int x1]) (rest := [.int 0, .ref (bo X + pp 262)]) (r := some (.int r)) (D' := D1) O ⟨Nat.le_trans hT.2.1 (Nat.le_add_right _ _), Nat.le_trans hT.2.2 (Nat.le_add_right _ _)⟩ (c_X11_drain (n := n) (nu := nu) (c := 1) (u := 6) (K := K) hl hm hz0 :) mw_X11_drain im_X11_drain se_X11_drain ml_L_57 kq_0 (by decide) rfl rfl rfl (by decide) (by decide) (Nat.le_of_ble_eq_true rfl) dL_drain_4 rfl rfl ?_
    refine v_i2l (pc := 7) O dL_drain_7 ?_
    refine v_last (pc := 8) (a := 262) O kq_262 (inq lq_262 (by decide)) dL_drain_8 ?_
    refine v_goto (pc := 9) 15 O dL_drain_9 (by decide) ?_
    refine v_iconst (pc := 15) O dL_drain_15 ic_0 ?_
    exact v_iret3 (pc := 16) O (Nat.le_refl _) dL_drain_16)
def hhL_run : Hh := [(0, 9, 12, 13), (0, 9, 15, 21)]
theorem cwh_L_run : Cond.codeWith yL_run cL_run 4 (some .int) hhL_run ∈ tb := tb_of 1544 (by decide +kernel) (by decide +kernel)
theorem mwh_L_run : MWh yL_run cL_run 4 (some .int) hhL_run 3 := ⟨cwh_L_run, ini_L, by decide +kernel⟩
theorem hd_L_run_0 : HdP RL hhL_run 4 0 12 := ⟨[], [(0, 9, 15, 21)], (0, 9, 12, 13), "java/lang/IllegalArgumentException", rfl, rfl, fun _ h => absurd h List.not_mem_nil, by decide, by decide, by decide, cn_L_13, rfl⟩
theorem hd_L_run_2 : HdP RL hhL_run 4 2 15 := ⟨[(0, 9, 12, 13)], [], (0, 9, 15, 21), "java/lang/UnsupportedOperationException", rfl, rfl, List.forall_mem_cons.mpr ⟨⟨by decide, "java/lang/IllegalArgumentException", by decide, by decide, cn_L_13⟩, fun _ h => absurd h List.not_mem_nil⟩, by decide, by decide, by decide, cn_L_21, rfl⟩
def f_L_run (N nu : Nat) (K : Nat → Nat) (x1 : Int32) (D : Dat) : Option (Int32 × Dat) :=
  (f_X11_run N nu K x1 D).bind (fun z => match z.1 with | .inr r => some (0, sL z.2 262 (0 : Int32).toNatClampNeg r.toInt64) | .inl e => if e = 0 then some (1, z.2) else if e = 2 then some (2, z.2) else none)
set_option maxHeartbeats 4000000 in
theorem c_L_run {l : Launch} {w : Wx} {N nu n : Nat} {K : Nat → Nat} (hl : l.stackTraces = false) (hm : wlm w = true) {x1 : Int32} {D : Dat} {z : Int32 × Dat} (h : f_L_run N nu K x1 D = some z) : C3 l w yL_run cL_run 4 (some .int) hhL_run 7 134 1 6 [.ref (wb w + pp 0), .int x1, .ref (wb w + pp 262)] n nu K D (some (.int z.1)) K z.2 :=
  C3.of (by decide) (Nat.le_of_ble_eq_true rfl) (fun X e1 e2 e3 e4 e5 hT O => by
  subst e1
  subst e2
  show V X _ n (Ax nu K 1 6) D 0 [(0, .ref (bo X + pp 0)), (1, .int x1), (2, .ref (bo X + pp 262))] []
  unfold f_L_run at h
  obtain ⟨z0, hz0, h⟩ := bind_some h
  obtain ⟨z1, D1⟩ := z0
  refine v_aload_n (pc := 0) O dL_run_0 2 rfl ?_
  refine v_iconst (pc := 1) O dL_run_1 ic_0 ?_
  refine v_aload_n (pc := 2) O dL_run_2 0 rfl ?_
  refine v_iload_n (pc := 3) O dL_run_3 1 rfl ?_
  cases z1 with
  | inl e =>
    by_cases g0 : e = 0
    · have h := (if_pos g0).symm.trans h
      subst g0
      obtain rfl := Option.some.inj h
      refine v_call1H (pc := 4) (n := n) (nu := nu) (K := K) (c := 1) (u := 6) (a := 0) (As := [.int x1]) (rest := [.int 0, .ref (bo X + pp 262)]) (e := 0) (D' := D1) (hp := 12) O hT hd_L_run_0 ⟨by decide, by decide⟩ (c_X11_run (n := n) (nu := nu) (c := 1) (u := 6) (K := K) hl hm hz0 :) mw_X11_run im_X11_run se_X11_run ml_L_61 kq_0 (by decide) rfl rfl rfl (by decide) (by decide) (Nat.le_of_ble_eq_true rfl) dL_run_4 rfl (fun n' q hq => ?_)
      refine v_astore_n (pc := 12) (lv' := [(3, .ref q), (0, .ref (bo X + pp 0)), (1, .int x1), (2, .ref (bo X + pp 262))]) O dL_run_12 rfl (by rw [e3]; decide) rfl ?_
      refine v_iconst (pc := 13) O dL_run_13 ic_1 ?_
      exact v_iret3 (pc := 14) O hq dL_run_14
    · have h := (if_neg g0).symm.trans h
      by_cases g1 : e = 2
      · have h := (if_pos g1).symm.trans h
        subst g1
        obtain rfl := Option.some.inj h
        refine v_call1H (pc := 4) (n := n) (nu := nu) (K := K) (c := 1) (u := 6) (a := 0) (As := [.int x1]) (rest := [.int 0, .ref (bo X + pp 262)]) (e := 2) (D' := D1) (hp := 15) O hT hd_L_run_2 ⟨by decide, by decide⟩ (c_X11_run (n := n) (nu := nu) (c := 1) (u := 6) (K := K) hl hm hz0 :) mw_X11_run im_X11_run se_X11_run ml_L_61 kq_0 (by decide) rfl rfl rfl (by decide) (by decide) (Nat.le_of_ble_eq_true rfl) dL_run_4 rfl (fun n' q hq => ?_)
        refine v_astore_n (pc := 15) (lv' := [(3, .ref q), (0, .ref (bo X + pp 0)), (1, .int x1), (2, .ref (bo X + pp 262))]) O dL_run_15 rfl (by rw [e3]; decide) rfl ?_
        refine v_iconst (pc := 16) O dL_run_16 ic_2 ?_
        exact v_iret3 (pc := 17) O hq dL_run_17
      · have h := (if_neg g1).symm.trans h
        cases h
  | inr r =>
    obtain rfl := Option.some.inj h
    refine v_call1C (pc := 4) (a := 0) (As := [.int x1]) (rest := [.int 0, .ref (bo X + pp 262)]) (r := some (.int r)) (D' := D1) O ⟨Nat.le_trans hT.2.1 (Nat.le_add_right _ _), Nat.le_trans hT.2.2 (Nat.le_add_right _ _)⟩ (c_X11_run (n := n) (nu := nu) (c := 1) (u := 6) (K := K) hl hm hz0 :) mw_X11_run im_X11_run se_X11_run ml_L_61 kq_0 (by decide) rfl rfl rfl (by decide) (by decide) (Nat.le_of_ble_eq_true rfl) dL_run_4 rfl rfl ?_
    refine v_i2l (pc := 7) O dL_run_7 ?_
    refine v_last (pc := 8) (a := 262) O kq_262 (inq lq_262 (by decide)) dL_run_8 ?_
    refine v_goto (pc := 9) 18 O dL_run_9 (by decide) ?_
    refine v_iconst (pc := 18) O dL_run_18 ic_0 ?_
    exact v_iret3 (pc := 19) O (Nat.le_refl _) dL_run_19)
def hhL_walk : Hh := [(0, 9, 12, 13), (0, 9, 15, 21)]
theorem cwh_L_walk : Cond.codeWith yL_walk cL_walk 4 (some .int) hhL_walk ∈ tb := tb_of 1623 (by decide +kernel) (by decide +kernel)
theorem mwh_L_walk : MWh yL_walk cL_walk 4 (some .int) hhL_walk 3 := ⟨cwh_L_walk, ini_L, by decide +kernel⟩
theorem hd_L_walk_0 : HdP RL hhL_walk 4 0 12 := ⟨[], [(0, 9, 15, 21)], (0, 9, 12, 13), "java/lang/IllegalArgumentException", rfl, rfl, fun _ h => absurd h List.not_mem_nil, by decide, by decide, by decide, cn_L_13, rfl⟩
theorem hd_L_walk_2 : HdP RL hhL_walk 4 2 15 := ⟨[(0, 9, 12, 13)], [], (0, 9, 15, 21), "java/lang/UnsupportedOperationException", rfl, rfl, List.forall_mem_cons.mpr ⟨⟨by decide, "java/lang/IllegalArgumentException", by decide, by decide, cn_L_13⟩, fun _ h => absurd h List.not_mem_nil⟩, by decide, by decide, by decide, cn_L_21, rfl⟩
def f_L_walk (N nu : Nat) (K : Nat → Nat) (x1 : Int32) (D : Dat) : Option (Int32 × Dat) :=
  (f_X11_walk N nu K x1 D).bind (fun z => match z.1 with | .inr r => some (0, sL z.2 262 (0 : Int32).toNatClampNeg r.toInt64) | .inl e => if e = 0 then some (1, z.2) else if e = 2 then some (2, z.2) else none)
set_option maxHeartbeats 4000000 in
theorem c_L_walk {l : Launch} {w : Wx} {N nu n : Nat} {K : Nat → Nat} (hl : l.stackTraces = false) (hm : wlm w = true) {x1 : Int32} {D : Dat} {z : Int32 × Dat} (h : f_L_walk N nu K x1 D = some z) : C3 l w yL_walk cL_walk 4 (some .int) hhL_walk 303 6715 1 6 [.ref (wb w + pp 0), .int x1, .ref (wb w + pp 262)] n nu K D (some (.int z.1)) K z.2 :=
  C3.of (by decide) (Nat.le_of_ble_eq_true rfl) (fun X e1 e2 e3 e4 e5 hT O => by
  subst e1
  subst e2
  show V X _ n (Ax nu K 1 6) D 0 [(0, .ref (bo X + pp 0)), (1, .int x1), (2, .ref (bo X + pp 262))] []
  unfold f_L_walk at h
  obtain ⟨z0, hz0, h⟩ := bind_some h
  obtain ⟨z1, D1⟩ := z0
  refine v_aload_n (pc := 0) O dL_walk_0 2 rfl ?_
  refine v_iconst (pc := 1) O dL_walk_1 ic_0 ?_
  refine v_aload_n (pc := 2) O dL_walk_2 0 rfl ?_
  refine v_iload_n (pc := 3) O dL_walk_3 1 rfl ?_
  cases z1 with
  | inl e =>
    by_cases g0 : e = 0
    · have h := (if_pos g0).symm.trans h
      subst g0
      obtain rfl := Option.some.inj h
      refine v_call1H (pc := 4) (n := n) (nu := nu) (K := K) (c := 1) (u := 6) (a := 0) (As := [.int x1]) (rest := [.int 0, .ref (bo X + pp 262)]) (e := 0) (D' := D1) (hp := 12) O hT hd_L_walk_0 ⟨by decide, by decide⟩ (c_X11_walk (n := n) (nu := nu) (c := 1) (u := 6) (K := K) hl hm hz0 :) mw_X11_walk im_X11_walk se_X11_walk ml_L_64 kq_0 (by decide) rfl rfl rfl (by decide) (by decide) (Nat.le_of_ble_eq_true rfl) dL_walk_4 rfl (fun n' q hq => ?_)
      refine v_astore_n (pc := 12) (lv' := [(3, .ref q), (0, .ref (bo X + pp 0)), (1, .int x1), (2, .ref (bo X + pp 262))]) O dL_walk_12 rfl (by rw [e3]; decide) rfl ?_
      refine v_iconst (pc := 13) O dL_walk_13 ic_1 ?_
      exact v_iret3 (pc := 14) O hq dL_walk_14
    · have h := (if_neg g0).symm.trans h
      by_cases g1 : e = 2
      · have h := (if_pos g1).symm.trans h
        subst g1
        obtain rfl := Option.some.inj h
        refine v_call1H (pc := 4) (n := n) (nu := nu) (K := K) (c := 1) (u := 6) (a := 0) (As := [.int x1]) (rest := [.int 0, .ref (bo X + pp 262)]) (e := 2) (D' := D1) (hp := 15) O hT hd_L_walk_2 ⟨by decide, by decide⟩ (c_X11_walk (n := n) (nu := nu) (c := 1) (u := 6) (K := K) hl hm hz0 :) mw_X11_walk im_X11_walk se_X11_walk ml_L_64 kq_0 (by decide) rfl rfl rfl (by decide) (by decide) (Nat.le_of_ble_eq_true rfl) dL_walk_4 rfl (fun n' q hq => ?_)
        refine v_astore_n (pc := 15) (lv' := [(3, .ref q), (0, .ref (bo X + pp 0)), (1, .int x1), (2, .ref (bo X + pp 262))]) O dL_walk_15 rfl (by rw [e3]; decide) rfl ?_
        refine v_iconst (pc := 16) O dL_walk_16 ic_2 ?_
        exact v_iret3 (pc := 17) O hq dL_walk_17
      · have h := (if_neg g1).symm.trans h
        cases h
  | inr r =>
    obtain rfl := Option.some.inj h
    refine v_call1C (pc := 4) (a := 0) (As := [.int x1]) (rest := [.int 0, .ref (bo X + pp 262)]) (r := some (.int r)) (D' := D1) O ⟨Nat.le_trans hT.2.1 (Nat.le_add_right _ _), Nat.le_trans hT.2.2 (Nat.le_add_right _ _)⟩ (c_X11_walk (n := n) (nu := nu) (c := 1) (u := 6) (K := K) hl hm hz0 :) mw_X11_walk im_X11_walk se_X11_walk ml_L_64 kq_0 (by decide) rfl rfl rfl (by decide) (by decide) (Nat.le_of_ble_eq_true rfl) dL_walk_4 rfl rfl ?_
    refine v_i2l (pc := 7) O dL_walk_7 ?_
    refine v_last (pc := 8) (a := 262) O kq_262 (inq lq_262 (by decide)) dL_walk_8 ?_
    refine v_goto (pc := 9) 18 O dL_walk_9 (by decide) ?_
    refine v_iconst (pc := 18) O dL_walk_18 ic_0 ?_
    exact v_iret3 (pc := 19) O (Nat.le_refl _) dL_walk_19)
def hhL_output : Hh := [(0, 10, 13, 13), (0, 10, 17, 36)]
theorem cwh_L_output : Cond.codeWith yL_output cL_output 5 (some .int) hhL_output ∈ tb := tb_of 1666 (by decide +kernel) (by decide +kernel)
theorem mwh_L_output : MWh yL_output cL_output 5 (some .int) hhL_output 4 := ⟨cwh_L_output, ini_L, by decide +kernel⟩
theorem hd_L_output_0 : HdP RL hhL_output 5 0 13 := ⟨[], [(0, 10, 17, 36)], (0, 10, 13, 13), "java/lang/IllegalArgumentException", rfl, rfl, fun _ h => absurd h List.not_mem_nil, by decide, by decide, by decide, cn_L_13, rfl⟩
theorem hd_L_output_4 : HdP RL hhL_output 5 4 17 := ⟨[(0, 10, 13, 13)], [], (0, 10, 17, 36), "java/util/NoSuchElementException", rfl, rfl, List.forall_mem_cons.mpr ⟨⟨by decide, "java/lang/IllegalArgumentException", by decide, by decide, cn_L_13⟩, fun _ h => absurd h List.not_mem_nil⟩, by decide, by decide, by decide, cn_L_36, rfl⟩
def f_L_output (N nu : Nat) (K : Nat → Nat) (x1 : Int32) (x2 : Int32) (D : Dat) : Option (Int32 × Dat) :=
  (f_X11_output x1 x2 D).bind (fun z => match z.1 with | .inr r => some (0, sL z.2 262 (0 : Int32).toNatClampNeg r.toInt64) | .inl e => if e = 0 then some (1, z.2) else if e = 4 then some (2, z.2) else none)
set_option maxHeartbeats 4000000 in
theorem c_L_output {l : Launch} {w : Wx} {N nu n : Nat} {K : Nat → Nat} (hl : l.stackTraces = false) (hm : wlm w = true) {x1 : Int32} {x2 : Int32} {D : Dat} {z : Int32 × Dat} (h : f_L_output N nu K x1 x2 D = some z) : C3 l w yL_output cL_output 5 (some .int) hhL_output 7 122 1 6 [.ref (wb w + pp 0), .int x1, .int x2, .ref (wb w + pp 262)] n nu K D (some (.int z.1)) K z.2 :=
  C3.of (by decide) (Nat.le_of_ble_eq_true rfl) (fun X e1 e2 e3 e4 e5 hT O => by
  subst e1
  subst e2
  show V X _ n (Ax nu K 1 6) D 0 [(0, .ref (bo X + pp 0)), (1, .int x1), (2, .int x2), (3, .ref (bo X + pp 262))] []
  unfold f_L_output at h
  obtain ⟨z0, hz0, h⟩ := bind_some h
  obtain ⟨z1, D1⟩ := z0
  refine v_aload_n (pc := 0) O dL_output_0 3 rfl ?_
  refine v_iconst (pc := 1) O dL_output_1 ic_0 ?_
  refine v_aload_n (pc := 2) O dL_output_2 0 rfl ?_
  refine v_iload_n (pc := 3) O dL_output_3 1 rfl ?_
  refine v_iload_n (pc := 4) O dL_output_4 2 rfl ?_
  cases z1 with
  | inl e =>
    by_cases g0 : e = 0
    · have h := (if_pos g0).symm.trans h
      subst g0
      obtain rfl := Option.some.inj h
      refine v_call1H (pc := 5) (n := n) (nu := nu) (K := K) (c := 1) (u := 6) (a := 0) (As := [.int x1, .int x2]) (rest := [.int 0, .ref (bo X + pp 262)]) (e := 0) (D' := D1) (hp := 13) O hT hd_L_output_0 ⟨by decide, by decide⟩ (c_X11_output (n := n) (nu := nu) (c := 1) (u := 6) (K := K) hl hm hz0 :) mw_X11_output im_X11_output se_X11_output ml_L_67 kq_0 (by decide) rfl rfl rfl (by decide) (by decide) (Nat.le_of_ble_eq_true rfl) dL_output_5 rfl (fun n' q hq => ?_)
      refine v_astore (pc := 13) (lv' := [(4, .ref q), (0, .ref (bo X + pp 0)), (1, .int x1), (2, .int x2), (3, .ref (bo X + pp 262))]) O dL_output_13 (by rw [e3]; decide) rfl ?_
      refine v_iconst (pc := 15) O dL_output_15 ic_1 ?_
      exact v_iret3 (pc := 16) O hq dL_output_16
    · have h := (if_neg g0).symm.trans h
      by_cases g1 : e = 4
      · have h := (if_pos g1).symm.trans h
        subst g1
        obtain rfl := Option.some.inj h
        refine v_call1H (pc := 5) (n := n) (nu := nu) (K := K) (c := 1) (u := 6) (a := 0) (As := [.int x1, .int x2]) (rest := [.int 0, .ref (bo X + pp 262)]) (e := 4) (D' := D1) (hp := 17) O hT hd_L_output_4 ⟨by decide, by decide⟩ (c_X11_output (n := n) (nu := nu) (c := 1) (u := 6) (K := K) hl hm hz0 :) mw_X11_output im_X11_output se_X11_output ml_L_67 kq_0 (by decide) rfl rfl rfl (by decide) (by decide) (Nat.le_of_ble_eq_true rfl) dL_output_5 rfl (fun n' q hq => ?_)
        refine v_astore (pc := 17) (lv' := [(4, .ref q), (0, .ref (bo X + pp 0)), (1, .int x1), (2, .int x2), (3, .ref (bo X + pp 262))]) O dL_output_17 (by rw [e3]; decide) rfl ?_
        refine v_iconst (pc := 19) O dL_output_19 ic_2 ?_
        exact v_iret3 (pc := 20) O hq dL_output_20
      · have h := (if_neg g1).symm.trans h
        cases h
  | inr r =>
    obtain rfl := Option.some.inj h
    refine v_call1C (pc := 5) (a := 0) (As := [.int x1, .int x2]) (rest := [.int 0, .ref (bo X + pp 262)]) (r := some (.int r)) (D' := D1) O ⟨Nat.le_trans hT.2.1 (Nat.le_add_right _ _), Nat.le_trans hT.2.2 (Nat.le_add_right _ _)⟩ (c_X11_output (n := n) (nu := nu) (c := 1) (u := 6) (K := K) hl hm hz0 :) mw_X11_output im_X11_output se_X11_output ml_L_67 kq_0 (by decide) rfl rfl rfl (by decide) (by decide) (Nat.le_of_ble_eq_true rfl) dL_output_5 rfl rfl ?_
    refine v_i2l (pc := 8) O dL_output_8 ?_
    refine v_last (pc := 9) (a := 262) O kq_262 (inq lq_262 (by decide)) dL_output_9 ?_
    refine v_goto (pc := 10) 21 O dL_output_10 (by decide) ?_
    refine v_iconst (pc := 21) O dL_output_21 ic_0 ?_
    exact v_iret3 (pc := 22) O (Nat.le_refl _) dL_output_22)
def hhL_value : Hh := [(0, 9, 12, 13)]
theorem cwh_L_value : Cond.codeWith yL_value cL_value 4 (some .int) hhL_value ∈ tb := tb_of 1682 (by decide +kernel) (by decide +kernel)
theorem mwh_L_value : MWh yL_value cL_value 4 (some .int) hhL_value 3 := ⟨cwh_L_value, ini_L, by decide +kernel⟩
theorem hd_L_value_0 : HdP RL hhL_value 4 0 12 := ⟨[], [], (0, 9, 12, 13), "java/lang/IllegalArgumentException", rfl, rfl, fun _ h => absurd h List.not_mem_nil, by decide, by decide, by decide, cn_L_13, rfl⟩
def f_L_value (N nu : Nat) (K : Nat → Nat) (x1 : Int32) (D : Dat) : Option (Int32 × Dat) :=
  (f_X11_value x1 D).bind (fun z => match z.1 with | .inr r => some (0, sL z.2 262 (0 : Int32).toNatClampNeg r.toInt64) | .inl e => if e = 0 then some (1, z.2) else none)
set_option maxHeartbeats 4000000 in
theorem c_L_value {l : Launch} {w : Wx} {N nu n : Nat} {K : Nat → Nat} (hl : l.stackTraces = false) (hm : wlm w = true) {x1 : Int32} {D : Dat} {z : Int32 × Dat} (h : f_L_value N nu K x1 D = some z) : C3 l w yL_value cL_value 4 (some .int) hhL_value 7 121 1 6 [.ref (wb w + pp 0), .int x1, .ref (wb w + pp 262)] n nu K D (some (.int z.1)) K z.2 :=
  C3.of (by decide) (Nat.le_of_ble_eq_true rfl) (fun X e1 e2 e3 e4 e5 hT O => by
  subst e1
  subst e2
  show V X _ n (Ax nu K 1 6) D 0 [(0, .ref (bo X + pp 0)), (1, .int x1), (2, .ref (bo X + pp 262))] []
  unfold f_L_value at h
  obtain ⟨z0, hz0, h⟩ := bind_some h
  obtain ⟨z1, D1⟩ := z0
  refine v_aload_n (pc := 0) O dL_value_0 2 rfl ?_
  refine v_iconst (pc := 1) O dL_value_1 ic_0 ?_
  refine v_aload_n (pc := 2) O dL_value_2 0 rfl ?_
  refine v_iload_n (pc := 3) O dL_value_3 1 rfl ?_
  cases z1 with
  | inl e =>
    by_cases g0 : e = 0
    · have h := (if_pos g0).symm.trans h
      subst g0
      obtain rfl := Option.some.inj h
      refine v_call1H (pc := 4) (n := n) (nu := nu) (K := K) (c := 1) (u := 6) (a := 0) (As := [.int x1]) (rest := [.int 0, .ref (bo X + pp 262)]) (e := 0) (D' := D1) (hp := 12) O hT hd_L_value_0 ⟨by decide, by decide⟩ (c_X11_value (n := n) (nu := nu) (c := 1) (u := 6) (K := K) hl hm hz0 :) mw_X11_value im_X11_value se_X11_value ml_L_70 kq_0 (by decide) rfl rfl rfl (by decide) (by decide) (Nat.le_of_ble_eq_true rfl) dL_value_4 rfl (fun n' q hq => ?_)
      refine v_astore_n (pc := 12) (lv' := [(3, .ref q), (0, .ref (bo X + pp 0)), (1, .int x1), (2, .ref (bo X + pp 262))]) O dL_value_12 rfl (by rw [e3]; decide) rfl ?_
      refine v_iconst (pc := 13) O dL_value_13 ic_1 ?_
      exact v_iret3 (pc := 14) O hq dL_value_14
    · have h := (if_neg g0).symm.trans h
      cases h
  | inr r =>
    obtain rfl := Option.some.inj h
    refine v_call1C (pc := 4) (a := 0) (As := [.int x1]) (rest := [.int 0, .ref (bo X + pp 262)]) (r := some (.int r)) (D' := D1) O ⟨Nat.le_trans hT.2.1 (Nat.le_add_right _ _), Nat.le_trans hT.2.2 (Nat.le_add_right _ _)⟩ (c_X11_value (n := n) (nu := nu) (c := 1) (u := 6) (K := K) hl hm hz0 :) mw_X11_value im_X11_value se_X11_value ml_L_70 kq_0 (by decide) rfl rfl rfl (by decide) (by decide) (Nat.le_of_ble_eq_true rfl) dL_value_4 rfl rfl ?_
    refine v_i2l (pc := 7) O dL_value_7 ?_
    refine v_last (pc := 8) (a := 262) O kq_262 (inq lq_262 (by decide)) dL_value_8 ?_
    refine v_goto (pc := 9) 15 O dL_value_9 (by decide) ?_
    refine v_iconst (pc := 15) O dL_value_15 ic_0 ?_
    exact v_iret3 (pc := 16) O (Nat.le_refl _) dL_value_16)
def hhL_instruction : Hh := [(0, 10, 13, 36)]
theorem cwh_L_instruction : Cond.codeWith yL_instruction cL_instruction 5 (some .int) hhL_instruction ∈ tb := tb_of 1693 (by decide +kernel) (by decide +kernel)
theorem mwh_L_instruction : MWh yL_instruction cL_instruction 5 (some .int) hhL_instruction 4 := ⟨cwh_L_instruction, ini_L, by decide +kernel⟩
theorem hd_L_instruction_4 : HdP RL hhL_instruction 5 4 13 := ⟨[], [], (0, 10, 13, 36), "java/util/NoSuchElementException", rfl, rfl, fun _ h => absurd h List.not_mem_nil, by decide, by decide, by decide, cn_L_36, rfl⟩
def f_L_instruction (N nu : Nat) (K : Nat → Nat) (x1 : Int32) (x2 : Int32) (D : Dat) : Option (Int32 × Dat) :=
  (f_X11_instruction x1 x2 D).bind (fun z => match z.1 with | .inr r => some (0, sL z.2 262 (0 : Int32).toNatClampNeg r.toInt64) | .inl e => if e = 4 then some (1, z.2) else none)
set_option maxHeartbeats 4000000 in
theorem c_L_instruction {l : Launch} {w : Wx} {N nu n : Nat} {K : Nat → Nat} (hl : l.stackTraces = false) (hm : wlm w = true) {x1 : Int32} {x2 : Int32} {D : Dat} {z : Int32 × Dat} (h : f_L_instruction N nu K x1 x2 D = some z) : C3 l w yL_instruction cL_instruction 5 (some .int) hhL_instruction 7 122 1 6 [.ref (wb w + pp 0), .int x1, .int x2, .ref (wb w + pp 262)] n nu K D (some (.int z.1)) K z.2 :=
  C3.of (by decide) (Nat.le_of_ble_eq_true rfl) (fun X e1 e2 e3 e4 e5 hT O => by
  subst e1
  subst e2
  show V X _ n (Ax nu K 1 6) D 0 [(0, .ref (bo X + pp 0)), (1, .int x1), (2, .int x2), (3, .ref (bo X + pp 262))] []
  unfold f_L_instruction at h
  obtain ⟨z0, hz0, h⟩ := bind_some h
  obtain ⟨z1, D1⟩ := z0
  refine v_aload_n (pc := 0) O dL_instruction_0 3 rfl ?_
  refine v_iconst (pc := 1) O dL_instruction_1 ic_0 ?_
  refine v_aload_n (pc := 2) O dL_instruction_2 0 rfl ?_
  refine v_iload_n (pc := 3) O dL_instruction_3 1 rfl ?_
  refine v_iload_n (pc := 4) O dL_instruction_4 2 rfl ?_
  cases z1 with
  | inl e =>
    by_cases g0 : e = 4
    · have h := (if_pos g0).symm.trans h
      subst g0
      obtain rfl := Option.some.inj h
      refine v_call1H (pc := 5) (n := n) (nu := nu) (K := K) (c := 1) (u := 6) (a := 0) (As := [.int x1, .int x2]) (rest := [.int 0, .ref (bo X + pp 262)]) (e := 4) (D' := D1) (hp := 13) O hT hd_L_instruction_4 ⟨by decide, by decide⟩ (c_X11_instruction (n := n) (nu := nu) (c := 1) (u := 6) (K := K) hl hm hz0 :) mw_X11_instruction im_X11_instruction se_X11_instruction ml_L_73 kq_0 (by decide) rfl rfl rfl (by decide) (by decide) (Nat.le_of_ble_eq_true rfl) dL_instruction_5 rfl (fun n' q hq => ?_)
      refine v_astore (pc := 13) (lv' := [(4, .ref q), (0, .ref (bo X + pp 0)), (1, .int x1), (2, .int x2), (3, .ref (bo X + pp 262))]) O dL_instruction_13 (by rw [e3]; decide) rfl ?_
      refine v_iconst (pc := 15) O dL_instruction_15 ic_1 ?_
      exact v_iret3 (pc := 16) O hq dL_instruction_16
    · have h := (if_neg g0).symm.trans h
      cases h
  | inr r =>
    obtain rfl := Option.some.inj h
    refine v_call1C (pc := 5) (a := 0) (As := [.int x1, .int x2]) (rest := [.int 0, .ref (bo X + pp 262)]) (r := some (.int r)) (D' := D1) O ⟨Nat.le_trans hT.2.1 (Nat.le_add_right _ _), Nat.le_trans hT.2.2 (Nat.le_add_right _ _)⟩ (c_X11_instruction (n := n) (nu := nu) (c := 1) (u := 6) (K := K) hl hm hz0 :) mw_X11_instruction im_X11_instruction se_X11_instruction ml_L_73 kq_0 (by decide) rfl rfl rfl (by decide) (by decide) (Nat.le_of_ble_eq_true rfl) dL_instruction_5 rfl rfl ?_
    refine v_i2l (pc := 8) O dL_instruction_8 ?_
    refine v_last (pc := 9) (a := 262) O kq_262 (inq lq_262 (by decide)) dL_instruction_9 ?_
    refine v_goto (pc := 10) 17 O dL_instruction_10 (by decide) ?_
    refine v_iconst (pc := 17) O dL_instruction_17 ic_0 ?_
    exact v_iret3 (pc := 18) O (Nat.le_refl _) dL_instruction_18)
def hhL_count : Hh := [(0, 9, 12, 13)]
theorem cwh_L_count : Cond.codeWith yL_count cL_count 4 (some .int) hhL_count ∈ tb := tb_of 1701 (by decide +kernel) (by decide +kernel)
theorem mwh_L_count : MWh yL_count cL_count 4 (some .int) hhL_count 3 := ⟨cwh_L_count, ini_L, by decide +kernel⟩
theorem hd_L_count_0 : HdP RL hhL_count 4 0 12 := ⟨[], [], (0, 9, 12, 13), "java/lang/IllegalArgumentException", rfl, rfl, fun _ h => absurd h List.not_mem_nil, by decide, by decide, by decide, cn_L_13, rfl⟩
def f_L_count (N nu : Nat) (K : Nat → Nat) (x1 : Int32) (D : Dat) : Option (Int32 × Dat) :=
  (f_X11_count x1 D).bind (fun z => match z.1 with | .inr r => some (0, sL z.2 262 (0 : Int32).toNatClampNeg r.toInt64) | .inl e => if e = 0 then some (1, z.2) else none)
set_option maxHeartbeats 4000000 in
theorem c_L_count {l : Launch} {w : Wx} {N nu n : Nat} {K : Nat → Nat} (hl : l.stackTraces = false) (hm : wlm w = true) {x1 : Int32} {D : Dat} {z : Int32 × Dat} (h : f_L_count N nu K x1 D = some z) : C3 l w yL_count cL_count 4 (some .int) hhL_count 7 121 1 6 [.ref (wb w + pp 0), .int x1, .ref (wb w + pp 262)] n nu K D (some (.int z.1)) K z.2 :=
  C3.of (by decide) (Nat.le_of_ble_eq_true rfl) (fun X e1 e2 e3 e4 e5 hT O => by
  subst e1
  subst e2
  show V X _ n (Ax nu K 1 6) D 0 [(0, .ref (bo X + pp 0)), (1, .int x1), (2, .ref (bo X + pp 262))] []
  unfold f_L_count at h
  obtain ⟨z0, hz0, h⟩ := bind_some h
  obtain ⟨z1, D1⟩ := z0
  refine v_aload_n (pc := 0) O dL_count_0 2 rfl ?_
  refine v_iconst (pc := 1) O dL_count_1 ic_0 ?_
  refine v_aload_n (pc := 2) O dL_count_2 0 rfl ?_
  refine v_iload_n (pc := 3) O dL_count_3 1 rfl ?_
  cases z1 with
  | inl e =>
    by_cases g0 : e = 0
    · have h := (if_pos g0).symm.trans h
      subst g0
      obtain rfl := Option.some.inj h
      refine v_call1H (pc := 4) (n := n) (nu := nu) (K := K) (c := 1) (u := 6) (a := 0) (As := [.int x1]) (rest := [.int 0, .ref (bo X + pp 262)]) (e := 0) (D' := D1) (hp := 12) O hT hd_L_count_0 ⟨by decide, by decide⟩ (c_X11_count (n := n) (nu := nu) (c := 1) (u := 6) (K := K) hl hm hz0 :) mw_X11_count im_X11_count se_X11_count ml_L_77 kq_0 (by decide) rfl rfl rfl (by decide) (by decide) (Nat.le_of_ble_eq_true rfl) dL_count_4 rfl (fun n' q hq => ?_)
      refine v_astore_n (pc := 12) (lv' := [(3, .ref q), (0, .ref (bo X + pp 0)), (1, .int x1), (2, .ref (bo X + pp 262))]) O dL_count_12 rfl (by rw [e3]; decide) rfl ?_
      refine v_iconst (pc := 13) O dL_count_13 ic_1 ?_
      exact v_iret3 (pc := 14) O hq dL_count_14
    · have h := (if_neg g0).symm.trans h
      cases h
  | inr r =>
    obtain rfl := Option.some.inj h
    refine v_call1C (pc := 4) (a := 0) (As := [.int x1]) (rest := [.int 0, .ref (bo X + pp 262)]) (r := some (.int r)) (D' := D1) O ⟨Nat.le_trans hT.2.1 (Nat.le_add_right _ _), Nat.le_trans hT.2.2 (Nat.le_add_right _ _)⟩ (c_X11_count (n := n) (nu := nu) (c := 1) (u := 6) (K := K) hl hm hz0 :) mw_X11_count im_X11_count se_X11_count ml_L_77 kq_0 (by decide) rfl rfl rfl (by decide) (by decide) (Nat.le_of_ble_eq_true rfl) dL_count_4 rfl rfl ?_
    refine v_i2l (pc := 7) O dL_count_7 ?_
    refine v_last (pc := 8) (a := 262) O kq_262 (inq lq_262 (by decide)) dL_count_8 ?_
    refine v_goto (pc := 9) 15 O dL_count_9 (by decide) ?_
    refine v_iconst (pc := 15) O dL_count_15 ic_0 ?_
    exact v_iret3 (pc := 16) O (Nat.le_refl _) dL_count_16)
