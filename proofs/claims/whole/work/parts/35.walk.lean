theorem cw_X3_pop : Cond.code yX3_pop cX3_pop 1 (some .int) ∈ tb := tb_of 1577 (by decide +kernel) (by decide +kernel)
theorem mw_X3_pop : MW yX3_pop cX3_pop 1 (some .int) 0 := ⟨cw_X3_pop, ini_X3, by decide +kernel⟩
theorem im_X3_pop : Cond.instanceMethod yX3_pop ∈ tb := tb_of 1575 (by decide +kernel) (by decide +kernel)
theorem se_X3_pop : Cond.selects (yX3_pop).cls yX3_pop yX3_pop ∈ tb := tb_of 1576 (by decide +kernel) (by decide +kernel)
theorem ml_X3_81 : Cond.methodLink RX3 81 yX3_pop ∈ tb := tb_of 1574 (by decide +kernel) (by decide +kernel)
theorem ml_X9_132 : Cond.methodLink RX9 132 yJ7_fill_53178 ∈ tb := tb_of 1333 (by decide +kernel) (by decide +kernel)
theorem fl_X1_54 : Cond.fieldLink RX1 54 RX7 (TX7 0).2.1 (TX7 0).2.2.1 ∈ tb := tb_of 1020 (by decide +kernel) (by decide +kernel)
theorem gf_X7_0 : FI 7 RX7 TX7 10 tyX7 0 0 := ⟨rfl, inb_X7, tyX7_ok, nmX7, by decide, by decide, rfl, rfl, rfl⟩
theorem fl_X1_59 : Cond.fieldLink RX1 59 RX7 (TX7 2).2.1 (TX7 2).2.2.1 ∈ tb := tb_of 1025 (by decide +kernel) (by decide +kernel)
theorem gf_X7_2 : FI 7 RX7 TX7 10 tyX7 2 0 := ⟨rfl, inb_X7, tyX7_ok, nmX7, by decide, by decide, rfl, rfl, rfl⟩
theorem cw_X3_getFromRow : Cond.code yX3_getFromRow cX3_getFromRow 3 none ∈ tb := tb_of 1604 (by decide +kernel) (by decide +kernel)
theorem mw_X3_getFromRow : MW yX3_getFromRow cX3_getFromRow 3 none 2 := ⟨cw_X3_getFromRow, ini_X3, by decide +kernel⟩
theorem im_X3_getFromRow : Cond.instanceMethod yX3_getFromRow ∈ tb := tb_of 1603 (by decide +kernel) (by decide +kernel)
theorem se_X3_getFromRow : Cond.selects (yX3_getFromRow).cls yX3_getFromRow yX3_getFromRow ∈ tb := tb_of 76 (by decide +kernel) (by decide +kernel)
theorem ml_X3_102 : Cond.methodLink RX3 102 yX3_getFromRow ∈ tb := tb_of 1601 (by decide +kernel) (by decide +kernel)
theorem cw_X3_setInRow : Cond.code yX3_setInRow cX3_setInRow 4 none ∈ tb := tb_of 1608 (by decide +kernel) (by decide +kernel)
theorem mw_X3_setInRow : MW yX3_setInRow cX3_setInRow 4 none 3 := ⟨cw_X3_setInRow, ini_X3, by decide +kernel⟩
theorem im_X3_setInRow : Cond.instanceMethod yX3_setInRow ∈ tb := tb_of 1607 (by decide +kernel) (by decide +kernel)
theorem se_X3_setInRow : Cond.selects (yX3_setInRow).cls yX3_setInRow yX3_setInRow ∈ tb := tb_of 77 (by decide +kernel) (by decide +kernel)
theorem ml_X3_105 : Cond.methodLink RX3 105 yX3_setInRow ∈ tb := tb_of 1605 (by decide +kernel) (by decide +kernel)
theorem cw_X3_nextInput : Cond.code yX3_nextInput cX3_nextInput 3 (some .int) ∈ tb := tb_of 1612 (by decide +kernel) (by decide +kernel)
theorem mw_X3_nextInput : MW yX3_nextInput cX3_nextInput 3 (some .int) 1 := ⟨cw_X3_nextInput, ini_X3, by decide +kernel⟩
theorem im_X3_nextInput : Cond.instanceMethod yX3_nextInput ∈ tb := tb_of 1611 (by decide +kernel) (by decide +kernel)
theorem se_X3_nextInput : Cond.selects (yX3_nextInput).cls yX3_nextInput yX3_nextInput ∈ tb := tb_of 78 (by decide +kernel) (by decide +kernel)
theorem ml_X3_109 : Cond.methodLink RX3 109 yX3_nextInput ∈ tb := tb_of 1609 (by decide +kernel) (by decide +kernel)
theorem cw_X3_write : Cond.code yX3_write cX3_write 3 none ∈ tb := tb_of 1616 (by decide +kernel) (by decide +kernel)
theorem mw_X3_write : MW yX3_write cX3_write 3 none 2 := ⟨cw_X3_write, ini_X3, by decide +kernel⟩
theorem im_X3_write : Cond.instanceMethod yX3_write ∈ tb := tb_of 1615 (by decide +kernel) (by decide +kernel)
theorem se_X3_write : Cond.selects (yX3_write).cls yX3_write yX3_write ∈ tb := tb_of 79 (by decide +kernel) (by decide +kernel)
theorem ml_X3_112 : Cond.methodLink RX3 112 yX3_write ∈ tb := tb_of 1613 (by decide +kernel) (by decide +kernel)
theorem cl_X9_142 : Cond.constantLong RX9 142 (-1) ∈ tb := tb_of 1337 (by decide +kernel) (by decide +kernel)
theorem cw_X4_proc : Cond.code yX4_proc cX4_proc 2 (some (.object "FlowChain$Statement")) ∈ tb := tb_of 1216 (by decide +kernel) (by decide +kernel)
theorem mw_X4_proc : MW yX4_proc cX4_proc 2 (some (.object "FlowChain$Statement")) 1 := ⟨cw_X4_proc, ini_X4, by decide +kernel⟩
theorem im_X4_proc : Cond.instanceMethod yX4_proc ∈ tb := tb_of 1214 (by decide +kernel) (by decide +kernel)
theorem se_X4_proc : Cond.selects (yX4_proc).cls yX4_proc yX4_proc ∈ tb := tb_of 1215 (by decide +kernel) (by decide +kernel)
theorem cw_X1_set : Cond.code yX1_set cX1_set 4 none ∈ tb := tb_of 1188 (by decide +kernel) (by decide +kernel)
theorem mw_X1_set : MW yX1_set cX1_set 4 none 3 := ⟨cw_X1_set, ini_X1, by decide +kernel⟩
theorem im_X1_set : Cond.instanceMethod yX1_set ∈ tb := tb_of 1187 (by decide +kernel) (by decide +kernel)
theorem se_X1_set : Cond.selects (yX1_set).cls yX1_set yX1_set ∈ tb := tb_of 41 (by decide +kernel) (by decide +kernel)
theorem ml_X1_66 : Cond.methodLink RX1 66 yX1_set ∈ tb := tb_of 1185 (by decide +kernel) (by decide +kernel)
theorem fl_X1_75 : Cond.fieldLink RX1 75 RX7 (TX7 3).2.1 (TX7 3).2.2.1 ∈ tb := tb_of 1029 (by decide +kernel) (by decide +kernel)
theorem gf_X7_3 : FI 7 RX7 TX7 10 tyX7 3 0 := ⟨rfl, inb_X7, tyX7_ok, nmX7, by decide, by decide, rfl, rfl, rfl⟩
theorem cw_X1_goOverIf : Cond.code yX1_goOverIf cX1_goOverIf 4 none ∈ tb := tb_of 1202 (by decide +kernel) (by decide +kernel)
theorem mw_X1_goOverIf : MW yX1_goOverIf cX1_goOverIf 4 none 3 := ⟨cw_X1_goOverIf, ini_X1, by decide +kernel⟩
theorem im_X1_goOverIf : Cond.instanceMethod yX1_goOverIf ∈ tb := tb_of 1201 (by decide +kernel) (by decide +kernel)
theorem se_X1_goOverIf : Cond.selects (yX1_goOverIf).cls yX1_goOverIf yX1_goOverIf ∈ tb := tb_of 43 (by decide +kernel) (by decide +kernel)
theorem ml_X1_78 : Cond.methodLink RX1 78 yX1_goOverIf ∈ tb := tb_of 1199 (by decide +kernel) (by decide +kernel)
theorem cw_X1_goOverWhile : Cond.code yX1_goOverWhile cX1_goOverWhile 6 none ∈ tb := tb_of 1212 (by decide +kernel) (by decide +kernel)
theorem mw_X1_goOverWhile : MW yX1_goOverWhile cX1_goOverWhile 6 none 3 := ⟨cw_X1_goOverWhile, ini_X1, by decide +kernel⟩
theorem im_X1_goOverWhile : Cond.instanceMethod yX1_goOverWhile ∈ tb := tb_of 1211 (by decide +kernel) (by decide +kernel)
theorem se_X1_goOverWhile : Cond.selects (yX1_goOverWhile).cls yX1_goOverWhile yX1_goOverWhile ∈ tb := tb_of 44 (by decide +kernel) (by decide +kernel)
theorem ml_X1_81 : Cond.methodLink RX1 81 yX1_goOverWhile ∈ tb := tb_of 1209 (by decide +kernel) (by decide +kernel)
theorem ml_X1_84 : Cond.methodLink RX1 84 yX4_proc ∈ tb := tb_of 1213 (by decide +kernel) (by decide +kernel)
theorem fl_X1_88 : Cond.fieldLink RX1 88 RX7 (TX7 9).2.1 (TX7 9).2.2.1 ∈ tb := tb_of 1052 (by decide +kernel) (by decide +kernel)
theorem gf_X7_9 : FI 7 RX7 TX7 10 tyX7 9 2 := ⟨rfl, inb_X7, tyX7_ok, nmX7, by decide, by decide, rfl, rfl, rfl⟩
theorem cw_X3_reckon : Cond.code yX3_reckon cX3_reckon 4 none ∈ tb := tb_of 1620 (by decide +kernel) (by decide +kernel)
theorem mw_X3_reckon : MW yX3_reckon cX3_reckon 4 none 3 := ⟨cw_X3_reckon, ini_X3, by decide +kernel⟩
theorem im_X3_reckon : Cond.instanceMethod yX3_reckon ∈ tb := tb_of 1619 (by decide +kernel) (by decide +kernel)
theorem se_X3_reckon : Cond.selects (yX3_reckon).cls yX3_reckon yX3_reckon ∈ tb := tb_of 80 (by decide +kernel) (by decide +kernel)
theorem ml_X3_115 : Cond.methodLink RX3 115 yX3_reckon ∈ tb := tb_of 1617 (by decide +kernel) (by decide +kernel)
theorem cw_X9_heightFits : Cond.code yX9_heightFits cX9_heightFits 8 (some .boolean) ∈ tb := tb_of 1350 (by decide +kernel) (by decide +kernel)
theorem mw_X9_heightFits : MW yX9_heightFits cX9_heightFits 8 (some .boolean) 1 := ⟨cw_X9_heightFits, ini_X9, by decide +kernel⟩
theorem im_X9_heightFits : Cond.instanceMethod yX9_heightFits ∈ tb := tb_of 1349 (by decide +kernel) (by decide +kernel)
theorem se_X9_heightFits : Cond.selects (yX9_heightFits).cls yX9_heightFits yX9_heightFits ∈ tb := tb_of 57 (by decide +kernel) (by decide +kernel)
theorem ml_X9_147 : Cond.methodLink RX9 147 yX9_heightFits ∈ tb := tb_of 1347 (by decide +kernel) (by decide +kernel)
def f_X1_goThrough_s_b260 (rec : Option Nat → Int32 → Int32 → Dat → Option (Sum Nat Unit × Dat)) (N : Nat) (nu : Nat) (K : Nat → Nat) (rec_10 : Int32 → Int32 → Option Nat → Dat → Option (Sum Nat Unit × Dat)) (x2 : Int32) (x3 : Int32) (x4 : Option Nat) (D : Dat) : Option (Sum Nat Unit × Dat) :=
  (x4).bind (fun a1 => if kd K a1 = 7 then (rec_10 x2 x3 (dR D a1 9) D) else none)
set_option maxHeartbeats 4000000 in
theorem w_X1_goThrough_s_b260 {X : Cx} {n nu c u : Nat} {K : Nat → Nat} {rec : Option Nat → Int32 → Int32 → Dat → Option (Sum Nat Unit × Dat)} {N : Nat} {fr lc : Nat} {rec_10 : Int32 → Int32 → Option Nat → Dat → Option (Sum Nat Unit × Dat)} {z : Sum Nat Unit × Dat} (O : Ok X cX1_goThrough RX1 none (fr + 8) (lc + 146)) (hm : wlm (xw X) = true) (hn : xn X = 5) (hz : Z0 X (Ax nu K c u)) (hT : T1 X (zu z)) (hR : ∀ {n : Nat} {x1 : Option Nat} {x2 : Int32} {x3 : Int32} {D : Dat} {z : Sum Nat Unit × Dat}, rec x1 x2 x3 D = some z → C1 (xl X) (xw X) yX1_goThrough cX1_goThrough 5 none fr lc [.ref (wb (xw X) + 6), rv (wb (xw X)) x1, .int x2, .int x3] n (Ax nu K c u) D (zu z)) (hrec_10 : ∀ (x2 : Int32) (x3 : Int32) (x4 : Option Nat) (D : Dat), rec_10 x2 x3 x4 D = some z → V X (Q1 X n (Ax nu K c u) (zu z)) n (Ax nu K c u) D 10 [(0, .ref (bo X + 6)), (2, .int x2), (3, .int x3), (4, rv (bo X) x4)] []) (x2 : Int32) (x3 : Int32) (x4 : Option Nat) (D : Dat) (h : f_X1_goThrough_s_b260 rec N nu K rec_10 x2 x3 x4 D = some z) : V X (Q1 X n (Ax nu K c u) (zu z)) n (Ax nu K c u) D 260 [(0, .ref (bo X + 6)), (2, .int x2), (3, .int x3), (4, rv (bo X) x4)] [] := by
  unfold f_X1_goThrough_s_b260 at h
  refine v_aloadr (pc := 260) O dX1_goThrough_260 3 rfl ?_
  obtain ⟨a1, e2, h⟩ := bind_some h
  subst e2
  obtain ⟨c3, h⟩ := if_none h
  refine v_getR (pc := 262) (a := a1) O gf_X7_9 fl_X1_88 c3 dX1_goThrough_262 ?_
  refine v_astorer (pc := 265) (lv' := [(4, rv (bo X) (dR D a1 9)), (0, .ref (bo X + 6)), (2, .int x2), (3, .int x3)]) O dX1_goThrough_265 (by rw [hn]; decide) rfl ?_
  refine v_goto (pc := 267) 10 O dX1_goThrough_267 (by decide) ?_
  refine v_sub [1, 2, 3, 0] rfl ?_
  exact hrec_10 x2 x3 (dR D a1 9) D h
def f_X1_goThrough_s_b240 (rec : Option Nat → Int32 → Int32 → Dat → Option (Sum Nat Unit × Dat)) (N : Nat) (nu : Nat) (K : Nat → Nat) (rec_10 : Int32 → Int32 → Option Nat → Dat → Option (Sum Nat Unit × Dat)) (x2 : Int32) (x3 : Int32) (x4 : Option Nat) (D : Dat) : Option (Sum Nat Unit × Dat) :=
  (x4).bind (fun a4 => if kd K a4 = 7 then (((dR D 6 1)).bind (fun a7 => if a7 = 191 ∨ a7 = 196 then ((f_X4_proc a7 (dI D a4 2) D).bind (fun p10 => sb (rec p10.1 x2 (x3 + (1 : Int32)) p10.2) (fun p12 D14 => f_X1_goThrough_s_b260 rec N nu K rec_10 x2 x3 (some a4) D14))) else none)) else none)
set_option maxHeartbeats 4000000 in
theorem w_X1_goThrough_s_b240 {X : Cx} {n nu c u : Nat} {K : Nat → Nat} {rec : Option Nat → Int32 → Int32 → Dat → Option (Sum Nat Unit × Dat)} {N : Nat} {fr lc : Nat} {rec_10 : Int32 → Int32 → Option Nat → Dat → Option (Sum Nat Unit × Dat)} {z : Sum Nat Unit × Dat} (O : Ok X cX1_goThrough RX1 none (fr + 8) (lc + 146)) (hm : wlm (xw X) = true) (hn : xn X = 5) (hz : Z0 X (Ax nu K c u)) (hT : T1 X (zu z)) (hR : ∀ {n : Nat} {x1 : Option Nat} {x2 : Int32} {x3 : Int32} {D : Dat} {z : Sum Nat Unit × Dat}, rec x1 x2 x3 D = some z → C1 (xl X) (xw X) yX1_goThrough cX1_goThrough 5 none fr lc [.ref (wb (xw X) + 6), rv (wb (xw X)) x1, .int x2, .int x3] n (Ax nu K c u) D (zu z)) (hrec_10 : ∀ (x2 : Int32) (x3 : Int32) (x4 : Option Nat) (D : Dat), rec_10 x2 x3 x4 D = some z → V X (Q1 X n (Ax nu K c u) (zu z)) n (Ax nu K c u) D 10 [(0, .ref (bo X + 6)), (2, .int x2), (3, .int x3), (4, rv (bo X) x4)] []) (x2 : Int32) (x3 : Int32) (x4 : Option Nat) (D : Dat) (h : f_X1_goThrough_s_b240 rec N nu K rec_10 x2 x3 x4 D = some z) : V X (Q1 X n (Ax nu K c u) (zu z)) n (Ax nu K c u) D 240 [(0, .ref (bo X + 6)), (2, .int x2), (3, .int x3), (4, rv (bo X) x4)] [] := by
  unfold f_X1_goThrough_s_b240 at h
  refine v_aload_n (pc := 240) O dX1_goThrough_240 0 rfl ?_
  refine v_aload_n (pc := 241) O dX1_goThrough_241 0 rfl ?_
  refine v_getR (pc := 242) (a := 6) O gf_X1_1 fl_X1_31 kq_6 dX1_goThrough_242 ?_
  refine v_aloadr (pc := 245) O dX1_goThrough_245 3 rfl ?_
  obtain ⟨a4, e5, h⟩ := bind_some h
  subst e5
  obtain ⟨c6, h⟩ := if_none h
  refine v_getI (pc := 247) (a := a4) O gf_X7_2 fl_X1_59 c6 dX1_goThrough_247 ?_
  obtain ⟨a7, e8, h⟩ := bind_some h
  rw [e8]
  obtain ⟨c9, h⟩ := if_none h
  obtain ⟨p10, e11, h⟩ := bind_some h
  refine v_callV (pc := 250) (a := a7) (As := [.int (dI D a4 2)]) (rest := [.ref (bo X + 6)]) (r := (some (rv (bo X) p10.1))) (D' := p10.2) O (bb0 hz) (c_X4_proc hm c9 e11) mw_X4_proc im_X4_proc se_X4_proc ml_X1_84 (kt_X4 c9) (by decide) rfl rfl rfl (by omega) (by omega) (Nat.le_of_ble_eq_true rfl) dX1_goThrough_250 rfl rfl ?_
  refine v_iload_n (pc := 253) O dX1_goThrough_253 1 rfl ?_
  refine v_iload_n (pc := 254) O dX1_goThrough_254 2 rfl ?_
  refine v_iconst (pc := 255) O dX1_goThrough_255 ic_1 ?_
  refine v_iadd (pc := 256) O dX1_goThrough_256 ?_
  rcases sb_some h with ⟨p12, D14, e13, rfl⟩ | ⟨p12, D14, e13, h⟩
  · exact v_call1X (pc := 257) (a := 6) (As := [rv (bo X) p10.1, .int x2, .int (x3 + (1 : Int32))]) (rest := []) (e := p12) (D' := D14) O hz hT (hR e13) mw_X1_goThrough im_X1_goThrough se_X1_goThrough ml_X1_50 kq_6 (by decide) rfl rfl rfl (by omega) (by omega) (Nat.le_of_ble_eq_true rfl) dX1_goThrough_257 rfl
  · refine v_call1 (pc := 257) (a := 6) (As := [rv (bo X) p10.1, .int x2, .int (x3 + (1 : Int32))]) (rest := []) (r := none) (D' := D14) O hz (hR e13) mw_X1_goThrough im_X1_goThrough se_X1_goThrough ml_X1_50 kq_6 (by decide) rfl rfl rfl (by omega) (by omega) (Nat.le_of_ble_eq_true rfl) dX1_goThrough_257 rfl rfl ?_
    refine v_sub [0, 1, 2, 3] rfl ?_
    exact w_X1_goThrough_s_b260 O hm hn hz hT hR hrec_10 x2 x3 (some a4) D14 h
def f_X1_goThrough_s_b10 (rec : Option Nat → Int32 → Int32 → Dat → Option (Sum Nat Unit × Dat)) (N : Nat) (nu : Nat) (K : Nat → Nat) : Nat → Int32 → Int32 → Option Nat → Dat → Option (Sum Nat Unit × Dat)
  | 0, _, _, _, _ => none
  | g + 1, x2, x3, x4, D => oel x4 (some (.inr (), D)) (fun a15 => if kd K a15 = 7 then (if (dI D a15 0) = (2 : Int32) then ((f_X1_shadeOf N nu K (some a15) D).bind (fun p19 => sb (f_X1_set nu K (some a15) (dI D a15 2) (x2 ||| p19.1) p19.2) (fun p21 D23 => f_X1_goThrough_s_b260 rec N nu K (f_X1_goThrough_s_b10 rec N nu K g) x2 x3 (some a15) D23))) else (if (dI D a15 0) = (4 : Int32) then ((f_X1_shadeOf N nu K (some a15) D).bind (fun p25 => ((dR p25.2 6 1)).bind (fun a27 => if a27 = 191 ∨ a27 = 196 then ((f_X4_rowMark a27 (dI p25.2 a15 2) p25.2).bind (fun p30 => sb (f_X1_demand nu K (some a15) (x2 ||| p25.1) p30.1 p30.2) (fun p32 D34 => f_X1_goThrough_s_b260 rec N nu K (f_X1_goThrough_s_b10 rec N nu K g) x2 x3 (some a15) D34))) else none))) else (if (dI D a15 0) = (13 : Int32) then (sb (f_X1_demand nu K (some a15) x2 (dI D a15 3) D) (fun p36 D38 => (f_X2_shade nu K (dI D38 a15 3) D38).bind (fun p39 => sb (f_X1_set nu K (some a15) (dI D38 a15 2) p39.1 p39.2) (fun p41 D43 => f_X1_goThrough_s_b260 rec N nu K (f_X1_goThrough_s_b10 rec N nu K g) x2 x3 (some a15) D43)))) else (if (dI D a15 0) = (14 : Int32) then ((f_X1_shadeOf N nu K (some a15) D).bind (fun p45 => sb (f_X1_demand nu K (some a15) (x2 ||| p45.1) (dI p45.2 a15 3) p45.2) (fun p47 D49 => f_X1_goThrough_s_b260 rec N nu K (f_X1_goThrough_s_b10 rec N nu K g) x2 x3 (some a15) D49))) else (if (dI D a15 0) = (16 : Int32) then ((f_X1_shadeOf N nu K (some a15) D).bind (fun p51 => sb (f_X1_goOverIf rec N nu K (some a15) (x2 ||| p51.1) x3 p51.2) (fun p53 D55 => f_X1_goThrough_s_b260 rec N nu K (f_X1_goThrough_s_b10 rec N nu K g) x2 x3 (some a15) D55))) else (if (dI D a15 0) = (17 : Int32) then (sb (f_X1_goOverWhile rec N nu K (some a15) x2 x3 D) (fun p57 D59 => f_X1_goThrough_s_b260 rec N nu K (f_X1_goThrough_s_b10 rec N nu K g) x2 x3 (some a15) D59)) else (f_X1_goThrough_s_b240 rec N nu K (f_X1_goThrough_s_b10 rec N nu K g) x2 x3 (some a15) D))))))) else none)
set_option maxHeartbeats 4000000 in
theorem w_X1_goThrough_s_b10 {X : Cx} {n nu c u : Nat} {K : Nat → Nat} {rec : Option Nat → Int32 → Int32 → Dat → Option (Sum Nat Unit × Dat)} {N : Nat} {fr lc : Nat} {z : Sum Nat Unit × Dat} (O : Ok X cX1_goThrough RX1 none (fr + 8) (lc + 146)) (hm : wlm (xw X) = true) (hn : xn X = 5) (hz : Z0 X (Ax nu K c u)) (hT : T1 X (zu z)) (hR : ∀ {n : Nat} {x1 : Option Nat} {x2 : Int32} {x3 : Int32} {D : Dat} {z : Sum Nat Unit × Dat}, rec x1 x2 x3 D = some z → C1 (xl X) (xw X) yX1_goThrough cX1_goThrough 5 none fr lc [.ref (wb (xw X) + 6), rv (wb (xw X)) x1, .int x2, .int x3] n (Ax nu K c u) D (zu z)) : ∀ (g : Nat) (x2 : Int32) (x3 : Int32) (x4 : Option Nat) (D : Dat), f_X1_goThrough_s_b10 rec N nu K g x2 x3 x4 D = some z → V X (Q1 X n (Ax nu K c u) (zu z)) n (Ax nu K c u) D 10 [(0, .ref (bo X + 6)), (2, .int x2), (3, .int x3), (4, rv (bo X) x4)] [] := by
  intro g
  induction g with
  | zero => intro x2 x3 x4 D h; exact absurd h (by simp [f_X1_goThrough_s_b10])
  | succ g ih =>
    intro x2 x3 x4 D h
    rw [f_X1_goThrough_s_b10] at h
    refine v_aloadr (pc := 10) O dX1_goThrough_10 3 rfl ?_
    refine v_ifnull (pc := 12) 270 O dX1_goThrough_12 (by decide) (fun e16 => ?_) (fun a15 e16 => ?_)
    · subst e16
      have h := onone h
      obtain rfl := Option.some.inj h
      exact v_r1 (v_ret (pc := 270) O hz dX1_goThrough_270)
    · subst e16
      have h := osome h
      refine v_aload (pc := 15) O dX1_goThrough_15 3 rfl ?_
      obtain ⟨c17, h⟩ := if_none h
      refine v_getI (pc := 17) (a := a15) O gf_X7_0 fl_X1_54 c17 dX1_goThrough_17 ?_
      by_cases c18 : (dI D a15 0) = (2 : Int32)
      · have h := (if_pos c18).symm.trans h
        refine v_tableIn (pc := 20) 100 O dX1_goThrough_20 (by rw [c18]; decide) (by rw [c18]; decide) (by rw [c18]; rfl) (by decide) ?_
        refine v_aload_n (pc := 100) O dX1_goThrough_100 0 rfl ?_
        refine v_aload (pc := 101) O dX1_goThrough_101 3 rfl ?_
        refine v_aload (pc := 103) O dX1_goThrough_103 3 rfl ?_
        refine v_getI (pc := 105) (a := a15) O gf_X7_2 fl_X1_59 c17 dX1_goThrough_105 ?_
        refine v_iload_n (pc := 108) O dX1_goThrough_108 1 rfl ?_
        refine v_aload_n (pc := 109) O dX1_goThrough_109 0 rfl ?_
        refine v_aload (pc := 110) O dX1_goThrough_110 3 rfl ?_
        obtain ⟨p19, e20, h⟩ := bind_some h
        refine v_callV (pc := 112) (a := 6) (As := [.ref (bo X + a15)]) (rest := [.int x2, .int (dI D a15 2), .ref (bo X + a15), .ref (bo X + 6)]) (r := (some (.int p19.1))) (D' := p19.2) O (bb0 hz) (c_X1_shadeOf hm e20) mw_X1_shadeOf im_X1_shadeOf se_X1_shadeOf ml_X1_62 kq_6 (by decide) rfl rfl rfl (by omega) (by omega) (Nat.le_of_ble_eq_true rfl) dX1_goThrough_112 rfl rfl ?_
        refine v_ior (pc := 115) O dX1_goThrough_115 ?_
        rcases sb_some h with ⟨p21, D23, e22, rfl⟩ | ⟨p21, D23, e22, h⟩
        · exact v_call1X (pc := 116) (a := 6) (As := [.ref (bo X + a15), .int (dI D a15 2), .int (x2 ||| p19.1)]) (rest := []) (e := p21) (D' := D23) O hz hT (c_X1_set hT.2.1 hm e22) mw_X1_set im_X1_set se_X1_set ml_X1_66 kq_6 (by decide) rfl rfl rfl (by omega) (by omega) (Nat.le_of_ble_eq_true rfl) dX1_goThrough_116 rfl
        · refine v_call1 (pc := 116) (a := 6) (As := [.ref (bo X + a15), .int (dI D a15 2), .int (x2 ||| p19.1)]) (rest := []) (r := none) (D' := D23) O hz (c_X1_set hT.2.1 hm e22) mw_X1_set im_X1_set se_X1_set ml_X1_66 kq_6 (by decide) rfl rfl rfl (by omega) (by omega) (Nat.le_of_ble_eq_true rfl) dX1_goThrough_116 rfl rfl ?_
          refine v_goto (pc := 119) 260 O dX1_goThrough_119 (by decide) ?_
          refine v_sub [0, 1, 2, 3] rfl ?_
          exact w_X1_goThrough_s_b260 O hm hn hz hT hR ih x2 x3 (some a15) D23 h
      · have h := (if_neg c18).symm.trans h
        by_cases c24 : (dI D a15 0) = (4 : Int32)
        · have h := (if_pos c24).symm.trans h
          refine v_tableIn (pc := 20) 122 O dX1_goThrough_20 (by rw [c24]; decide) (by rw [c24]; decide) (by rw [c24]; rfl) (by decide) ?_
          refine v_aload_n (pc := 122) O dX1_goThrough_122 0 rfl ?_
          refine v_aload (pc := 123) O dX1_goThrough_123 3 rfl ?_
          refine v_iload_n (pc := 125) O dX1_goThrough_125 1 rfl ?_
          refine v_aload_n (pc := 126) O dX1_goThrough_126 0 rfl ?_
          refine v_aload (pc := 127) O dX1_goThrough_127 3 rfl ?_
          obtain ⟨p25, e26, h⟩ := bind_some h
          refine v_callV (pc := 129) (a := 6) (As := [.ref (bo X + a15)]) (rest := [.int x2, .ref (bo X + a15), .ref (bo X + 6)]) (r := (some (.int p25.1))) (D' := p25.2) O (bb0 hz) (c_X1_shadeOf hm e26) mw_X1_shadeOf im_X1_shadeOf se_X1_shadeOf ml_X1_62 kq_6 (by decide) rfl rfl rfl (by omega) (by omega) (Nat.le_of_ble_eq_true rfl) dX1_goThrough_129 rfl rfl ?_
          refine v_ior (pc := 132) O dX1_goThrough_132 ?_
          refine v_aload_n (pc := 133) O dX1_goThrough_133 0 rfl ?_
          refine v_getR (pc := 134) (a := 6) O gf_X1_1 fl_X1_31 kq_6 dX1_goThrough_134 ?_
          refine v_aload (pc := 137) O dX1_goThrough_137 3 rfl ?_
          refine v_getI (pc := 139) (a := a15) O gf_X7_2 fl_X1_59 c17 dX1_goThrough_139 ?_
          obtain ⟨a27, e28, h⟩ := bind_some h
          rw [e28]
          obtain ⟨c29, h⟩ := if_none h
          obtain ⟨p30, e31, h⟩ := bind_some h
          refine v_callV (pc := 142) (a := a27) (As := [.int (dI p25.2 a15 2)]) (rest := [.int (x2 ||| p25.1), .ref (bo X + a15), .ref (bo X + 6)]) (r := (some (.int p30.1))) (D' := p30.2) O (bb0 hz) (c_X4_rowMark hm c29 e31) mw_X4_rowMark im_X4_rowMark se_X4_rowMark ml_X1_69 (kt_X4 c29) (by decide) rfl rfl rfl (by omega) (by omega) (Nat.le_of_ble_eq_true rfl) dX1_goThrough_142 rfl rfl ?_
          rcases sb_some h with ⟨p32, D34, e33, rfl⟩ | ⟨p32, D34, e33, h⟩
          · exact v_call1X (pc := 145) (a := 6) (As := [.ref (bo X + a15), .int (x2 ||| p25.1), .int p30.1]) (rest := []) (e := p32) (D' := D34) O hz hT (c_X1_demand hT.2.1 hm e33) mw_X1_demand im_X1_demand se_X1_demand ml_X1_72 kq_6 (by decide) rfl rfl rfl (by omega) (by omega) (Nat.le_of_ble_eq_true rfl) dX1_goThrough_145 rfl
          · refine v_call1 (pc := 145) (a := 6) (As := [.ref (bo X + a15), .int (x2 ||| p25.1), .int p30.1]) (rest := []) (r := none) (D' := D34) O hz (c_X1_demand hT.2.1 hm e33) mw_X1_demand im_X1_demand se_X1_demand ml_X1_72 kq_6 (by decide) rfl rfl rfl (by omega) (by omega) (Nat.le_of_ble_eq_true rfl) dX1_goThrough_145 rfl rfl ?_
            refine v_goto (pc := 148) 260 O dX1_goThrough_148 (by decide) ?_
            refine v_sub [0, 1, 2, 3] rfl ?_
            exact w_X1_goThrough_s_b260 O hm hn hz hT hR ih x2 x3 (some a15) D34 h
        · have h := (if_neg c24).symm.trans h
          by_cases c35 : (dI D a15 0) = (13 : Int32)
          · have h := (if_pos c35).symm.trans h
            refine v_tableIn (pc := 20) 173 O dX1_goThrough_20 (by rw [c35]; decide) (by rw [c35]; decide) (by rw [c35]; rfl) (by decide) ?_
            refine v_aload_n (pc := 173) O dX1_goThrough_173 0 rfl ?_
            refine v_aload (pc := 174) O dX1_goThrough_174 3 rfl ?_
            refine v_iload_n (pc := 176) O dX1_goThrough_176 1 rfl ?_
            refine v_aload (pc := 177) O dX1_goThrough_177 3 rfl ?_
            refine v_getI (pc := 179) (a := a15) O gf_X7_3 fl_X1_75 c17 dX1_goThrough_179 ?_
            rcases sb_some h with ⟨p36, D38, e37, rfl⟩ | ⟨p36, D38, e37, h⟩
            · exact v_call1X (pc := 182) (a := 6) (As := [.ref (bo X + a15), .int x2, .int (dI D a15 3)]) (rest := []) (e := p36) (D' := D38) O hz hT (c_X1_demand hT.2.1 hm e37) mw_X1_demand im_X1_demand se_X1_demand ml_X1_72 kq_6 (by decide) rfl rfl rfl (by omega) (by omega) (Nat.le_of_ble_eq_true rfl) dX1_goThrough_182 rfl
            · refine v_call1 (pc := 182) (a := 6) (As := [.ref (bo X + a15), .int x2, .int (dI D a15 3)]) (rest := []) (r := none) (D' := D38) O hz (c_X1_demand hT.2.1 hm e37) mw_X1_demand im_X1_demand se_X1_demand ml_X1_72 kq_6 (by decide) rfl rfl rfl (by omega) (by omega) (Nat.le_of_ble_eq_true rfl) dX1_goThrough_182 rfl rfl ?_
              refine v_aload_n (pc := 185) O dX1_goThrough_185 0 rfl ?_
              refine v_aload (pc := 186) O dX1_goThrough_186 3 rfl ?_
              refine v_aload (pc := 188) O dX1_goThrough_188 3 rfl ?_
              refine v_getI (pc := 190) (a := a15) O gf_X7_2 fl_X1_59 c17 dX1_goThrough_190 ?_
              refine v_aload_n (pc := 193) O dX1_goThrough_193 0 rfl ?_
              refine v_getK (pc := 194) (a := 6) O hm gf_X1_0 fl_X1_23 kq_6 lk_6_0 dX1_goThrough_194 ?_
              refine v_aload (pc := 197) O dX1_goThrough_197 3 rfl ?_
              refine v_getI (pc := 199) (a := a15) O gf_X7_3 fl_X1_75 c17 dX1_goThrough_199 ?_
              obtain ⟨p39, e40, h⟩ := bind_some h
              refine v_callV (pc := 202) (a := 1) (As := [.int (dI D38 a15 3)]) (rest := [.int (dI D38 a15 2), .ref (bo X + a15), .ref (bo X + 6)]) (r := (some (.int p39.1))) (D' := p39.2) O (bb0 hz) (c_X2_shade hm e40) mw_X2_shade im_X2_shade se_X2_shade ml_X1_41 kq_1 (by decide) rfl rfl rfl (by omega) (by omega) (Nat.le_of_ble_eq_true rfl) dX1_goThrough_202 rfl rfl ?_
              rcases sb_some h with ⟨p41, D43, e42, rfl⟩ | ⟨p41, D43, e42, h⟩
              · exact v_call1X (pc := 205) (a := 6) (As := [.ref (bo X + a15), .int (dI D38 a15 2), .int p39.1]) (rest := []) (e := p41) (D' := D43) O hz hT (c_X1_set hT.2.1 hm e42) mw_X1_set im_X1_set se_X1_set ml_X1_66 kq_6 (by decide) rfl rfl rfl (by omega) (by omega) (Nat.le_of_ble_eq_true rfl) dX1_goThrough_205 rfl
              · refine v_call1 (pc := 205) (a := 6) (As := [.ref (bo X + a15), .int (dI D38 a15 2), .int p39.1]) (rest := []) (r := none) (D' := D43) O hz (c_X1_set hT.2.1 hm e42) mw_X1_set im_X1_set se_X1_set ml_X1_66 kq_6 (by decide) rfl rfl rfl (by omega) (by omega) (Nat.le_of_ble_eq_true rfl) dX1_goThrough_205 rfl rfl ?_
                refine v_goto (pc := 208) 260 O dX1_goThrough_208 (by decide) ?_
                refine v_sub [0, 1, 2, 3] rfl ?_
                exact w_X1_goThrough_s_b260 O hm hn hz hT hR ih x2 x3 (some a15) D43 h
          · have h := (if_neg c35).symm.trans h
            by_cases c44 : (dI D a15 0) = (14 : Int32)
            · have h := (if_pos c44).symm.trans h
              refine v_tableIn (pc := 20) 151 O dX1_goThrough_20 (by rw [c44]; decide) (by rw [c44]; decide) (by rw [c44]; rfl) (by decide) ?_
              refine v_aload_n (pc := 151) O dX1_goThrough_151 0 rfl ?_
              refine v_aload (pc := 152) O dX1_goThrough_152 3 rfl ?_
              refine v_iload_n (pc := 154) O dX1_goThrough_154 1 rfl ?_
              refine v_aload_n (pc := 155) O dX1_goThrough_155 0 rfl ?_
              refine v_aload (pc := 156) O dX1_goThrough_156 3 rfl ?_
              obtain ⟨p45, e46, h⟩ := bind_some h
              refine v_callV (pc := 158) (a := 6) (As := [.ref (bo X + a15)]) (rest := [.int x2, .ref (bo X + a15), .ref (bo X + 6)]) (r := (some (.int p45.1))) (D' := p45.2) O (bb0 hz) (c_X1_shadeOf hm e46) mw_X1_shadeOf im_X1_shadeOf se_X1_shadeOf ml_X1_62 kq_6 (by decide) rfl rfl rfl (by omega) (by omega) (Nat.le_of_ble_eq_true rfl) dX1_goThrough_158 rfl rfl ?_
              refine v_ior (pc := 161) O dX1_goThrough_161 ?_
              refine v_aload (pc := 162) O dX1_goThrough_162 3 rfl ?_
              refine v_getI (pc := 164) (a := a15) O gf_X7_3 fl_X1_75 c17 dX1_goThrough_164 ?_
              rcases sb_some h with ⟨p47, D49, e48, rfl⟩ | ⟨p47, D49, e48, h⟩
              · exact v_call1X (pc := 167) (a := 6) (As := [.ref (bo X + a15), .int (x2 ||| p45.1), .int (dI p45.2 a15 3)]) (rest := []) (e := p47) (D' := D49) O hz hT (c_X1_demand hT.2.1 hm e48) mw_X1_demand im_X1_demand se_X1_demand ml_X1_72 kq_6 (by decide) rfl rfl rfl (by omega) (by omega) (Nat.le_of_ble_eq_true rfl) dX1_goThrough_167 rfl
              · refine v_call1 (pc := 167) (a := 6) (As := [.ref (bo X + a15), .int (x2 ||| p45.1), .int (dI p45.2 a15 3)]) (rest := []) (r := none) (D' := D49) O hz (c_X1_demand hT.2.1 hm e48) mw_X1_demand im_X1_demand se_X1_demand ml_X1_72 kq_6 (by decide) rfl rfl rfl (by omega) (by omega) (Nat.le_of_ble_eq_true rfl) dX1_goThrough_167 rfl rfl ?_
                refine v_goto (pc := 170) 260 O dX1_goThrough_170 (by decide) ?_
                refine v_sub [0, 1, 2, 3] rfl ?_
                exact w_X1_goThrough_s_b260 O hm hn hz hT hR ih x2 x3 (some a15) D49 h
            · have h := (if_neg c44).symm.trans h
              by_cases c50 : (dI D a15 0) = (16 : Int32)
              · have h := (if_pos c50).symm.trans h
                refine v_tableIn (pc := 20) 211 O dX1_goThrough_20 (by rw [c50]; decide) (by rw [c50]; decide) (by rw [c50]; rfl) (by decide) ?_
                refine v_aload_n (pc := 211) O dX1_goThrough_211 0 rfl ?_
                refine v_aload (pc := 212) O dX1_goThrough_212 3 rfl ?_
                refine v_iload_n (pc := 214) O dX1_goThrough_214 1 rfl ?_
                refine v_aload_n (pc := 215) O dX1_goThrough_215 0 rfl ?_
                refine v_aload (pc := 216) O dX1_goThrough_216 3 rfl ?_
                obtain ⟨p51, e52, h⟩ := bind_some h
                refine v_callV (pc := 218) (a := 6) (As := [.ref (bo X + a15)]) (rest := [.int x2, .ref (bo X + a15), .ref (bo X + 6)]) (r := (some (.int p51.1))) (D' := p51.2) O (bb0 hz) (c_X1_shadeOf hm e52) mw_X1_shadeOf im_X1_shadeOf se_X1_shadeOf ml_X1_62 kq_6 (by decide) rfl rfl rfl (by omega) (by omega) (Nat.le_of_ble_eq_true rfl) dX1_goThrough_218 rfl rfl ?_
                refine v_ior (pc := 221) O dX1_goThrough_221 ?_
                refine v_iload_n (pc := 222) O dX1_goThrough_222 2 rfl ?_
                rcases sb_some h with ⟨p53, D55, e54, rfl⟩ | ⟨p53, D55, e54, h⟩
                · exact v_call1X (pc := 223) (a := 6) (As := [.ref (bo X + a15), .int (x2 ||| p51.1), .int x3]) (rest := []) (e := p53) (D' := D55) O hz hT (c_X1_goOverIf hT.2.1 hm hR e54) mw_X1_goOverIf im_X1_goOverIf se_X1_goOverIf ml_X1_78 kq_6 (by decide) rfl rfl rfl (by omega) (by omega) (Nat.le_of_ble_eq_true rfl) dX1_goThrough_223 rfl
                · refine v_call1 (pc := 223) (a := 6) (As := [.ref (bo X + a15), .int (x2 ||| p51.1), .int x3]) (rest := []) (r := none) (D' := D55) O hz (c_X1_goOverIf hT.2.1 hm hR e54) mw_X1_goOverIf im_X1_goOverIf se_X1_goOverIf ml_X1_78 kq_6 (by decide) rfl rfl rfl (by omega) (by omega) (Nat.le_of_ble_eq_true rfl) dX1_goThrough_223 rfl rfl ?_
                  refine v_goto (pc := 226) 260 O dX1_goThrough_226 (by decide) ?_
                  refine v_sub [0, 1, 2, 3] rfl ?_
                  exact w_X1_goThrough_s_b260 O hm hn hz hT hR ih x2 x3 (some a15) D55 h
              · have h := (if_neg c50).symm.trans h
                by_cases c56 : (dI D a15 0) = (17 : Int32)
                · have h := (if_pos c56).symm.trans h
                  refine v_tableIn (pc := 20) 229 O dX1_goThrough_20 (by rw [c56]; decide) (by rw [c56]; decide) (by rw [c56]; rfl) (by decide) ?_
                  refine v_aload_n (pc := 229) O dX1_goThrough_229 0 rfl ?_
                  refine v_aload (pc := 230) O dX1_goThrough_230 3 rfl ?_
                  refine v_iload_n (pc := 232) O dX1_goThrough_232 1 rfl ?_
                  refine v_iload_n (pc := 233) O dX1_goThrough_233 2 rfl ?_
                  rcases sb_some h with ⟨p57, D59, e58, rfl⟩ | ⟨p57, D59, e58, h⟩
                  · exact v_call1X (pc := 234) (a := 6) (As := [.ref (bo X + a15), .int x2, .int x3]) (rest := []) (e := p57) (D' := D59) O hz hT (c_X1_goOverWhile hT.2.1 hm hR e58) mw_X1_goOverWhile im_X1_goOverWhile se_X1_goOverWhile ml_X1_81 kq_6 (by decide) rfl rfl rfl (by omega) (by omega) (Nat.le_of_ble_eq_true rfl) dX1_goThrough_234 rfl
                  · refine v_call1 (pc := 234) (a := 6) (As := [.ref (bo X + a15), .int x2, .int x3]) (rest := []) (r := none) (D' := D59) O hz (c_X1_goOverWhile hT.2.1 hm hR e58) mw_X1_goOverWhile im_X1_goOverWhile se_X1_goOverWhile ml_X1_81 kq_6 (by decide) rfl rfl rfl (by omega) (by omega) (Nat.le_of_ble_eq_true rfl) dX1_goThrough_234 rfl rfl ?_
                    refine v_goto (pc := 237) 260 O dX1_goThrough_237 (by decide) ?_
                    refine v_sub [0, 1, 2, 3] rfl ?_
                    exact w_X1_goThrough_s_b260 O hm hn hz hT hR ih x2 x3 (some a15) D59 h
                · have h := (if_neg c56).symm.trans h
                  refine v_table (pc := 20) 240 O dX1_goThrough_20 (fun g1 g2 => by
                      have c18i := ne_i (2) rfl c18
                      have c24i := ne_i (4) rfl c24
                      have c35i := ne_i (13) rfl c35
                      have c44i := ne_i (14) rfl c44
                      have c50i := ne_i (16) rfl c50
                      have c56i := ne_i (17) rfl c56
                      rcases (show (dI D a15 0).toInt = 3 ∨ (dI D a15 0).toInt = 5 ∨ (dI D a15 0).toInt = 6 ∨ (dI D a15 0).toInt = 7 ∨ (dI D a15 0).toInt = 8 ∨ (dI D a15 0).toInt = 9 ∨ (dI D a15 0).toInt = 10 ∨ (dI D a15 0).toInt = 11 ∨ (dI D a15 0).toInt = 12 ∨ (dI D a15 0).toInt = 15 by omega) with e9 | e9 | e9 | e9 | e9 | e9 | e9 | e9 | e9 | e9 <;> (rw [e9]; exact ⟨_, rfl, by decide⟩)) (by decide) ?_
                  refine v_sub [0, 1, 2, 3] rfl ?_
                  exact w_X1_goThrough_s_b240 O hm hn hz hT hR ih x2 x3 (some a15) D h
def f_X1_goThrough_s (rec : Option Nat → Int32 → Int32 → Dat → Option (Sum Nat Unit × Dat)) (N : Nat) (nu : Nat) (K : Nat → Nat) (x1 : Option Nat) (x2 : Int32) (x3 : Int32) (D : Dat) : Option (Sum Nat Unit × Dat) :=
  if x3 < 48 then (f_X1_goThrough_s_b10 rec N nu K N x2 x3 x1 D) else (some (.inr (), D))
set_option maxHeartbeats 4000000 in
theorem w_X1_goThrough_s {X : Cx} {n nu c u : Nat} {K : Nat → Nat} {rec : Option Nat → Int32 → Int32 → Dat → Option (Sum Nat Unit × Dat)} {N : Nat} {fr lc : Nat} {z : Sum Nat Unit × Dat} (O : Ok X cX1_goThrough RX1 none (fr + 8) (lc + 146)) (hm : wlm (xw X) = true) (hn : xn X = 5) (hz : Z0 X (Ax nu K c u)) (hT : T1 X (zu z)) (hR : ∀ {n : Nat} {x1 : Option Nat} {x2 : Int32} {x3 : Int32} {D : Dat} {z : Sum Nat Unit × Dat}, rec x1 x2 x3 D = some z → C1 (xl X) (xw X) yX1_goThrough cX1_goThrough 5 none fr lc [.ref (wb (xw X) + 6), rv (wb (xw X)) x1, .int x2, .int x3] n (Ax nu K c u) D (zu z)) (x1 : Option Nat) (x2 : Int32) (x3 : Int32) (D : Dat) (h : f_X1_goThrough_s rec N nu K x1 x2 x3 D = some z) : V X (Q1 X n (Ax nu K c u) (zu z)) n (Ax nu K c u) D 0 [(0, .ref (bo X + 6)), (1, rv (bo X) x1), (2, .int x2), (3, .int x3)] [] := by
  unfold f_X1_goThrough_s at h
  refine v_iload_n (pc := 0) O dX1_goThrough_0 3 rfl ?_
  refine v_bipush (pc := 1) O dX1_goThrough_1 bp_48 ?_
  refine v_icmplt (pc := 3) 7 O dX1_goThrough_3 (by decide) (fun c60 => ?_) (fun c60 => ?_)
  · have h := (if_pos c60).symm.trans h
    refine v_aload_nr (pc := 7) O dX1_goThrough_7 1 rfl ?_
    refine v_astorer (pc := 8) (lv' := [(4, rv (bo X) x1), (0, .ref (bo X + 6)), (1, rv (bo X) x1), (2, .int x2), (3, .int x3)]) O dX1_goThrough_8 (by rw [hn]; decide) rfl ?_
    refine v_sub [1, 3, 4, 0] rfl ?_
    exact w_X1_goThrough_s_b10 O hm hn hz hT hR N x2 x3 x1 D h
  · have h := (if_neg c60).symm.trans h
    obtain rfl := Option.some.inj h
    exact v_r1 (v_ret (pc := 6) O hz dX1_goThrough_6)
theorem c_X1_goThrough_s {l : Launch} {w : Wx} {n nu c u : Nat} {K : Nat → Nat} {rec : Option Nat → Int32 → Int32 → Dat → Option (Sum Nat Unit × Dat)} {N : Nat} {fr lc : Nat} (hl : l.stackTraces = false) (hm : wlm w = true) (hR : ∀ {n : Nat} {x1 : Option Nat} {x2 : Int32} {x3 : Int32} {D : Dat} {z : Sum Nat Unit × Dat}, rec x1 x2 x3 D = some z → C1 l w yX1_goThrough cX1_goThrough 5 none fr lc [.ref (wb w + 6), rv (wb w) x1, .int x2, .int x3] n (Ax nu K c u) D (zu z)) {x1 : Option Nat} {x2 : Int32} {x3 : Int32} {D : Dat} {z : Sum Nat Unit × Dat} (h : f_X1_goThrough_s rec N nu K x1 x2 x3 D = some z) : C1 l w yX1_goThrough cX1_goThrough 5 none (fr + 8) (lc + 146) [.ref (wb w + 6), rv (wb w) x1, .int x2, .int x3] n (Ax nu K c u) D (zu z) :=
  C1.of hl (by decide) (by simp [lg_sl, rv_cat, cat_i, cat_l, cat_r, cat_n]) (fun X e1 e2 e3 hz hT O => by
  subst e1
  subst e2
  have q : lv_args 0 [.ref (bo X + 6), rv (bo X) x1, .int x2, .int x3] = [(0, .ref (bo X + 6)), (1, rv (bo X) x1), (2, .int x2), (3, .int x3)] := by simp [lv_args, rv_cat, cat_i, cat_l, cat_r, cat_n]
  show V X _ n _ D 0 (lv_args 0 [.ref (bo X + 6), rv (bo X) x1, .int x2, .int x3]) []
  rw [q]
  exact w_X1_goThrough_s O hm e3 hz hT hR x1 x2 x3 D h)
def f_X1_goThrough (N : Nat) (nu : Nat) (K : Nat → Nat) : Nat → Option Nat → Int32 → Int32 → Dat → Option (Sum Nat Unit × Dat)
  | 0, _, _, _, _ => none
  | d + 1, x1, x2, x3, D => f_X1_goThrough_s (f_X1_goThrough N nu K d) N nu K x1 x2 x3 D
theorem c_X1_goThrough {l : Launch} {w : Wx} {n nu c u : Nat} {K : Nat → Nat} {N : Nat} (hl : l.stackTraces = false) (hm : wlm w = true) : ∀ (d : Nat) {x1 : Option Nat} {x2 : Int32} {x3 : Int32} {D : Dat} {z : Sum Nat Unit × Dat} (h : f_X1_goThrough N nu K d x1 x2 x3 D = some z), C1 l w yX1_goThrough cX1_goThrough 5 none (8 * d) (146 * d) [.ref (wb w + 6), rv (wb w) x1, .int x2, .int x3] n (Ax nu K c u) D (zu z) := by
  intro d
  induction d generalizing n with
  | zero => intro x1 x2 x3 D z h; exact absurd h (by simp [f_X1_goThrough])
  | succ d ih =>
    intro x1 x2 x3 D z h
    rw [f_X1_goThrough] at h
    exact c_X1_goThrough_s (fr := 8 * d) (lc := 146 * d) hl hm (fun h => ih h) h
def f_X3_perform_b173 (D : Dat) : Option (Dat) :=
  some D
set_option maxHeartbeats 4000000 in
theorem w_X3_perform_b173 {X : Cx} {n nu c u : Nat} {K : Nat → Nat} {z : Dat} (O : Ok X cX3_perform RX3 none 3 65) (hm : wlm (xw X) = true) (hn : xn X = 3) (hz : Z0 X (Ax nu K c u)) (D : Dat) (h : f_X3_perform_b173 D = some z) : V X (Q0 X n (Ax nu K c u) none z) n (Ax nu K c u) D 173 [] [] := by
  unfold f_X3_perform_b173 at h
  obtain rfl := Option.some.inj h
  exact v_ret (pc := 173) O hz dX3_perform_173
def f_X3_perform_b160 (x1 : Int32) (D : Dat) : Option (Dat) :=
  (f_X3_pop D).bind (fun p1 => (f_X3_pop p1.2).bind (fun p3 => (f_X3_reckon x1 p1.1 p3.1 p3.2).bind (fun p5 => f_X3_perform_b173 p5)))
set_option maxHeartbeats 4000000 in
theorem w_X3_perform_b160 {X : Cx} {n nu c u : Nat} {K : Nat → Nat} {z : Dat} (O : Ok X cX3_perform RX3 none 3 65) (hm : wlm (xw X) = true) (hn : xn X = 3) (hz : Z0 X (Ax nu K c u)) (x1 : Int32) (D : Dat) (h : f_X3_perform_b160 x1 D = some z) : V X (Q0 X n (Ax nu K c u) none z) n (Ax nu K c u) D 160 [(0, .ref (bo X + 181)), (1, .int x1)] [] := by
  unfold f_X3_perform_b160 at h
  refine v_aload_n (pc := 160) O dX3_perform_160 0 rfl ?_
  refine v_iload_n (pc := 161) O dX3_perform_161 1 rfl ?_
  refine v_aload_n (pc := 162) O dX3_perform_162 0 rfl ?_
  obtain ⟨p1, e2, h⟩ := bind_some h
  refine v_callV (pc := 163) (a := 181) (As := []) (rest := [.int x1, .ref (bo X + 181)]) (r := (some (.int p1.1))) (D' := p1.2) O (bb0 hz) (c_X3_pop hm e2) mw_X3_pop im_X3_pop se_X3_pop ml_X3_81 kq_181 (by decide) rfl rfl rfl (by decide) (by decide) (Nat.le_of_ble_eq_true rfl) dX3_perform_163 rfl rfl ?_
  refine v_aload_n (pc := 166) O dX3_perform_166 0 rfl ?_
  obtain ⟨p3, e4, h⟩ := bind_some h
  refine v_callV (pc := 167) (a := 181) (As := []) (rest := [.int p1.1, .int x1, .ref (bo X + 181)]) (r := (some (.int p3.1))) (D' := p3.2) O (bb0 hz) (c_X3_pop hm e4) mw_X3_pop im_X3_pop se_X3_pop ml_X3_81 kq_181 (by decide) rfl rfl rfl (by decide) (by decide) (Nat.le_of_ble_eq_true rfl) dX3_perform_167 rfl rfl ?_
  obtain ⟨p5, e6, h⟩ := bind_some h
  refine v_callV (pc := 170) (a := 181) (As := [.int x1, .int p1.1, .int p3.1]) (rest := []) (r := none) (D' := p5) O (bb0 hz) (c_X3_reckon hm e6) mw_X3_reckon im_X3_reckon se_X3_reckon ml_X3_115 kq_181 (by decide) rfl rfl rfl (by decide) (by decide) (Nat.le_of_ble_eq_true rfl) dX3_perform_170 rfl rfl ?_
  refine v_sub [] rfl ?_
  exact w_X3_perform_b173 O hm hn hz p5 h
def f_X3_perform (x1 : Int32) (x2 : Int32) (D : Dat) : Option (Dat) :=
  (if x1 = (0 : Int32) then ((f_X3_push x2 D).bind (fun p8 => f_X3_perform_b173 p8)) else (if x1 = (1 : Int32) then ((f_X3_cell x2 D).bind (fun p11 => (f_X3_push p11.1 p11.2).bind (fun p13 => f_X3_perform_b173 p13))) else (if x1 = (2 : Int32) then ((f_X3_pop D).bind (fun p16 => (f_X3_setCell x2 p16.1 p16.2).bind (fun p18 => f_X3_perform_b173 p18))) else (if x1 = (3 : Int32) then ((f_X3_pop D).bind (fun p21 => (f_X3_getFromRow x2 p21.1 p21.2).bind (fun p23 => f_X3_perform_b173 p23))) else (if x1 = (4 : Int32) then ((f_X3_pop D).bind (fun p26 => (f_X3_pop p26.2).bind (fun p28 => (f_X3_setInRow x2 p26.1 p28.1 p28.2).bind (fun p30 => f_X3_perform_b173 p30)))) else (if x1 = (13 : Int32) then ((f_X3_nextInput x2 D).bind (fun p33 => (f_X3_push p33.1 p33.2).bind (fun p35 => f_X3_perform_b173 p35))) else (if x1 = (14 : Int32) then ((f_X3_pop D).bind (fun p38 => (f_X3_write x2 p38.1 p38.2).bind (fun p40 => f_X3_perform_b173 p40))) else (f_X3_perform_b160 x1 D))))))))
set_option maxHeartbeats 4000000 in
theorem w_X3_perform {X : Cx} {n nu c u : Nat} {K : Nat → Nat} {z : Dat} (O : Ok X cX3_perform RX3 none 3 65) (hm : wlm (xw X) = true) (hn : xn X = 3) (hz : Z0 X (Ax nu K c u)) (x1 : Int32) (x2 : Int32) (D : Dat) (h : f_X3_perform x1 x2 D = some z) : V X (Q0 X n (Ax nu K c u) none z) n (Ax nu K c u) D 0 [(0, .ref (bo X + 181)), (1, .int x1), (2, .int x2)] [] := by
  unfold f_X3_perform at h
  refine v_iload_n (pc := 0) O dX3_perform_0 1 rfl ?_
  by_cases c7 : x1 = (0 : Int32)
  · have h := (if_pos c7).symm.trans h
    refine v_tableIn (pc := 1) 76 O dX3_perform_1 (by rw [c7]; decide) (by rw [c7]; decide) (by rw [c7]; rfl) (by decide) ?_
    refine v_aload_n (pc := 76) O dX3_perform_76 0 rfl ?_
    refine v_iload_n (pc := 77) O dX3_perform_77 2 rfl ?_
    obtain ⟨p8, e9, h⟩ := bind_some h
    refine v_callV (pc := 78) (a := 181) (As := [.int x2]) (rest := []) (r := none) (D' := p8) O (bb0 hz) (c_X3_push hm e9) mw_X3_push im_X3_push se_X3_push ml_X3_92 kq_181 (by decide) rfl rfl rfl (by decide) (by decide) (Nat.le_of_ble_eq_true rfl) dX3_perform_78 rfl rfl ?_
    refine v_goto (pc := 81) 173 O dX3_perform_81 (by decide) ?_
    refine v_sub [] rfl ?_
    exact w_X3_perform_b173 O hm hn hz p8 h
  · have h := (if_neg c7).symm.trans h
    by_cases c10 : x1 = (1 : Int32)
    · have h := (if_pos c10).symm.trans h
      refine v_tableIn (pc := 1) 84 O dX3_perform_1 (by rw [c10]; decide) (by rw [c10]; decide) (by rw [c10]; rfl) (by decide) ?_
      refine v_aload_n (pc := 84) O dX3_perform_84 0 rfl ?_
      refine v_aload_n (pc := 85) O dX3_perform_85 0 rfl ?_
      refine v_iload_n (pc := 86) O dX3_perform_86 2 rfl ?_
      obtain ⟨p11, e12, h⟩ := bind_some h
      refine v_callV (pc := 87) (a := 181) (As := [.int x2]) (rest := [.ref (bo X + 181)]) (r := (some (.int p11.1))) (D' := p11.2) O (bb0 hz) (c_X3_cell hm e12) mw_X3_cell im_X3_cell se_X3_cell ml_X3_96 kq_181 (by decide) rfl rfl rfl (by decide) (by decide) (Nat.le_of_ble_eq_true rfl) dX3_perform_87 rfl rfl ?_
      obtain ⟨p13, e14, h⟩ := bind_some h
      refine v_callV (pc := 90) (a := 181) (As := [.int p11.1]) (rest := []) (r := none) (D' := p13) O (bb0 hz) (c_X3_push hm e14) mw_X3_push im_X3_push se_X3_push ml_X3_92 kq_181 (by decide) rfl rfl rfl (by decide) (by decide) (Nat.le_of_ble_eq_true rfl) dX3_perform_90 rfl rfl ?_
      refine v_goto (pc := 93) 173 O dX3_perform_93 (by decide) ?_
      refine v_sub [] rfl ?_
      exact w_X3_perform_b173 O hm hn hz p13 h
    · have h := (if_neg c10).symm.trans h
      by_cases c15 : x1 = (2 : Int32)
      · have h := (if_pos c15).symm.trans h
        refine v_tableIn (pc := 1) 96 O dX3_perform_1 (by rw [c15]; decide) (by rw [c15]; decide) (by rw [c15]; rfl) (by decide) ?_
        refine v_aload_n (pc := 96) O dX3_perform_96 0 rfl ?_
        refine v_iload_n (pc := 97) O dX3_perform_97 2 rfl ?_
        refine v_aload_n (pc := 98) O dX3_perform_98 0 rfl ?_
        obtain ⟨p16, e17, h⟩ := bind_some h
        refine v_callV (pc := 99) (a := 181) (As := []) (rest := [.int x2, .ref (bo X + 181)]) (r := (some (.int p16.1))) (D' := p16.2) O (bb0 hz) (c_X3_pop hm e17) mw_X3_pop im_X3_pop se_X3_pop ml_X3_81 kq_181 (by decide) rfl rfl rfl (by decide) (by decide) (Nat.le_of_ble_eq_true rfl) dX3_perform_99 rfl rfl ?_
        obtain ⟨p18, e19, h⟩ := bind_some h
        refine v_callV (pc := 102) (a := 181) (As := [.int x2, .int p16.1]) (rest := []) (r := none) (D' := p18) O (bb0 hz) (c_X3_setCell hm e19) mw_X3_setCell im_X3_setCell se_X3_setCell ml_X3_99 kq_181 (by decide) rfl rfl rfl (by decide) (by decide) (Nat.le_of_ble_eq_true rfl) dX3_perform_102 rfl rfl ?_
        refine v_goto (pc := 105) 173 O dX3_perform_105 (by decide) ?_
        refine v_sub [] rfl ?_
        exact w_X3_perform_b173 O hm hn hz p18 h
      · have h := (if_neg c15).symm.trans h
        by_cases c20 : x1 = (3 : Int32)
        · have h := (if_pos c20).symm.trans h
          refine v_tableIn (pc := 1) 108 O dX3_perform_1 (by rw [c20]; decide) (by rw [c20]; decide) (by rw [c20]; rfl) (by decide) ?_
          refine v_aload_n (pc := 108) O dX3_perform_108 0 rfl ?_
          refine v_iload_n (pc := 109) O dX3_perform_109 2 rfl ?_
          refine v_aload_n (pc := 110) O dX3_perform_110 0 rfl ?_
          obtain ⟨p21, e22, h⟩ := bind_some h
          refine v_callV (pc := 111) (a := 181) (As := []) (rest := [.int x2, .ref (bo X + 181)]) (r := (some (.int p21.1))) (D' := p21.2) O (bb0 hz) (c_X3_pop hm e22) mw_X3_pop im_X3_pop se_X3_pop ml_X3_81 kq_181 (by decide) rfl rfl rfl (by decide) (by decide) (Nat.le_of_ble_eq_true rfl) dX3_perform_111 rfl rfl ?_
          obtain ⟨p23, e24, h⟩ := bind_some h
          refine v_callV (pc := 114) (a := 181) (As := [.int x2, .int p21.1]) (rest := []) (r := none) (D' := p23) O (bb0 hz) (c_X3_getFromRow hm e24) mw_X3_getFromRow im_X3_getFromRow se_X3_getFromRow ml_X3_102 kq_181 (by decide) rfl rfl rfl (by decide) (by decide) (Nat.le_of_ble_eq_true rfl) dX3_perform_114 rfl rfl ?_
          refine v_goto (pc := 117) 173 O dX3_perform_117 (by decide) ?_
          refine v_sub [] rfl ?_
          exact w_X3_perform_b173 O hm hn hz p23 h
        · have h := (if_neg c20).symm.trans h
          by_cases c25 : x1 = (4 : Int32)
          · have h := (if_pos c25).symm.trans h
            refine v_tableIn (pc := 1) 120 O dX3_perform_1 (by rw [c25]; decide) (by rw [c25]; decide) (by rw [c25]; rfl) (by decide) ?_
            refine v_aload_n (pc := 120) O dX3_perform_120 0 rfl ?_
            refine v_iload_n (pc := 121) O dX3_perform_121 2 rfl ?_
            refine v_aload_n (pc := 122) O dX3_perform_122 0 rfl ?_
            obtain ⟨p26, e27, h⟩ := bind_some h
            refine v_callV (pc := 123) (a := 181) (As := []) (rest := [.int x2, .ref (bo X + 181)]) (r := (some (.int p26.1))) (D' := p26.2) O (bb0 hz) (c_X3_pop hm e27) mw_X3_pop im_X3_pop se_X3_pop ml_X3_81 kq_181 (by decide) rfl rfl rfl (by decide) (by decide) (Nat.le_of_ble_eq_true rfl) dX3_perform_123 rfl rfl ?_
            refine v_aload_n (pc := 126) O dX3_perform_126 0 rfl ?_
            obtain ⟨p28, e29, h⟩ := bind_some h
            refine v_callV (pc := 127) (a := 181) (As := []) (rest := [.int p26.1, .int x2, .ref (bo X + 181)]) (r := (some (.int p28.1))) (D' := p28.2) O (bb0 hz) (c_X3_pop hm e29) mw_X3_pop im_X3_pop se_X3_pop ml_X3_81 kq_181 (by decide) rfl rfl rfl (by decide) (by decide) (Nat.le_of_ble_eq_true rfl) dX3_perform_127 rfl rfl ?_
            obtain ⟨p30, e31, h⟩ := bind_some h
            refine v_callV (pc := 130) (a := 181) (As := [.int x2, .int p26.1, .int p28.1]) (rest := []) (r := none) (D' := p30) O (bb0 hz) (c_X3_setInRow hm e31) mw_X3_setInRow im_X3_setInRow se_X3_setInRow ml_X3_105 kq_181 (by decide) rfl rfl rfl (by decide) (by decide) (Nat.le_of_ble_eq_true rfl) dX3_perform_130 rfl rfl ?_
            refine v_goto (pc := 133) 173 O dX3_perform_133 (by decide) ?_
            refine v_sub [] rfl ?_
            exact w_X3_perform_b173 O hm hn hz p30 h
          · have h := (if_neg c25).symm.trans h
            by_cases c32 : x1 = (13 : Int32)
            · have h := (if_pos c32).symm.trans h
              refine v_tableIn (pc := 1) 136 O dX3_perform_1 (by rw [c32]; decide) (by rw [c32]; decide) (by rw [c32]; rfl) (by decide) ?_
              refine v_aload_n (pc := 136) O dX3_perform_136 0 rfl ?_
              refine v_aload_n (pc := 137) O dX3_perform_137 0 rfl ?_
              refine v_iload_n (pc := 138) O dX3_perform_138 2 rfl ?_
              obtain ⟨p33, e34, h⟩ := bind_some h
              refine v_callV (pc := 139) (a := 181) (As := [.int x2]) (rest := [.ref (bo X + 181)]) (r := (some (.int p33.1))) (D' := p33.2) O (bb0 hz) (c_X3_nextInput hm e34) mw_X3_nextInput im_X3_nextInput se_X3_nextInput ml_X3_109 kq_181 (by decide) rfl rfl rfl (by decide) (by decide) (Nat.le_of_ble_eq_true rfl) dX3_perform_139 rfl rfl ?_
              obtain ⟨p35, e36, h⟩ := bind_some h
              refine v_callV (pc := 142) (a := 181) (As := [.int p33.1]) (rest := []) (r := none) (D' := p35) O (bb0 hz) (c_X3_push hm e36) mw_X3_push im_X3_push se_X3_push ml_X3_92 kq_181 (by decide) rfl rfl rfl (by decide) (by decide) (Nat.le_of_ble_eq_true rfl) dX3_perform_142 rfl rfl ?_
              refine v_goto (pc := 145) 173 O dX3_perform_145 (by decide) ?_
              refine v_sub [] rfl ?_
              exact w_X3_perform_b173 O hm hn hz p35 h
            · have h := (if_neg c32).symm.trans h
              by_cases c37 : x1 = (14 : Int32)
              · have h := (if_pos c37).symm.trans h
                refine v_tableIn (pc := 1) 148 O dX3_perform_1 (by rw [c37]; decide) (by rw [c37]; decide) (by rw [c37]; rfl) (by decide) ?_
                refine v_aload_n (pc := 148) O dX3_perform_148 0 rfl ?_
                refine v_iload_n (pc := 149) O dX3_perform_149 2 rfl ?_
                refine v_aload_n (pc := 150) O dX3_perform_150 0 rfl ?_
                obtain ⟨p38, e39, h⟩ := bind_some h
                refine v_callV (pc := 151) (a := 181) (As := []) (rest := [.int x2, .ref (bo X + 181)]) (r := (some (.int p38.1))) (D' := p38.2) O (bb0 hz) (c_X3_pop hm e39) mw_X3_pop im_X3_pop se_X3_pop ml_X3_81 kq_181 (by decide) rfl rfl rfl (by decide) (by decide) (Nat.le_of_ble_eq_true rfl) dX3_perform_151 rfl rfl ?_
                obtain ⟨p40, e41, h⟩ := bind_some h
                refine v_callV (pc := 154) (a := 181) (As := [.int x2, .int p38.1]) (rest := []) (r := none) (D' := p40) O (bb0 hz) (c_X3_write hm e41) mw_X3_write im_X3_write se_X3_write ml_X3_112 kq_181 (by decide) rfl rfl rfl (by decide) (by decide) (Nat.le_of_ble_eq_true rfl) dX3_perform_154 rfl rfl ?_
                refine v_goto (pc := 157) 173 O dX3_perform_157 (by decide) ?_
                refine v_sub [] rfl ?_
                exact w_X3_perform_b173 O hm hn hz p40 h
              · have h := (if_neg c37).symm.trans h
                refine v_table (pc := 1) 160 O dX3_perform_1 (fun g1 g2 => by
                    have c7i := ne_i (0) rfl c7
                    have c10i := ne_i (1) rfl c10
                    have c15i := ne_i (2) rfl c15
                    have c20i := ne_i (3) rfl c20
                    have c25i := ne_i (4) rfl c25
                    have c32i := ne_i (13) rfl c32
                    have c37i := ne_i (14) rfl c37
                    rcases (show x1.toInt = 5 ∨ x1.toInt = 6 ∨ x1.toInt = 7 ∨ x1.toInt = 8 ∨ x1.toInt = 9 ∨ x1.toInt = 10 ∨ x1.toInt = 11 ∨ x1.toInt = 12 by omega) with e9 | e9 | e9 | e9 | e9 | e9 | e9 | e9 <;> (rw [e9]; exact ⟨_, rfl, by decide⟩)) (by decide) ?_
                refine v_sub [0, 1] rfl ?_
                exact w_X3_perform_b160 O hm hn hz x1 D h
theorem c_X3_perform {l : Launch} {w : Wx} {n nu c u : Nat} {K : Nat → Nat} (hm : wlm w = true) {x1 : Int32} {x2 : Int32} {D : Dat} {z : Dat} (h : f_X3_perform x1 x2 D = some z) : C0 l w yX3_perform cX3_perform 3 none 3 65 [.ref (wb w + 181), .int x1, .int x2] n (Ax nu K c u) D none z :=
  C0.of (by decide) (Nat.le_of_ble_eq_true rfl) (fun X e1 e2 e3 hz O => by
  subst e1
  subst e2
  exact w_X3_perform O hm e3 hz x1 x2 D h)
def f_X6_findSure_b74 (N : Nat) (rec_4 : Int32 → Int32 → Dat → Option (Dat)) (rec_30 : Int32 → Int32 → Int32 → Dat → Option (Dat)) (x2 : Int32) (x3 : Int32) (x4 : Int64) (s0 : Int32) (D : Dat) : Option (Dat) :=
  if x3 < 0 ∨ 64 ≤ (x3).toNatClampNeg then none else (rec_30 s0 x2 (x3 + (-1)) (sL D 110 (x3).toNatClampNeg x4))
set_option maxHeartbeats 4000000 in
theorem w_X6_findSure_b74 {X : Cx} {n nu c u : Nat} {K : Nat → Nat} {N : Nat} {rec_4 : Int32 → Int32 → Dat → Option (Dat)} {rec_30 : Int32 → Int32 → Int32 → Dat → Option (Dat)} {z : Dat} (O : Ok X cX6_findSure RX6 none 3 68) (hm : wlm (xw X) = true) (hn : xn X = 6) (hz : Z0 X (Ax nu K c u)) (hrec_4 : ∀ (x1 : Int32) (x2 : Int32) (D : Dat), rec_4 x1 x2 D = some z → V X (Q0 X n (Ax nu K c u) none z) n (Ax nu K c u) D 4 [(0, .ref (bo X + 108)), (1, .int x1), (2, .int x2)] []) (hrec_30 : ∀ (x1 : Int32) (x2 : Int32) (x3 : Int32) (D : Dat), rec_30 x1 x2 x3 D = some z → V X (Q0 X n (Ax nu K c u) none z) n (Ax nu K c u) D 30 [(0, .ref (bo X + 108)), (1, .int x1), (2, .int x2), (3, .int x3)] []) (x2 : Int32) (x3 : Int32) (x4 : Int64) (s0 : Int32) (D : Dat) (h : f_X6_findSure_b74 N rec_4 rec_30 x2 x3 x4 s0 D = some z) : V X (Q0 X n (Ax nu K c u) none z) n (Ax nu K c u) D 74 [(0, .ref (bo X + 108)), (2, .int x2), (3, .int x3), (4, .long x4)] [.int s0] := by
  unfold f_X6_findSure_b74 at h
  refine v_istore_n (pc := 74) (lv' := [(1, .int s0), (0, .ref (bo X + 108)), (2, .int x2), (3, .int x3), (4, .long x4)]) O dX6_findSure_74 rfl (by rw [hn]; decide) rfl ?_
  refine v_aload_n (pc := 75) O dX6_findSure_75 1 rfl ?_
  refine v_getK (pc := 76) (a := 108) O hm gf_X6_1 fl_X6_15 kq_108 lk_108_1 dX6_findSure_76 ?_
  refine v_iload_n (pc := 79) O dX6_findSure_79 3 rfl ?_
  refine v_lload (pc := 80) O dX6_findSure_80 4 rfl ?_
  obtain ⟨c1, h⟩ := or_none h
  refine v_last (pc := 82) (a := 110) O kq_110 (inq lq_110 c1) dX6_findSure_82 ?_
  refine v_iinc (pc := 83) (lv' := [(3, .int (x3 + (-1))), (1, .int s0), (0, .ref (bo X + 108)), (2, .int x2), (4, .long x4)]) O dX6_findSure_83 3 rfl (congrArg (fun q => x3 + q) ic_m1) (by rw [hn]; decide) rfl ?_
  refine v_goto (pc := 86) 30 O dX6_findSure_86 (by decide) ?_
  refine v_sub [2, 1, 3, 0] rfl ?_
  exact hrec_30 s0 x2 (x3 + (-1)) (sL D 110 (x3).toNatClampNeg x4) h
def f_X6_findSure_b69 (N : Nat) (rec_4 : Int32 → Int32 → Dat → Option (Dat)) (rec_30 : Int32 → Int32 → Int32 → Dat → Option (Dat)) (x2 : Int32) (x3 : Int32) (x4 : Int64) (D : Dat) : Option (Dat) :=
  f_X6_findSure_b74 N rec_4 rec_30 x2 x3 x4 1 D
set_option maxHeartbeats 4000000 in
theorem w_X6_findSure_b69 {X : Cx} {n nu c u : Nat} {K : Nat → Nat} {N : Nat} {rec_4 : Int32 → Int32 → Dat → Option (Dat)} {rec_30 : Int32 → Int32 → Int32 → Dat → Option (Dat)} {z : Dat} (O : Ok X cX6_findSure RX6 none 3 68) (hm : wlm (xw X) = true) (hn : xn X = 6) (hz : Z0 X (Ax nu K c u)) (hrec_4 : ∀ (x1 : Int32) (x2 : Int32) (D : Dat), rec_4 x1 x2 D = some z → V X (Q0 X n (Ax nu K c u) none z) n (Ax nu K c u) D 4 [(0, .ref (bo X + 108)), (1, .int x1), (2, .int x2)] []) (hrec_30 : ∀ (x1 : Int32) (x2 : Int32) (x3 : Int32) (D : Dat), rec_30 x1 x2 x3 D = some z → V X (Q0 X n (Ax nu K c u) none z) n (Ax nu K c u) D 30 [(0, .ref (bo X + 108)), (1, .int x1), (2, .int x2), (3, .int x3)] []) (x2 : Int32) (x3 : Int32) (x4 : Int64) (D : Dat) (h : f_X6_findSure_b69 N rec_4 rec_30 x2 x3 x4 D = some z) : V X (Q0 X n (Ax nu K c u) none z) n (Ax nu K c u) D 69 [(0, .ref (bo X + 108)), (2, .int x2), (3, .int x3), (4, .long x4)] [] := by
  unfold f_X6_findSure_b69 at h
  refine v_iconst (pc := 69) O dX6_findSure_69 ic_1 ?_
  refine v_goto (pc := 70) 74 O dX6_findSure_70 (by decide) ?_
  refine v_sub [0, 1, 2, 3] rfl ?_
  exact w_X6_findSure_b74 O hm hn hz hrec_4 hrec_30 x2 x3 x4 1 D h
def f_X6_findSure_b30 (N : Nat) (rec_4 : Int32 → Int32 → Dat → Option (Dat)) : Nat → Int32 → Int32 → Int32 → Dat → Option (Dat)
  | 0, _, _, _, _ => none
  | g + 1, x1, x2, x3, D => if x3 < 0 then (rec_4 x1 (x2 + 1) D) else (if x3 < 0 ∨ 64 ≤ (x3).toNatClampNeg then none else ((f_X11_bit x3 D).bind (fun p4 => (f_X6_sureBehind N x3 p4.2).bind (fun p6 => if x1 = 0 then (if x3 < 0 ∨ 64 ≤ (x3).toNatClampNeg then none else (if (lg_cmp ((dL D 110 (x3).toNatClampNeg) &&& (p4.1 ||| p6.1)) (dL p6.2 110 (x3).toNatClampNeg)) = 0 then (f_X6_findSure_b74 N rec_4 (f_X6_findSure_b30 N rec_4 g) x2 x3 ((dL D 110 (x3).toNatClampNeg) &&& (p4.1 ||| p6.1)) 0 p6.2) else (f_X6_findSure_b69 N rec_4 (f_X6_findSure_b30 N rec_4 g) x2 x3 ((dL D 110 (x3).toNatClampNeg) &&& (p4.1 ||| p6.1)) p6.2))) else (f_X6_findSure_b69 N rec_4 (f_X6_findSure_b30 N rec_4 g) x2 x3 ((dL D 110 (x3).toNatClampNeg) &&& (p4.1 ||| p6.1)) p6.2)))))
set_option maxHeartbeats 4000000 in
theorem w_X6_findSure_b30 {X : Cx} {n nu c u : Nat} {K : Nat → Nat} {N : Nat} {rec_4 : Int32 → Int32 → Dat → Option (Dat)} {z : Dat} (O : Ok X cX6_findSure RX6 none 3 68) (hm : wlm (xw X) = true) (hn : xn X = 6) (hz : Z0 X (Ax nu K c u)) (hrec_4 : ∀ (x1 : Int32) (x2 : Int32) (D : Dat), rec_4 x1 x2 D = some z → V X (Q0 X n (Ax nu K c u) none z) n (Ax nu K c u) D 4 [(0, .ref (bo X + 108)), (1, .int x1), (2, .int x2)] []) : ∀ (g : Nat) (x1 : Int32) (x2 : Int32) (x3 : Int32) (D : Dat), f_X6_findSure_b30 N rec_4 g x1 x2 x3 D = some z → V X (Q0 X n (Ax nu K c u) none z) n (Ax nu K c u) D 30 [(0, .ref (bo X + 108)), (1, .int x1), (2, .int x2), (3, .int x3)] [] := by
  intro g
  induction g with
  | zero => intro x1 x2 x3 D h; exact absurd h (by simp [f_X6_findSure_b30])
  | succ g ih =>
    intro x1 x2 x3 D h
    rw [f_X6_findSure_b30] at h
    refine v_iload_n (pc := 30) O dX6_findSure_30 3 rfl ?_
    refine v_iflt (pc := 31) 89 O dX6_findSure_31 (by decide) (fun c2 => ?_) (fun c2 => ?_)
    · have h := (if_pos c2).symm.trans h
      refine v_iinc (pc := 89) (lv' := [(2, .int (x2 + 1)), (0, .ref (bo X + 108)), (1, .int x1), (3, .int x3)]) O dX6_findSure_89 2 rfl (congrArg (fun q => x2 + q) ic_1) (by rw [hn]; decide) rfl ?_
      refine v_goto (pc := 92) 4 O dX6_findSure_92 (by decide) ?_
      refine v_sub [1, 2, 0] rfl ?_
      exact hrec_4 x1 (x2 + 1) D h
    · have h := (if_neg c2).symm.trans h
      refine v_aload_n (pc := 34) O dX6_findSure_34 0 rfl ?_
      refine v_getK (pc := 35) (a := 108) O hm gf_X6_1 fl_X6_15 kq_108 lk_108_1 dX6_findSure_35 ?_
      refine v_iload_n (pc := 38) O dX6_findSure_38 3 rfl ?_
      obtain ⟨c3, h⟩ := or_none h
      refine v_lald (pc := 39) (a := 110) O kq_110 (inq lq_110 c3) dX6_findSure_39 ?_
      refine v_iload_n (pc := 40) O dX6_findSure_40 3 rfl ?_
      obtain ⟨p4, e5, h⟩ := bind_some h
      refine v_callN (pc := 41) (As := [.int x3]) (rest := [.long (dL D 110 (x3).toNatClampNeg)]) (r := (some (.long p4.1))) (D' := p4.2) O (bb0 hz) (c_X11_bit hm e5) mw_X11_bit sm_X11_bit nl_X6_55 rfl (by decide) (by decide) (Nat.le_of_ble_eq_true rfl) dX6_findSure_41 rfl rfl ?_
      refine v_aload_n (pc := 44) O dX6_findSure_44 0 rfl ?_
      refine v_iload_n (pc := 45) O dX6_findSure_45 3 rfl ?_
      obtain ⟨p6, e7, h⟩ := bind_some h
      refine v_callV (pc := 46) (a := 108) (As := [.int x3]) (rest := [.long p4.1, .long (dL D 110 (x3).toNatClampNeg)]) (r := (some (.long p6.1))) (D' := p6.2) O (bb0 hz) (c_X6_sureBehind hm e7) mw_X6_sureBehind im_X6_sureBehind se_X6_sureBehind ml_X6_73 kq_108 (by decide) rfl rfl rfl (by decide) (by decide) (Nat.le_of_ble_eq_true rfl) dX6_findSure_46 rfl rfl ?_
      refine v_lor (pc := 49) O dX6_findSure_49 ?_
      refine v_land (pc := 50) O dX6_findSure_50 ?_
      refine v_lstore (pc := 51) (lv' := [(4, .long ((dL D 110 (x3).toNatClampNeg) &&& (p4.1 ||| p6.1))), (0, .ref (bo X + 108)), (1, .int x1), (2, .int x2), (3, .int x3)]) O dX6_findSure_51 (by rw [hn]; decide) rfl ?_
      refine v_iload_n (pc := 53) O dX6_findSure_53 2 rfl ?_
      refine v_ifne (pc := 54) 69 O dX6_findSure_54 (by decide) (fun c8 => ?_) (fun c8 => ?_)
      · have h := (if_neg c8).symm.trans h
        refine v_sub [1, 3, 4, 0] rfl ?_
        exact w_X6_findSure_b69 O hm hn hz hrec_4 ih x2 x3 ((dL D 110 (x3).toNatClampNeg) &&& (p4.1 ||| p6.1)) p6.2 h
      · have h := (if_pos c8).symm.trans h
        refine v_lload (pc := 57) O dX6_findSure_57 0 rfl ?_
        refine v_aload_n (pc := 59) O dX6_findSure_59 1 rfl ?_
        refine v_getK (pc := 60) (a := 108) O hm gf_X6_1 fl_X6_15 kq_108 lk_108_1 dX6_findSure_60 ?_
        refine v_iload_n (pc := 63) O dX6_findSure_63 4 rfl ?_
        obtain ⟨c9, h⟩ := or_none h
        refine v_lald (pc := 64) (a := 110) O kq_110 (inq lq_110 c9) dX6_findSure_64 ?_
        refine v_lcmp (pc := 65) O dX6_findSure_65 ?_
        refine v_ifeq (pc := 66) 73 O dX6_findSure_66 (by decide) (fun c10 => ?_) (fun c10 => ?_)
        · have h := (if_pos c10).symm.trans h
          refine v_iconst (pc := 73) O dX6_findSure_73 ic_0 ?_
          refine v_sub [1, 3, 4, 0] rfl ?_
          exact w_X6_findSure_b74 O hm hn hz hrec_4 ih x2 x3 ((dL D 110 (x3).toNatClampNeg) &&& (p4.1 ||| p6.1)) 0 p6.2 h
        · have h := (if_neg c10).symm.trans h
          refine v_sub [1, 3, 4, 0] rfl ?_
          exact w_X6_findSure_b69 O hm hn hz hrec_4 ih x2 x3 ((dL D 110 (x3).toNatClampNeg) &&& (p4.1 ||| p6.1)) p6.2 h
def f_X6_findSure_b95 (N : Nat) (D : Dat) : Option (Dat) :=
  some D
set_option maxHeartbeats 4000000 in
theorem w_X6_findSure_b95 {X : Cx} {n nu c u : Nat} {K : Nat → Nat} {N : Nat} {z : Dat} (O : Ok X cX6_findSure RX6 none 3 68) (hm : wlm (xw X) = true) (hn : xn X = 6) (hz : Z0 X (Ax nu K c u)) (D : Dat) (h : f_X6_findSure_b95 N D = some z) : V X (Q0 X n (Ax nu K c u) none z) n (Ax nu K c u) D 95 [] [] := by
  unfold f_X6_findSure_b95 at h
  obtain rfl := Option.some.inj h
  exact v_ret (pc := 95) O hz dX6_findSure_95
def f_X6_findSure_b4 (N : Nat) : Nat → Int32 → Int32 → Dat → Option (Dat)
  | 0, _, _, _ => none
  | g + 1, x1, x2, D => if ((dI D 108 4) * (dI D 108 4)) < x2 then (f_X6_findSure_b95 N D) else (if x1 = 0 then (f_X6_findSure_b95 N D) else (f_X6_findSure_b30 N (f_X6_findSure_b4 N g) N 0 x2 ((dI D 108 4) - (1 : Int32)) D))
set_option maxHeartbeats 4000000 in
theorem w_X6_findSure_b4 {X : Cx} {n nu c u : Nat} {K : Nat → Nat} {N : Nat} {z : Dat} (O : Ok X cX6_findSure RX6 none 3 68) (hm : wlm (xw X) = true) (hn : xn X = 6) (hz : Z0 X (Ax nu K c u)) : ∀ (g : Nat) (x1 : Int32) (x2 : Int32) (D : Dat), f_X6_findSure_b4 N g x1 x2 D = some z → V X (Q0 X n (Ax nu K c u) none z) n (Ax nu K c u) D 4 [(0, .ref (bo X + 108)), (1, .int x1), (2, .int x2)] [] := by
  intro g
  induction g with
  | zero => intro x1 x2 D h; exact absurd h (by simp [f_X6_findSure_b4])
  | succ g ih =>
    intro x1 x2 D h
    rw [f_X6_findSure_b4] at h
    refine v_iload_n (pc := 4) O dX6_findSure_4 2 rfl ?_
    refine v_aload_n (pc := 5) O dX6_findSure_5 0 rfl ?_
    refine v_getI (pc := 6) (a := 108) O gf_X6_4 fl_X6_25 kq_108 dX6_findSure_6 ?_
    refine v_aload_n (pc := 9) O dX6_findSure_9 0 rfl ?_
    refine v_getI (pc := 10) (a := 108) O gf_X6_4 fl_X6_25 kq_108 dX6_findSure_10 ?_
    refine v_imul (pc := 13) O dX6_findSure_13 ?_
    refine v_icmpgt (pc := 14) 95 O dX6_findSure_14 (by decide) (fun c11 => ?_) (fun c11 => ?_)
    · have h := (if_pos c11).symm.trans h
      refine v_sub [] rfl ?_
      exact w_X6_findSure_b95 O hm hn hz D h
    · have h := (if_neg c11).symm.trans h
      refine v_iload_n (pc := 17) O dX6_findSure_17 1 rfl ?_
      refine v_ifeq (pc := 18) 95 O dX6_findSure_18 (by decide) (fun c12 => ?_) (fun c12 => ?_)
      · have h := (if_pos c12).symm.trans h
        refine v_sub [] rfl ?_
        exact w_X6_findSure_b95 O hm hn hz D h
      · have h := (if_neg c12).symm.trans h
        refine v_iconst (pc := 21) O dX6_findSure_21 ic_0 ?_
        refine v_istore_n (pc := 22) (lv' := [(1, .int 0), (0, .ref (bo X + 108)), (2, .int x2)]) O dX6_findSure_22 rfl (by rw [hn]; decide) rfl ?_
        refine v_aload_n (pc := 23) O dX6_findSure_23 1 rfl ?_
        refine v_getI (pc := 24) (a := 108) O gf_X6_4 fl_X6_25 kq_108 dX6_findSure_24 ?_
        refine v_iconst (pc := 27) O dX6_findSure_27 ic_1 ?_
        refine v_isub (pc := 28) O dX6_findSure_28 ?_
        refine v_istore_n (pc := 29) (lv' := [(3, .int ((dI D 108 4) - (1 : Int32))), (1, .int 0), (0, .ref (bo X + 108)), (2, .int x2)]) O dX6_findSure_29 rfl (by rw [hn]; decide) rfl ?_
        refine v_sub [2, 1, 3, 0] rfl ?_
        exact w_X6_findSure_b30 O hm hn hz ih N 0 x2 ((dI D 108 4) - (1 : Int32)) D h
def f_X6_findSure (N : Nat) (D : Dat) : Option (Dat) :=
  f_X6_findSure_b4 N N 1 0 D
set_option maxHeartbeats 4000000 in
theorem w_X6_findSure {X : Cx} {n nu c u : Nat} {K : Nat → Nat} {N : Nat} {z : Dat} (O : Ok X cX6_findSure RX6 none 3 68) (hm : wlm (xw X) = true) (hn : xn X = 6) (hz : Z0 X (Ax nu K c u)) (D : Dat) (h : f_X6_findSure N D = some z) : V X (Q0 X n (Ax nu K c u) none z) n (Ax nu K c u) D 0 [(0, .ref (bo X + 108))] [] := by
  unfold f_X6_findSure at h
  refine v_iconst (pc := 0) O dX6_findSure_0 ic_1 ?_
  refine v_istore_n (pc := 1) (lv' := [(1, .int 1), (0, .ref (bo X + 108))]) O dX6_findSure_1 rfl (by rw [hn]; decide) rfl ?_
  refine v_iconst (pc := 2) O dX6_findSure_2 ic_0 ?_
  refine v_istore_n (pc := 3) (lv' := [(2, .int 0), (1, .int 1), (0, .ref (bo X + 108))]) O dX6_findSure_3 rfl (by rw [hn]; decide) rfl ?_
  refine v_sub [2, 1, 0] rfl ?_
  exact w_X6_findSure_b4 O hm hn hz N 1 0 D h
theorem c_X6_findSure {l : Launch} {w : Wx} {n nu c u : Nat} {K : Nat → Nat} {N : Nat} (hm : wlm w = true) {D : Dat} {z : Dat} (h : f_X6_findSure N D = some z) : C0 l w yX6_findSure cX6_findSure 6 none 3 68 [.ref (wb w + 108)] n (Ax nu K c u) D none z :=
  C0.of (by decide) (Nat.le_of_ble_eq_true rfl) (fun X e1 e2 e3 hz O => by
  subst e1
  subst e2
  exact w_X6_findSure O hm e3 hz  D h)
def f_X9_heightsFit_b87 (N : Nat) (nu : Nat) (K : Nat → Nat) (D : Dat) : Option (Int32 × Dat) :=
  some (1, D)
set_option maxHeartbeats 4000000 in
theorem w_X9_heightsFit_b87 {X : Cx} {n nu c u : Nat} {K : Nat → Nat} {N : Nat} {z : Int32 × Dat} (O : Ok X cX9_heightsFit RX9 (some .boolean) 4 94) (hm : wlm (xw X) = true) (hn : xn X = 5) (hz : Z0 X (Ax nu K c u)) (D : Dat) (h : f_X9_heightsFit_b87 N nu K D = some z) : V X (Q0 X n (Ax nu K c u) (some (.int z.1)) z.2) n (Ax nu K c u) D 87 [] [] := by
  unfold f_X9_heightsFit_b87 at h
  refine v_iconst (pc := 87) O dX9_heightsFit_87 ic_1 ?_
  obtain rfl := Option.some.inj h
  exact v_zret (pc := 88) O hz narrow_b1 dX9_heightsFit_88
def f_X9_heightsFit_b27 (N : Nat) (nu : Nat) (K : Nat → Nat) : Nat → Int64 → Int32 → Dat → Option (Int32 × Dat)
  | 0, _, _, _ => none
  | g + 1, x1, x3, D => ((dR D 107 2)).bind (fun a1 => if a1 = 201 ∨ a1 = 204 then ((f_X0_size a1 D).bind (fun p4 => if p4.1 ≤ x3 then (f_X9_heightsFit_b87 N nu K p4.2) else (if (lg_cmp (dL p4.2 107 5) x1) = 0 then (f_X9_heightsFit_b87 N nu K p4.2) else ((f_X11_least ((dL p4.2 107 5) &&& (x1 ^^^ (-1 : Int64))) p4.2).bind (fun p8 => (f_X11_bit p8.1 p8.2).bind (fun p10 => (f_X9_heightFits N p8.1 p10.2).bind (fun p12 => if p12.1 = 0 then (some (0, p12.2)) else ((f_X9_heightsFit_b27 N nu K g) (x1 ||| p10.1) (x3 + 1) p12.2)))))))) else none)
set_option maxHeartbeats 4000000 in
theorem w_X9_heightsFit_b27 {X : Cx} {n nu c u : Nat} {K : Nat → Nat} {N : Nat} {z : Int32 × Dat} (O : Ok X cX9_heightsFit RX9 (some .boolean) 4 94) (hm : wlm (xw X) = true) (hn : xn X = 5) (hz : Z0 X (Ax nu K c u)) : ∀ (g : Nat) (x1 : Int64) (x3 : Int32) (D : Dat), f_X9_heightsFit_b27 N nu K g x1 x3 D = some z → V X (Q0 X n (Ax nu K c u) (some (.int z.1)) z.2) n (Ax nu K c u) D 27 [(0, .ref (bo X + 107)), (1, .long x1), (3, .int x3)] [] := by
  intro g
  induction g with
  | zero => intro x1 x3 D h; exact absurd h (by simp [f_X9_heightsFit_b27])
  | succ g ih =>
    intro x1 x3 D h
    rw [f_X9_heightsFit_b27] at h
    refine v_iload_n (pc := 27) O dX9_heightsFit_27 2 rfl ?_
    refine v_aload_n (pc := 28) O dX9_heightsFit_28 0 rfl ?_
    refine v_getR (pc := 29) (a := 107) O gf_X9_2 fl_X9_83 kq_107 dX9_heightsFit_29 ?_
    obtain ⟨a1, e2, h⟩ := bind_some h
    rw [e2]
    obtain ⟨c3, h⟩ := if_none h
    obtain ⟨p4, e5, h⟩ := bind_some h
    refine v_callV (pc := 32) (a := a1) (As := []) (rest := [.int x3]) (r := (some (.int p4.1))) (D' := p4.2) O (bb0 hz) (c_X0_size hm c3 e5) mw_X0_size im_X0_size se_X0_size ml_X9_110 (kt_X0 c3) (by decide) rfl rfl rfl (by decide) (by decide) (Nat.le_of_ble_eq_true rfl) dX9_heightsFit_32 rfl rfl ?_
    refine v_icmpge (pc := 35) 87 O dX9_heightsFit_35 (by decide) (fun c6 => ?_) (fun c6 => ?_)
    · have h := (if_pos c6).symm.trans h
      refine v_sub [] rfl ?_
      exact w_X9_heightsFit_b87 O hm hn hz p4.2 h
    · have h := (if_neg c6).symm.trans h
      refine v_aload_n (pc := 38) O dX9_heightsFit_38 0 rfl ?_
      refine v_getL (pc := 39) (a := 107) O gf_X9_5 fl_X9_48 kq_107 dX9_heightsFit_39 ?_
      refine v_lload_n (pc := 42) O dX9_heightsFit_42 1 rfl ?_
      refine v_lcmp (pc := 43) O dX9_heightsFit_43 ?_
      refine v_ifeq (pc := 44) 87 O dX9_heightsFit_44 (by decide) (fun c7 => ?_) (fun c7 => ?_)
      · have h := (if_pos c7).symm.trans h
        refine v_sub [] rfl ?_
        exact w_X9_heightsFit_b87 O hm hn hz p4.2 h
      · have h := (if_neg c7).symm.trans h
        refine v_aload_n (pc := 47) O dX9_heightsFit_47 0 rfl ?_
        refine v_getL (pc := 48) (a := 107) O gf_X9_5 fl_X9_48 kq_107 dX9_heightsFit_48 ?_
        refine v_lload_n (pc := 51) O dX9_heightsFit_51 1 rfl ?_
        refine v_ldc2 (pc := 52) O dX9_heightsFit_52 cl_X9_142 ?_
        refine v_lxor (pc := 55) O dX9_heightsFit_55 ?_
        refine v_land (pc := 56) O dX9_heightsFit_56 ?_
        obtain ⟨p8, e9, h⟩ := bind_some h
        refine v_callN (pc := 57) (As := [.long ((dL p4.2 107 5) &&& (x1 ^^^ (-1 : Int64)))]) (rest := []) (r := (some (.int p8.1))) (D' := p8.2) O (bb0 hz) (c_X11_least hm e9) mw_X11_least sm_X11_least nl_X9_144 rfl (by decide) (by decide) (Nat.le_of_ble_eq_true rfl) dX9_heightsFit_57 rfl rfl ?_
        refine v_istore (pc := 60) (lv' := [(4, .int p8.1), (0, .ref (bo X + 107)), (1, .long x1), (3, .int x3)]) O dX9_heightsFit_60 (by rw [hn]; decide) rfl ?_
        refine v_lload_n (pc := 62) O dX9_heightsFit_62 2 rfl ?_
        refine v_iload (pc := 63) O dX9_heightsFit_63 0 rfl ?_
        obtain ⟨p10, e11, h⟩ := bind_some h
        refine v_callN (pc := 65) (As := [.int p8.1]) (rest := [.long x1]) (r := (some (.long p10.1))) (D' := p10.2) O (bb0 hz) (c_X11_bit hm e11) mw_X11_bit sm_X11_bit nl_X9_138 rfl (by decide) (by decide) (Nat.le_of_ble_eq_true rfl) dX9_heightsFit_65 rfl rfl ?_
        refine v_lor (pc := 68) O dX9_heightsFit_68 ?_
        refine v_lstore_n (pc := 69) (lv' := [(1, .long (x1 ||| p10.1)), (4, .int p8.1), (0, .ref (bo X + 107)), (3, .int x3)]) O dX9_heightsFit_69 rfl (by rw [hn]; decide) rfl ?_
        refine v_aload_n (pc := 70) O dX9_heightsFit_70 2 rfl ?_
        refine v_iload (pc := 71) O dX9_heightsFit_71 1 rfl ?_
        obtain ⟨p12, e13, h⟩ := bind_some h
        refine v_callV (pc := 73) (a := 107) (As := [.int p8.1]) (rest := []) (r := (some (.int p12.1))) (D' := p12.2) O (bb0 hz) (c_X9_heightFits hm e13) mw_X9_heightFits im_X9_heightFits se_X9_heightFits ml_X9_147 kq_107 (by decide) rfl rfl rfl (by decide) (by decide) (Nat.le_of_ble_eq_true rfl) dX9_heightsFit_73 rfl rfl ?_
        refine v_ifne (pc := 76) 81 O dX9_heightsFit_76 (by decide) (fun c14 => ?_) (fun c14 => ?_)
        · have h := (if_neg c14).symm.trans h
          refine v_iinc (pc := 81) (lv' := [(3, .int (x3 + 1)), (1, .long (x1 ||| p10.1)), (4, .int p8.1), (0, .ref (bo X + 107))]) O dX9_heightsFit_81 3 rfl (congrArg (fun q => x3 + q) ic_1) (by rw [hn]; decide) rfl ?_
          refine v_goto (pc := 84) 27 O dX9_heightsFit_84 (by decide) ?_
          refine v_sub [3, 1, 0] rfl ?_
          exact ih (x1 ||| p10.1) (x3 + 1) p12.2 h
        · have h := (if_pos c14).symm.trans h
          refine v_iconst (pc := 79) O dX9_heightsFit_79 ic_0 ?_
          obtain rfl := Option.some.inj h
          exact v_zret (pc := 80) O hz narrow_b0 dX9_heightsFit_80
def f_X9_heightsFit (N : Nat) (nu : Nat) (K : Nat → Nat) (D : Dat) : Option (Int32 × Dat) :=
  (f_J7_fill_53178 N nu K 113 (-1) D).bind (fun p15 => (f_X11_bit 0 (sI p15 113 (0 : Int32).toNatClampNeg 0)).bind (fun p17 => f_X9_heightsFit_b27 N nu K N (0 : Int64) 0 (sL p17.2 107 5 p17.1)))
set_option maxHeartbeats 4000000 in
theorem w_X9_heightsFit {X : Cx} {n nu c u : Nat} {K : Nat → Nat} {N : Nat} {z : Int32 × Dat} (O : Ok X cX9_heightsFit RX9 (some .boolean) 4 94) (hm : wlm (xw X) = true) (hn : xn X = 5) (hz : Z0 X (Ax nu K c u)) (D : Dat) (h : f_X9_heightsFit N nu K D = some z) : V X (Q0 X n (Ax nu K c u) (some (.int z.1)) z.2) n (Ax nu K c u) D 0 [(0, .ref (bo X + 107))] [] := by
  unfold f_X9_heightsFit at h
  refine v_aload_n (pc := 0) O dX9_heightsFit_0 0 rfl ?_
  refine v_getK (pc := 1) (a := 107) O hm gf_X9_4 fl_X9_18 kq_107 lk_107_4 dX9_heightsFit_1 ?_
  refine v_iconst (pc := 4) O dX9_heightsFit_4 ic_m1 ?_
  obtain ⟨p15, e16, h⟩ := bind_some h
  refine v_callS (pc := 5) (As := [.ref (bo X + 113), .int (-1)]) (rest := []) (r := none) (D' := p15) O (bb0 hz) (c_J7_fill_53178 hm e16) mw_J7_fill_53178 sm_J7_fill_53178 ml_X9_132 rfl (by decide) (by decide) (Nat.le_of_ble_eq_true rfl) dX9_heightsFit_5 rfl rfl ?_
  refine v_aload_n (pc := 8) O dX9_heightsFit_8 0 rfl ?_
  refine v_getK (pc := 9) (a := 107) O hm gf_X9_4 fl_X9_18 kq_107 lk_107_4 dX9_heightsFit_9 ?_
  refine v_iconst (pc := 12) O dX9_heightsFit_12 ic_0 ?_
  refine v_iconst (pc := 13) O dX9_heightsFit_13 ic_0 ?_
  refine v_iast (pc := 14) (a := 113) O kq_113 (inq lq_113 (by decide)) dX9_heightsFit_14 ?_
  refine v_aload_n (pc := 15) O dX9_heightsFit_15 0 rfl ?_
  refine v_iconst (pc := 16) O dX9_heightsFit_16 ic_0 ?_
  obtain ⟨p17, e18, h⟩ := bind_some h
  refine v_callN (pc := 17) (As := [.int 0]) (rest := [.ref (bo X + 107)]) (r := (some (.long p17.1))) (D' := p17.2) O (bb0 hz) (c_X11_bit hm e18) mw_X11_bit sm_X11_bit nl_X9_138 rfl (by decide) (by decide) (Nat.le_of_ble_eq_true rfl) dX9_heightsFit_17 rfl rfl ?_
  refine v_putL (pc := 20) (a := 107) O pf_X9_5 fl_X9_48 kq_107 dX9_heightsFit_20 ?_
  refine v_lconst (pc := 23) (v := 0) O dX9_heightsFit_23 rfl ?_
  refine v_lstore_n (pc := 24) (lv' := [(1, .long (0 : Int64)), (0, .ref (bo X + 107))]) O dX9_heightsFit_24 rfl (by rw [hn]; decide) rfl ?_
  refine v_iconst (pc := 25) O dX9_heightsFit_25 ic_0 ?_
  refine v_istore_n (pc := 26) (lv' := [(3, .int 0), (1, .long (0 : Int64)), (0, .ref (bo X + 107))]) O dX9_heightsFit_26 rfl (by rw [hn]; decide) rfl ?_
  refine v_sub [2, 1, 0] rfl ?_
  exact w_X9_heightsFit_b27 O hm hn hz N (0 : Int64) 0 (sL p17.2 107 5 p17.1) h
theorem c_X9_heightsFit {l : Launch} {w : Wx} {n nu c u : Nat} {K : Nat → Nat} {N : Nat} (hm : wlm w = true) {D : Dat} {z : Int32 × Dat} (h : f_X9_heightsFit N nu K D = some z) : C0 l w yX9_heightsFit cX9_heightsFit 5 (some .boolean) 4 94 [.ref (wb w + 107)] n (Ax nu K c u) D (some (.int z.1)) z.2 :=
  C0.of (by decide) (Nat.le_of_ble_eq_true rfl) (fun X e1 e2 e3 hz O => by
  subst e1
  subst e2
  exact w_X9_heightsFit O hm e3 hz  D h)
