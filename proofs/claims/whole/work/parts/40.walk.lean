theorem cw_X3_finish : Cond.code yX3_finish cX3_finish 1 none ∈ tb := tb_of 1579 (by decide +kernel) (by decide +kernel)
theorem mw_X3_finish : MW yX3_finish cX3_finish 1 none 0 := ⟨cw_X3_finish, ini_X3, by decide +kernel⟩
theorem im_X3_finish : Cond.instanceMethod yX3_finish ∈ tb := tb_of 1577 (by decide +kernel) (by decide +kernel)
theorem se_X3_finish : Cond.selects (yX3_finish).cls yX3_finish yX3_finish ∈ tb := tb_of 1578 (by decide +kernel) (by decide +kernel)
theorem ml_X3_82 : Cond.methodLink RX3 82 yX3_finish ∈ tb := tb_of 1576 (by decide +kernel) (by decide +kernel)
theorem ml_X6_33 : Cond.methodLink RX6 33 yX0_size ∈ tb := tb_of 1376 (by decide +kernel) (by decide +kernel)
theorem ml_X6_38 : Cond.methodLink RX6 38 Lib.Math.min.name ∈ tb := tb_of 1377 (by decide +kernel) (by decide +kernel)
theorem pf_X6_4 : PI 6 RX6 TX6 6 tyX6 4 0 .int := ⟨gf_X6_4, rfl, rfl⟩
theorem sp_21888 : (Int16.ofInt (21888)).toInt32 = (21888 : Int32) := by decide
theorem cw_X8_goOverIf : Cond.code yX8_goOverIf cX8_goOverIf 5 none ∈ tb := tb_of 1231 (by decide +kernel) (by decide +kernel)
theorem mw_X8_goOverIf : MW yX8_goOverIf cX8_goOverIf 5 none 2 := ⟨cw_X8_goOverIf, ini_X8, by decide +kernel⟩
theorem im_X8_goOverIf : Cond.instanceMethod yX8_goOverIf ∈ tb := tb_of 1230 (by decide +kernel) (by decide +kernel)
theorem se_X8_goOverIf : Cond.selects (yX8_goOverIf).cls yX8_goOverIf yX8_goOverIf ∈ tb := tb_of 43 (by decide +kernel) (by decide +kernel)
theorem ml_X8_48 : Cond.methodLink RX8 48 yX8_goOverIf ∈ tb := tb_of 1228 (by decide +kernel) (by decide +kernel)
theorem cw_X8_goOverWhile : Cond.code yX8_goOverWhile cX8_goOverWhile 5 none ∈ tb := tb_of 1258 (by decide +kernel) (by decide +kernel)
theorem mw_X8_goOverWhile : MW yX8_goOverWhile cX8_goOverWhile 5 none 2 := ⟨cw_X8_goOverWhile, ini_X8, by decide +kernel⟩
theorem im_X8_goOverWhile : Cond.instanceMethod yX8_goOverWhile ∈ tb := tb_of 1257 (by decide +kernel) (by decide +kernel)
theorem se_X8_goOverWhile : Cond.selects (yX8_goOverWhile).cls yX8_goOverWhile yX8_goOverWhile ∈ tb := tb_of 46 (by decide +kernel) (by decide +kernel)
theorem ml_X8_51 : Cond.methodLink RX8 51 yX8_goOverWhile ∈ tb := tb_of 1255 (by decide +kernel) (by decide +kernel)
theorem ml_X8_57 : Cond.methodLink RX8 57 yX4_proc ∈ tb := tb_of 1259 (by decide +kernel) (by decide +kernel)
theorem cw_X6_findEnding : Cond.code yX6_findEnding cX6_findEnding 4 none ∈ tb := tb_of 1385 (by decide +kernel) (by decide +kernel)
theorem mw_X6_findEnding : MW yX6_findEnding cX6_findEnding 4 none 0 := ⟨cw_X6_findEnding, ini_X6, by decide +kernel⟩
theorem im_X6_findEnding : Cond.instanceMethod yX6_findEnding ∈ tb := tb_of 1384 (by decide +kernel) (by decide +kernel)
theorem se_X6_findEnding : Cond.selects (yX6_findEnding).cls yX6_findEnding yX6_findEnding ∈ tb := tb_of 55 (by decide +kernel) (by decide +kernel)
theorem ml_X6_60 : Cond.methodLink RX6 60 yX6_findEnding ∈ tb := tb_of 1382 (by decide +kernel) (by decide +kernel)
theorem cw_X8_goOverPlain : Cond.code yX8_goOverPlain cX8_goOverPlain 2 none ∈ tb := tb_of 1263 (by decide +kernel) (by decide +kernel)
theorem mw_X8_goOverPlain : MW yX8_goOverPlain cX8_goOverPlain 2 none 1 := ⟨cw_X8_goOverPlain, ini_X8, by decide +kernel⟩
theorem im_X8_goOverPlain : Cond.instanceMethod yX8_goOverPlain ∈ tb := tb_of 1262 (by decide +kernel) (by decide +kernel)
theorem se_X8_goOverPlain : Cond.selects (yX8_goOverPlain).cls yX8_goOverPlain yX8_goOverPlain ∈ tb := tb_of 47 (by decide +kernel) (by decide +kernel)
theorem ml_X8_61 : Cond.methodLink RX8 61 yX8_goOverPlain ∈ tb := tb_of 1260 (by decide +kernel) (by decide +kernel)
theorem fl_X8_65 : Cond.fieldLink RX8 65 RX7 (TX7 9).2.1 (TX7 9).2.2.1 ∈ tb := tb_of 1060 (by decide +kernel) (by decide +kernel)
theorem ml_X3_85 : Cond.methodLink RX3 85 yX3_perform ∈ tb := tb_of 1580 (by decide +kernel) (by decide +kernel)
theorem cw_X6_findSure : Cond.code yX6_findSure cX6_findSure 6 none ∈ tb := tb_of 1392 (by decide +kernel) (by decide +kernel)
theorem mw_X6_findSure : MW yX6_findSure cX6_findSure 6 none 0 := ⟨cw_X6_findSure, ini_X6, by decide +kernel⟩
theorem im_X6_findSure : Cond.instanceMethod yX6_findSure ∈ tb := tb_of 1391 (by decide +kernel) (by decide +kernel)
theorem se_X6_findSure : Cond.selects (yX6_findSure).cls yX6_findSure yX6_findSure ∈ tb := tb_of 56 (by decide +kernel) (by decide +kernel)
theorem ml_X6_63 : Cond.methodLink RX6 63 yX6_findSure ∈ tb := tb_of 1389 (by decide +kernel) (by decide +kernel)
theorem ml_X6_48 : Cond.methodLink RX6 48 yX0_nexts ∈ tb := tb_of 1378 (by decide +kernel) (by decide +kernel)
theorem ml_X6_51 : Cond.methodLink RX6 51 yX0_operation ∈ tb := tb_of 1379 (by decide +kernel) (by decide +kernel)
theorem cw_X6_findNext : Cond.code yX6_findNext cX6_findNext 5 (some .int) ∈ tb := tb_of 1401 (by decide +kernel) (by decide +kernel)
theorem mw_X6_findNext : MW yX6_findNext cX6_findNext 5 (some .int) 1 := ⟨cw_X6_findNext, ini_X6, by decide +kernel⟩
theorem im_X6_findNext : Cond.instanceMethod yX6_findNext ∈ tb := tb_of 1400 (by decide +kernel) (by decide +kernel)
theorem se_X6_findNext : Cond.selects (yX6_findNext).cls yX6_findNext yX6_findNext ∈ tb := tb_of 58 (by decide +kernel) (by decide +kernel)
theorem ml_X6_66 : Cond.methodLink RX6 66 yX6_findNext ∈ tb := tb_of 1398 (by decide +kernel) (by decide +kernel)
theorem cw_X6_reachedFrom : Cond.code yX6_reachedFrom cX6_reachedFrom 12 (some .long) ∈ tb := tb_of 1405 (by decide +kernel) (by decide +kernel)
theorem mw_X6_reachedFrom : MW yX6_reachedFrom cX6_reachedFrom 12 (some .long) 2 := ⟨cw_X6_reachedFrom, ini_X6, by decide +kernel⟩
theorem im_X6_reachedFrom : Cond.instanceMethod yX6_reachedFrom ∈ tb := tb_of 1404 (by decide +kernel) (by decide +kernel)
theorem se_X6_reachedFrom : Cond.selects (yX6_reachedFrom).cls yX6_reachedFrom yX6_reachedFrom ∈ tb := tb_of 59 (by decide +kernel) (by decide +kernel)
theorem ml_X6_69 : Cond.methodLink RX6 69 yX6_reachedFrom ∈ tb := tb_of 1402 (by decide +kernel) (by decide +kernel)
theorem cw_X9_goOver : Cond.code yX9_goOver cX9_goOver 9 none ∈ tb := tb_of 1415 (by decide +kernel) (by decide +kernel)
theorem mw_X9_goOver : MW yX9_goOver cX9_goOver 9 none 1 := ⟨cw_X9_goOver, ini_X9, by decide +kernel⟩
theorem im_X9_goOver : Cond.instanceMethod yX9_goOver ∈ tb := tb_of 1414 (by decide +kernel) (by decide +kernel)
theorem se_X9_goOver : Cond.selects (yX9_goOver).cls yX9_goOver yX9_goOver ∈ tb := tb_of 61 (by decide +kernel) (by decide +kernel)
theorem ml_X9_168 : Cond.methodLink RX9 168 yX9_goOver ∈ tb := tb_of 1412 (by decide +kernel) (by decide +kernel)
def f_X8_goOverWhile (rec : Option Nat → Int32 → Dat → Option (Dat)) (N : Nat) (nu : Nat) (K : Nat → Nat) (x1 : Option Nat) (x2 : Int32) (D : Dat) : Option (Dat) :=
  ((dR D 106 1)).bind (fun a1 => if a1 = 201 ∨ a1 = 204 then ((f_X0_size a1 D).bind (fun p4 => (f_X8_emitExpressions N nu K x1 p4.2).bind (fun p6 => ((dR p6 106 1)).bind (fun a8 => if a8 = 201 ∨ a8 = 204 then ((f_X0_size a8 p6).bind (fun p11 => (f_X8_emit 11 0 p11.2).bind (fun p13 => (x1).bind (fun a15 => if kd K a15 = 7 then ((rec (dR p13 a15 6) (x2 + (1 : Int32)) p13).bind (fun p18 => (f_X8_emit 12 p4.1 p18).bind (fun p20 => ((dR p20 106 1)).bind (fun a22 => if a22 = 201 ∨ a22 = 204 then ((f_X0_size a22 p20).bind (fun p25 => (f_X0_aim a22 p11.1 p25.1 p25.2).bind (fun p27 => some p27))) else none)))) else none)))) else none)))) else none)
set_option maxHeartbeats 4000000 in
theorem w_X8_goOverWhile {X : Cx} {n nu c u : Nat} {K : Nat → Nat} {rec : Option Nat → Int32 → Dat → Option (Dat)} {N : Nat} {fr lc : Nat} {z : Dat} (O : Ok X cX8_goOverWhile RX8 none (fr + 3) (lc + 66)) (hm : wlm (xw X) = true) (hn : xn X = 5) (hz : Z0 X (Ax nu K c u)) (hR : ∀ {n : Nat} {x1 : Option Nat} {x2 : Int32} {D : Dat} {z : Dat}, rec x1 x2 D = some z → C0 (xl X) (xw X) yX8_goThrough cX8_goThrough 4 none fr lc [.ref (wb (xw X) + pp 106), rv (wb (xw X)) x1, .int x2] n (Ax nu K c u) D none z) (x1 : Option Nat) (x2 : Int32) (D : Dat) (h : f_X8_goOverWhile rec N nu K x1 x2 D = some z) : V X (Q0 X n (Ax nu K c u) none z) n (Ax nu K c u) D 0 [(0, .ref (bo X + pp 106)), (1, rv (bo X) x1), (2, .int x2)] [] := by
  unfold f_X8_goOverWhile at h
  refine v_aload_n (pc := 0) O dX8_goOverWhile_0 0 rfl ?_
  refine v_getR (pc := 1) (a := 106) O gf_X8_1 fl_X8_15 kq_106 dX8_goOverWhile_1 ?_
  obtain ⟨a1, e2, h⟩ := bind_some h
  rw [e2]
  obtain ⟨c3, h⟩ := if_none h
  obtain ⟨p4, e5, h⟩ := bind_some h
  refine v_callV (pc := 4) (a := a1) (As := []) (rest := []) (r := (some (.int p4.1))) (D' := p4.2) O (bb0 hz) (c_X0_size hm c3 e5) mw_X0_size im_X0_size se_X0_size ml_X8_74 (kt_X0 c3) (by decide) rfl rfl rfl (by omega) (by omega) (Nat.le_of_ble_eq_true rfl) dX8_goOverWhile_4 rfl rfl ?_
  refine v_istore_n (pc := 7) (lv' := [(3, .int p4.1), (0, .ref (bo X + pp 106)), (1, rv (bo X) x1), (2, .int x2)]) O dX8_goOverWhile_7 rfl (by rw [hn]; decide) rfl ?_
  refine v_aload_n (pc := 8) O dX8_goOverWhile_8 1 rfl ?_
  refine v_aload_nr (pc := 9) O dX8_goOverWhile_9 2 rfl ?_
  obtain ⟨p6, e7, h⟩ := bind_some h
  refine v_callV (pc := 10) (a := 106) (As := [rv (bo X) x1]) (rest := []) (r := none) (D' := p6) O (bb0 hz) (c_X8_emitExpressions hm e7) mw_X8_emitExpressions im_X8_emitExpressions se_X8_emitExpressions ml_X8_68 kq_106 (by decide) rfl rfl rfl (by omega) (by omega) (Nat.le_of_ble_eq_true rfl) dX8_goOverWhile_10 rfl rfl ?_
  refine v_aload_n (pc := 13) O dX8_goOverWhile_13 1 rfl ?_
  refine v_getR (pc := 14) (a := 106) O gf_X8_1 fl_X8_15 kq_106 dX8_goOverWhile_14 ?_
  obtain ⟨a8, e9, h⟩ := bind_some h
  rw [e9]
  obtain ⟨c10, h⟩ := if_none h
  obtain ⟨p11, e12, h⟩ := bind_some h
  refine v_callV (pc := 17) (a := a8) (As := []) (rest := []) (r := (some (.int p11.1))) (D' := p11.2) O (bb0 hz) (c_X0_size hm c10 e12) mw_X0_size im_X0_size se_X0_size ml_X8_74 (kt_X0 c10) (by decide) rfl rfl rfl (by omega) (by omega) (Nat.le_of_ble_eq_true rfl) dX8_goOverWhile_17 rfl rfl ?_
  refine v_istore (pc := 20) (lv' := [(4, .int p11.1), (3, .int p4.1), (0, .ref (bo X + pp 106)), (1, rv (bo X) x1), (2, .int x2)]) O dX8_goOverWhile_20 (by rw [hn]; decide) rfl ?_
  refine v_aload_n (pc := 22) O dX8_goOverWhile_22 2 rfl ?_
  refine v_bipush (pc := 23) O dX8_goOverWhile_23 bp_11 ?_
  refine v_iconst (pc := 25) O dX8_goOverWhile_25 ic_0 ?_
  obtain ⟨p13, e14, h⟩ := bind_some h
  refine v_callV (pc := 26) (a := 106) (As := [.int 11, .int 0]) (rest := []) (r := none) (D' := p13) O (bb0 hz) (c_X8_emit hm e14) mw_X8_emit im_X8_emit se_X8_emit ml_X8_38 kq_106 (by decide) rfl rfl rfl (by omega) (by omega) (Nat.le_of_ble_eq_true rfl) dX8_goOverWhile_26 rfl rfl ?_
  refine v_aload_n (pc := 29) O dX8_goOverWhile_29 2 rfl ?_
  refine v_aload_nr (pc := 30) O dX8_goOverWhile_30 3 rfl ?_
  obtain ⟨a15, e16, h⟩ := bind_some h
  subst e16
  obtain ⟨c17, h⟩ := if_none h
  refine v_getR (pc := 31) (a := a15) O gf_X7_6 fl_X8_78 c17 dX8_goOverWhile_31 ?_
  refine v_iload_n (pc := 34) O dX8_goOverWhile_34 4 rfl ?_
  refine v_iconst (pc := 35) O dX8_goOverWhile_35 ic_1 ?_
  refine v_iadd (pc := 36) O dX8_goOverWhile_36 ?_
  obtain ⟨p18, e19, h⟩ := bind_some h
  refine v_callV (pc := 37) (a := 106) (As := [rv (bo X) (dR p13 a15 6), .int (x2 + (1 : Int32))]) (rest := []) (r := none) (D' := p18) O (bb0 hz) (hR e19) mw_X8_goThrough im_X8_goThrough se_X8_goThrough ml_X8_34 kq_106 (by decide) rfl rfl rfl (by omega) (by omega) (Nat.le_of_ble_eq_true rfl) dX8_goOverWhile_37 rfl rfl ?_
  refine v_aload_n (pc := 40) O dX8_goOverWhile_40 2 rfl ?_
  refine v_bipush (pc := 41) O dX8_goOverWhile_41 bp_12 ?_
  refine v_iload_n (pc := 43) O dX8_goOverWhile_43 1 rfl ?_
  obtain ⟨p20, e21, h⟩ := bind_some h
  refine v_callV (pc := 44) (a := 106) (As := [.int 12, .int p4.1]) (rest := []) (r := none) (D' := p20) O (bb0 hz) (c_X8_emit hm e21) mw_X8_emit im_X8_emit se_X8_emit ml_X8_38 kq_106 (by decide) rfl rfl rfl (by omega) (by omega) (Nat.le_of_ble_eq_true rfl) dX8_goOverWhile_44 rfl rfl ?_
  refine v_aload_n (pc := 47) O dX8_goOverWhile_47 2 rfl ?_
  refine v_getR (pc := 48) (a := 106) O gf_X8_1 fl_X8_15 kq_106 dX8_goOverWhile_48 ?_
  refine v_iload (pc := 51) O dX8_goOverWhile_51 0 rfl ?_
  refine v_aload_n (pc := 53) O dX8_goOverWhile_53 2 rfl ?_
  refine v_getR (pc := 54) (a := 106) O gf_X8_1 fl_X8_15 kq_106 dX8_goOverWhile_54 ?_
  obtain ⟨a22, e23, h⟩ := bind_some h
  rw [e23]
  obtain ⟨c24, h⟩ := if_none h
  obtain ⟨p25, e26, h⟩ := bind_some h
  refine v_callV (pc := 57) (a := a22) (As := []) (rest := [.int p11.1, .ref (bo X + pp a22)]) (r := (some (.int p25.1))) (D' := p25.2) O (bb0 hz) (c_X0_size hm c24 e26) mw_X0_size im_X0_size se_X0_size ml_X8_74 (kt_X0 c24) (by decide) rfl rfl rfl (by omega) (by omega) (Nat.le_of_ble_eq_true rfl) dX8_goOverWhile_57 rfl rfl ?_
  obtain ⟨p27, e28, h⟩ := bind_some h
  refine v_callV (pc := 60) (a := a22) (As := [.int p11.1, .int p25.1]) (rest := []) (r := none) (D' := p27) O (bb0 hz) (c_X0_aim hm c24 e28) mw_X0_aim im_X0_aim se_X0_aim ml_X8_84 (kt_X0 c24) (by decide) rfl rfl rfl (by omega) (by omega) (Nat.le_of_ble_eq_true rfl) dX8_goOverWhile_60 rfl rfl ?_
  obtain rfl := Option.some.inj h
  exact v_ret (pc := 63) O hz dX8_goOverWhile_63
theorem c_X8_goOverWhile {l : Launch} {w : Wx} {n nu c u : Nat} {K : Nat → Nat} {rec : Option Nat → Int32 → Dat → Option (Dat)} {N : Nat} {fr lc : Nat} (hm : wlm w = true) (hR : ∀ {n : Nat} {x1 : Option Nat} {x2 : Int32} {D : Dat} {z : Dat}, rec x1 x2 D = some z → C0 l w yX8_goThrough cX8_goThrough 4 none fr lc [.ref (wb w + pp 106), rv (wb w) x1, .int x2] n (Ax nu K c u) D none z) {x1 : Option Nat} {x2 : Int32} {D : Dat} {z : Dat} (h : f_X8_goOverWhile rec N nu K x1 x2 D = some z) : C0 l w yX8_goOverWhile cX8_goOverWhile 5 none (fr + 3) (lc + 66) [.ref (wb w + pp 106), rv (wb w) x1, .int x2] n (Ax nu K c u) D none z :=
  C0.of (by decide) (by simp [lg_sl, rv_cat, cat_i, cat_l, cat_r, cat_n, fmt_cat]) (fun X e1 e2 e3 hz O => by
  subst e1
  subst e2
  have q : lv_args 0 [.ref (bo X + pp 106), rv (bo X) x1, .int x2] = [(0, .ref (bo X + pp 106)), (1, rv (bo X) x1), (2, .int x2)] := by simp [lv_args, rv_cat, cat_i, cat_l, cat_r, cat_n, fmt_cat]
  show V X _ n _ D 0 (lv_args 0 [.ref (bo X + pp 106), rv (bo X) x1, .int x2]) []
  rw [q]
  exact w_X8_goOverWhile O hm e3 hz hR x1 x2 D h)
def f_X8_goThrough_s_b104 (rec : Option Nat → Int32 → Dat → Option (Dat)) (N : Nat) (nu : Nat) (K : Nat → Nat) (D : Dat) : Option (Dat) :=
  some D
set_option maxHeartbeats 4000000 in
theorem w_X8_goThrough_s_b104 {X : Cx} {n nu c u : Nat} {K : Nat → Nat} {rec : Option Nat → Int32 → Dat → Option (Dat)} {N : Nat} {fr lc : Nat} {z : Dat} (O : Ok X cX8_goThrough RX8 none (fr + 4) (lc + 90)) (hm : wlm (xw X) = true) (hn : xn X = 4) (hz : Z0 X (Ax nu K c u)) (hR : ∀ {n : Nat} {x1 : Option Nat} {x2 : Int32} {D : Dat} {z : Dat}, rec x1 x2 D = some z → C0 (xl X) (xw X) yX8_goThrough cX8_goThrough 4 none fr lc [.ref (wb (xw X) + pp 106), rv (wb (xw X)) x1, .int x2] n (Ax nu K c u) D none z) (D : Dat) (h : f_X8_goThrough_s_b104 rec N nu K D = some z) : V X (Q0 X n (Ax nu K c u) none z) n (Ax nu K c u) D 104 [] [] := by
  unfold f_X8_goThrough_s_b104 at h
  obtain rfl := Option.some.inj h
  exact v_ret (pc := 104) O hz dX8_goThrough_104
def f_X8_goThrough_s_b96 (rec : Option Nat → Int32 → Dat → Option (Dat)) (N : Nat) (nu : Nat) (K : Nat → Nat) (rec_9 : Int32 → Option Nat → Dat → Option (Dat)) (x2 : Int32) (x3 : Option Nat) (D : Dat) : Option (Dat) :=
  (x3).bind (fun a1 => if kd K a1 = 7 then (rec_9 x2 (dR D a1 9) D) else none)
set_option maxHeartbeats 4000000 in
theorem w_X8_goThrough_s_b96 {X : Cx} {n nu c u : Nat} {K : Nat → Nat} {rec : Option Nat → Int32 → Dat → Option (Dat)} {N : Nat} {fr lc : Nat} {rec_9 : Int32 → Option Nat → Dat → Option (Dat)} {z : Dat} (O : Ok X cX8_goThrough RX8 none (fr + 4) (lc + 90)) (hm : wlm (xw X) = true) (hn : xn X = 4) (hz : Z0 X (Ax nu K c u)) (hR : ∀ {n : Nat} {x1 : Option Nat} {x2 : Int32} {D : Dat} {z : Dat}, rec x1 x2 D = some z → C0 (xl X) (xw X) yX8_goThrough cX8_goThrough 4 none fr lc [.ref (wb (xw X) + pp 106), rv (wb (xw X)) x1, .int x2] n (Ax nu K c u) D none z) (hrec_9 : ∀ (x2 : Int32) (x3 : Option Nat) (D : Dat), rec_9 x2 x3 D = some z → V X (Q0 X n (Ax nu K c u) none z) n (Ax nu K c u) D 9 [(0, .ref (bo X + pp 106)), (2, .int x2), (3, rv (bo X) x3)] []) (x2 : Int32) (x3 : Option Nat) (D : Dat) (h : f_X8_goThrough_s_b96 rec N nu K rec_9 x2 x3 D = some z) : V X (Q0 X n (Ax nu K c u) none z) n (Ax nu K c u) D 96 [(0, .ref (bo X + pp 106)), (2, .int x2), (3, rv (bo X) x3)] [] := by
  unfold f_X8_goThrough_s_b96 at h
  refine v_aload_nr (pc := 96) O dX8_goThrough_96 2 rfl ?_
  obtain ⟨a1, e2, h⟩ := bind_some h
  subst e2
  obtain ⟨c3, h⟩ := if_none h
  refine v_getR (pc := 97) (a := a1) O gf_X7_9 fl_X8_65 c3 dX8_goThrough_97 ?_
  refine v_astore_nr (pc := 100) (lv' := [(3, rv (bo X) (dR D a1 9)), (0, .ref (bo X + pp 106)), (2, .int x2)]) O dX8_goThrough_100 rfl (by rw [hn]; decide) rfl ?_
  refine v_goto (pc := 101) 9 O dX8_goThrough_101 (by decide) ?_
  refine v_sub [1, 2, 0] rfl ?_
  exact hrec_9 x2 (dR D a1 9) D h
def f_X8_goThrough_s_b9 (rec : Option Nat → Int32 → Dat → Option (Dat)) (N : Nat) (nu : Nat) (K : Nat → Nat) : Nat → Int32 → Option Nat → Dat → Option (Dat)
  | 0, _, _, _ => none
  | g + 1, x2, x3, D => oel x3 (f_X8_goThrough_s_b104 rec N nu K D) (fun a4 => if (dI D 106 2) = 0 then (if kd K a4 = 7 then (if (dI D a4 0) = (16 : Int32) then ((f_X8_goOverIf rec N nu K (some a4) x2 D).bind (fun p9 => f_X8_goThrough_s_b96 rec N nu K (f_X8_goThrough_s_b9 rec N nu K g) x2 (some a4) p9)) else (if (dI D a4 0) = (17 : Int32) then ((f_X8_goOverWhile rec N nu K (some a4) x2 D).bind (fun p12 => f_X8_goThrough_s_b96 rec N nu K (f_X8_goThrough_s_b9 rec N nu K g) x2 (some a4) p12)) else (if (dI D a4 0) = (18 : Int32) then (((dR D 106 0)).bind (fun a15 => if a15 = 191 ∨ a15 = 196 then ((f_X4_proc a15 (dI D a4 2) D).bind (fun p18 => (rec p18.1 (x2 + (1 : Int32)) p18.2).bind (fun p20 => f_X8_goThrough_s_b96 rec N nu K (f_X8_goThrough_s_b9 rec N nu K g) x2 (some a4) p20))) else none)) else ((f_X8_goOverPlain N nu K (some a4) D).bind (fun p22 => f_X8_goThrough_s_b96 rec N nu K (f_X8_goThrough_s_b9 rec N nu K g) x2 (some a4) p22))))) else none) else (f_X8_goThrough_s_b104 rec N nu K D))
set_option maxHeartbeats 4000000 in
theorem w_X8_goThrough_s_b9 {X : Cx} {n nu c u : Nat} {K : Nat → Nat} {rec : Option Nat → Int32 → Dat → Option (Dat)} {N : Nat} {fr lc : Nat} {z : Dat} (O : Ok X cX8_goThrough RX8 none (fr + 4) (lc + 90)) (hm : wlm (xw X) = true) (hn : xn X = 4) (hz : Z0 X (Ax nu K c u)) (hR : ∀ {n : Nat} {x1 : Option Nat} {x2 : Int32} {D : Dat} {z : Dat}, rec x1 x2 D = some z → C0 (xl X) (xw X) yX8_goThrough cX8_goThrough 4 none fr lc [.ref (wb (xw X) + pp 106), rv (wb (xw X)) x1, .int x2] n (Ax nu K c u) D none z) : ∀ (g : Nat) (x2 : Int32) (x3 : Option Nat) (D : Dat), f_X8_goThrough_s_b9 rec N nu K g x2 x3 D = some z → V X (Q0 X n (Ax nu K c u) none z) n (Ax nu K c u) D 9 [(0, .ref (bo X + pp 106)), (2, .int x2), (3, rv (bo X) x3)] [] := by
  intro g
  induction g with
  | zero => intro x2 x3 D h; exact absurd h (by simp [f_X8_goThrough_s_b9])
  | succ g ih =>
    intro x2 x3 D h
    rw [f_X8_goThrough_s_b9] at h
    refine v_aload_nr (pc := 9) O dX8_goThrough_9 2 rfl ?_
    refine v_ifnull (pc := 10) 104 O dX8_goThrough_10 (by decide) (fun e5 => ?_) (fun a4 e5 => ?_)
    · subst e5
      have h := onone h
      refine v_sub [] rfl ?_
      exact w_X8_goThrough_s_b104 O hm hn hz hR D h
    · subst e5
      have h := osome h
      refine v_aload_n (pc := 13) O dX8_goThrough_13 0 rfl ?_
      refine v_getI (pc := 14) (a := 106) O gf_X8_2 fl_X8_24 kq_106 dX8_goThrough_14 ?_
      refine v_ifne (pc := 17) 104 O dX8_goThrough_17 (by decide) (fun c6 => ?_) (fun c6 => ?_)
      · have h := (if_neg c6).symm.trans h
        refine v_sub [] rfl ?_
        exact w_X8_goThrough_s_b104 O hm hn hz hR D h
      · have h := (if_pos c6).symm.trans h
        refine v_aload_n (pc := 20) O dX8_goThrough_20 2 rfl ?_
        obtain ⟨c7, h⟩ := if_none h
        refine v_getI (pc := 21) (a := a4) O gf_X7_0 fl_X8_42 c7 dX8_goThrough_21 ?_
        by_cases c8 : (dI D a4 0) = (16 : Int32)
        · have h := (if_pos c8).symm.trans h
          refine v_tableIn (pc := 24) 52 O dX8_goThrough_24 (by rw [c8]; decide) (by rw [c8]; decide) (by rw [c8]; rfl) (by decide) ?_
          refine v_aload_n (pc := 52) O dX8_goThrough_52 0 rfl ?_
          refine v_aload_n (pc := 53) O dX8_goThrough_53 2 rfl ?_
          refine v_iload_n (pc := 54) O dX8_goThrough_54 1 rfl ?_
          obtain ⟨p9, e10, h⟩ := bind_some h
          refine v_callV (pc := 55) (a := 106) (As := [.ref (bo X + pp a4), .int x2]) (rest := []) (r := none) (D' := p9) O (bb0 hz) (c_X8_goOverIf hm hR e10) mw_X8_goOverIf im_X8_goOverIf se_X8_goOverIf ml_X8_48 kq_106 (by decide) rfl rfl rfl (by omega) (by omega) (Nat.le_of_ble_eq_true rfl) dX8_goThrough_55 rfl rfl ?_
          refine v_goto (pc := 58) 96 O dX8_goThrough_58 (by decide) ?_
          refine v_sub [0, 1, 2] rfl ?_
          exact w_X8_goThrough_s_b96 O hm hn hz hR ih x2 (some a4) p9 h
        · have h := (if_neg c8).symm.trans h
          by_cases c11 : (dI D a4 0) = (17 : Int32)
          · have h := (if_pos c11).symm.trans h
            refine v_tableIn (pc := 24) 61 O dX8_goThrough_24 (by rw [c11]; decide) (by rw [c11]; decide) (by rw [c11]; rfl) (by decide) ?_
            refine v_aload_n (pc := 61) O dX8_goThrough_61 0 rfl ?_
            refine v_aload_n (pc := 62) O dX8_goThrough_62 2 rfl ?_
            refine v_iload_n (pc := 63) O dX8_goThrough_63 1 rfl ?_
            obtain ⟨p12, e13, h⟩ := bind_some h
            refine v_callV (pc := 64) (a := 106) (As := [.ref (bo X + pp a4), .int x2]) (rest := []) (r := none) (D' := p12) O (bb0 hz) (c_X8_goOverWhile hm hR e13) mw_X8_goOverWhile im_X8_goOverWhile se_X8_goOverWhile ml_X8_51 kq_106 (by decide) rfl rfl rfl (by omega) (by omega) (Nat.le_of_ble_eq_true rfl) dX8_goThrough_64 rfl rfl ?_
            refine v_goto (pc := 67) 96 O dX8_goThrough_67 (by decide) ?_
            refine v_sub [0, 1, 2] rfl ?_
            exact w_X8_goThrough_s_b96 O hm hn hz hR ih x2 (some a4) p12 h
          · have h := (if_neg c11).symm.trans h
            by_cases c14 : (dI D a4 0) = (18 : Int32)
            · have h := (if_pos c14).symm.trans h
              refine v_tableIn (pc := 24) 70 O dX8_goThrough_24 (by rw [c14]; decide) (by rw [c14]; decide) (by rw [c14]; rfl) (by decide) ?_
              refine v_aload_n (pc := 70) O dX8_goThrough_70 0 rfl ?_
              refine v_aload_n (pc := 71) O dX8_goThrough_71 0 rfl ?_
              refine v_getR (pc := 72) (a := 106) O gf_X8_0 fl_X8_9 kq_106 dX8_goThrough_72 ?_
              refine v_aload_n (pc := 75) O dX8_goThrough_75 2 rfl ?_
              refine v_getI (pc := 76) (a := a4) O gf_X7_2 fl_X8_54 c7 dX8_goThrough_76 ?_
              obtain ⟨a15, e16, h⟩ := bind_some h
              rw [e16]
              obtain ⟨c17, h⟩ := if_none h
              obtain ⟨p18, e19, h⟩ := bind_some h
              refine v_callV (pc := 79) (a := a15) (As := [.int (dI D a4 2)]) (rest := [.ref (bo X + pp 106)]) (r := (some (rv (bo X) p18.1))) (D' := p18.2) O (bb0 hz) (c_X4_proc hm c17 e19) mw_X4_proc im_X4_proc se_X4_proc ml_X8_57 (kt_X4 c17) (by decide) rfl rfl rfl (by omega) (by omega) (Nat.le_of_ble_eq_true rfl) dX8_goThrough_79 rfl rfl ?_
              refine v_iload_n (pc := 82) O dX8_goThrough_82 1 rfl ?_
              refine v_iconst (pc := 83) O dX8_goThrough_83 ic_1 ?_
              refine v_iadd (pc := 84) O dX8_goThrough_84 ?_
              obtain ⟨p20, e21, h⟩ := bind_some h
              refine v_callV (pc := 85) (a := 106) (As := [rv (bo X) p18.1, .int (x2 + (1 : Int32))]) (rest := []) (r := none) (D' := p20) O (bb0 hz) (hR e21) mw_X8_goThrough im_X8_goThrough se_X8_goThrough ml_X8_34 kq_106 (by decide) rfl rfl rfl (by omega) (by omega) (Nat.le_of_ble_eq_true rfl) dX8_goThrough_85 rfl rfl ?_
              refine v_goto (pc := 88) 96 O dX8_goThrough_88 (by decide) ?_
              refine v_sub [0, 1, 2] rfl ?_
              exact w_X8_goThrough_s_b96 O hm hn hz hR ih x2 (some a4) p20 h
            · have h := (if_neg c14).symm.trans h
              refine v_tableOut (pc := 24) 91 O dX8_goThrough_24 (by have c8i := ne_i (16) rfl c8; have c11i := ne_i (17) rfl c11; have c14i := ne_i (18) rfl c14; omega) (by decide) ?_
              refine v_aload_n (pc := 91) O dX8_goThrough_91 0 rfl ?_
              refine v_aload_n (pc := 92) O dX8_goThrough_92 2 rfl ?_
              obtain ⟨p22, e23, h⟩ := bind_some h
              refine v_callV (pc := 93) (a := 106) (As := [.ref (bo X + pp a4)]) (rest := []) (r := none) (D' := p22) O (bb0 hz) (c_X8_goOverPlain hm e23) mw_X8_goOverPlain im_X8_goOverPlain se_X8_goOverPlain ml_X8_61 kq_106 (by decide) rfl rfl rfl (by omega) (by omega) (Nat.le_of_ble_eq_true rfl) dX8_goThrough_93 rfl rfl ?_
              refine v_sub [0, 1, 2] rfl ?_
              exact w_X8_goThrough_s_b96 O hm hn hz hR ih x2 (some a4) p22 h
def f_X8_goThrough_s (rec : Option Nat → Int32 → Dat → Option (Dat)) (N : Nat) (nu : Nat) (K : Nat → Nat) (x1 : Option Nat) (x2 : Int32) (D : Dat) : Option (Dat) :=
  if x2 < 48 then (f_X8_goThrough_s_b9 rec N nu K N x2 x1 D) else (some D)
set_option maxHeartbeats 4000000 in
theorem w_X8_goThrough_s {X : Cx} {n nu c u : Nat} {K : Nat → Nat} {rec : Option Nat → Int32 → Dat → Option (Dat)} {N : Nat} {fr lc : Nat} {z : Dat} (O : Ok X cX8_goThrough RX8 none (fr + 4) (lc + 90)) (hm : wlm (xw X) = true) (hn : xn X = 4) (hz : Z0 X (Ax nu K c u)) (hR : ∀ {n : Nat} {x1 : Option Nat} {x2 : Int32} {D : Dat} {z : Dat}, rec x1 x2 D = some z → C0 (xl X) (xw X) yX8_goThrough cX8_goThrough 4 none fr lc [.ref (wb (xw X) + pp 106), rv (wb (xw X)) x1, .int x2] n (Ax nu K c u) D none z) (x1 : Option Nat) (x2 : Int32) (D : Dat) (h : f_X8_goThrough_s rec N nu K x1 x2 D = some z) : V X (Q0 X n (Ax nu K c u) none z) n (Ax nu K c u) D 0 [(0, .ref (bo X + pp 106)), (1, rv (bo X) x1), (2, .int x2)] [] := by
  unfold f_X8_goThrough_s at h
  refine v_iload_n (pc := 0) O dX8_goThrough_0 2 rfl ?_
  refine v_bipush (pc := 1) O dX8_goThrough_1 bp_48 ?_
  refine v_icmplt (pc := 3) 7 O dX8_goThrough_3 (by decide) (fun c24 => ?_) (fun c24 => ?_)
  · have h := (if_pos c24).symm.trans h
    refine v_aload_nr (pc := 7) O dX8_goThrough_7 1 rfl ?_
    refine v_astore_nr (pc := 8) (lv' := [(3, rv (bo X) x1), (0, .ref (bo X + pp 106)), (1, rv (bo X) x1), (2, .int x2)]) O dX8_goThrough_8 rfl (by rw [hn]; decide) rfl ?_
    refine v_sub [1, 3, 0] rfl ?_
    exact w_X8_goThrough_s_b9 O hm hn hz hR N x2 x1 D h
  · have h := (if_neg c24).symm.trans h
    obtain rfl := Option.some.inj h
    exact v_ret (pc := 6) O hz dX8_goThrough_6
theorem c_X8_goThrough_s {l : Launch} {w : Wx} {n nu c u : Nat} {K : Nat → Nat} {rec : Option Nat → Int32 → Dat → Option (Dat)} {N : Nat} {fr lc : Nat} (hm : wlm w = true) (hR : ∀ {n : Nat} {x1 : Option Nat} {x2 : Int32} {D : Dat} {z : Dat}, rec x1 x2 D = some z → C0 l w yX8_goThrough cX8_goThrough 4 none fr lc [.ref (wb w + pp 106), rv (wb w) x1, .int x2] n (Ax nu K c u) D none z) {x1 : Option Nat} {x2 : Int32} {D : Dat} {z : Dat} (h : f_X8_goThrough_s rec N nu K x1 x2 D = some z) : C0 l w yX8_goThrough cX8_goThrough 4 none (fr + 4) (lc + 90) [.ref (wb w + pp 106), rv (wb w) x1, .int x2] n (Ax nu K c u) D none z :=
  C0.of (by decide) (by simp [lg_sl, rv_cat, cat_i, cat_l, cat_r, cat_n, fmt_cat]) (fun X e1 e2 e3 hz O => by
  subst e1
  subst e2
  have q : lv_args 0 [.ref (bo X + pp 106), rv (bo X) x1, .int x2] = [(0, .ref (bo X + pp 106)), (1, rv (bo X) x1), (2, .int x2)] := by simp [lv_args, rv_cat, cat_i, cat_l, cat_r, cat_n, fmt_cat]
  show V X _ n _ D 0 (lv_args 0 [.ref (bo X + pp 106), rv (bo X) x1, .int x2]) []
  rw [q]
  exact w_X8_goThrough_s O hm e3 hz hR x1 x2 D h)
def f_X8_goThrough (N : Nat) (nu : Nat) (K : Nat → Nat) : Nat → Option Nat → Int32 → Dat → Option (Dat)
  | 0, _, _, _ => none
  | d + 1, x1, x2, D => f_X8_goThrough_s (f_X8_goThrough N nu K d) N nu K x1 x2 D
theorem c_X8_goThrough {l : Launch} {w : Wx} {n nu c u : Nat} {K : Nat → Nat} {N : Nat} (hm : wlm w = true) : ∀ (d : Nat) {x1 : Option Nat} {x2 : Int32} {D : Dat} {z : Dat} (h : f_X8_goThrough N nu K d x1 x2 D = some z), C0 l w yX8_goThrough cX8_goThrough 4 none (4 * d) (90 * d) [.ref (wb w + pp 106), rv (wb w) x1, .int x2] n (Ax nu K c u) D none z := by
  intro d
  induction d generalizing n with
  | zero => intro x1 x2 D z h; exact absurd h (by simp [f_X8_goThrough])
  | succ d ih =>
    intro x1 x2 D z h
    rw [f_X8_goThrough] at h
    exact c_X8_goThrough_s (fr := 4 * d) (lc := 90 * d) hm (fun h => ih h) h
def f_X3_step_b50 (s0 : Int32) (D : Dat) : Option (Int32 × Dat) :=
  some (s0, D)
set_option maxHeartbeats 4000000 in
theorem w_X3_step_b50 {X : Cx} {n nu c u : Nat} {K : Nat → Nat} {z : Int32 × Dat} (O : Ok X cX3_step RX3 (some .int) 3 67) (hm : wlm (xw X) = true) (hn : xn X = 4) (hz : Z0 X (Ax nu K c u)) (s0 : Int32) (D : Dat) (h : f_X3_step_b50 s0 D = some z) : V X (Q0 X n (Ax nu K c u) (some (.int z.1)) z.2) n (Ax nu K c u) D 50 [] [.int s0] := by
  unfold f_X3_step_b50 at h
  obtain rfl := Option.some.inj h
  exact v_iret (pc := 50) O hz dX3_step_50
def f_X3_step_b59 (x1 : Int32) (x2 : Int32) (x3 : Int32) (D : Dat) : Option (Int32 × Dat) :=
  (f_X3_perform x1 x2 D).bind (fun p1 => some ((x3 + (1 : Int32)), p1))
set_option maxHeartbeats 4000000 in
theorem w_X3_step_b59 {X : Cx} {n nu c u : Nat} {K : Nat → Nat} {z : Int32 × Dat} (O : Ok X cX3_step RX3 (some .int) 3 67) (hm : wlm (xw X) = true) (hn : xn X = 4) (hz : Z0 X (Ax nu K c u)) (x1 : Int32) (x2 : Int32) (x3 : Int32) (D : Dat) (h : f_X3_step_b59 x1 x2 x3 D = some z) : V X (Q0 X n (Ax nu K c u) (some (.int z.1)) z.2) n (Ax nu K c u) D 59 [(0, .ref (bo X + pp 181)), (1, .int x1), (2, .int x2), (3, .int x3)] [] := by
  unfold f_X3_step_b59 at h
  refine v_aload_n (pc := 59) O dX3_step_59 0 rfl ?_
  refine v_iload_n (pc := 60) O dX3_step_60 1 rfl ?_
  refine v_iload_n (pc := 61) O dX3_step_61 2 rfl ?_
  obtain ⟨p1, e2, h⟩ := bind_some h
  refine v_callV (pc := 62) (a := 181) (As := [.int x1, .int x2]) (rest := []) (r := none) (D' := p1) O (bb0 hz) (c_X3_perform hm e2) mw_X3_perform im_X3_perform se_X3_perform ml_X3_85 kq_181 (by decide) rfl rfl rfl (by decide) (by decide) (Nat.le_of_ble_eq_true rfl) dX3_step_62 rfl rfl ?_
  refine v_iload_n (pc := 65) O dX3_step_65 3 rfl ?_
  refine v_iconst (pc := 66) O dX3_step_66 ic_1 ?_
  refine v_iadd (pc := 67) O dX3_step_67 ?_
  obtain rfl := Option.some.inj h
  exact v_iret (pc := 68) O hz dX3_step_68
def f_X3_step (x1 : Int32) (x2 : Int32) (x3 : Int32) (D : Dat) : Option (Int32 × Dat) :=
  (if x1 = (11 : Int32) then ((f_X3_pop D).bind (fun p4 => if p4.1 = 0 then (f_X3_step_b50 x2 p4.2) else (f_X3_step_b50 (x3 + (1 : Int32)) p4.2))) else (if x1 = (12 : Int32) then (some (x2, D)) else (if x1 = (15 : Int32) then ((f_X3_finish D).bind (fun p9 => some (x3, p9))) else (f_X3_step_b59 x1 x2 x3 D))))
set_option maxHeartbeats 4000000 in
theorem w_X3_step {X : Cx} {n nu c u : Nat} {K : Nat → Nat} {z : Int32 × Dat} (O : Ok X cX3_step RX3 (some .int) 3 67) (hm : wlm (xw X) = true) (hn : xn X = 4) (hz : Z0 X (Ax nu K c u)) (x1 : Int32) (x2 : Int32) (x3 : Int32) (D : Dat) (h : f_X3_step x1 x2 x3 D = some z) : V X (Q0 X n (Ax nu K c u) (some (.int z.1)) z.2) n (Ax nu K c u) D 0 [(0, .ref (bo X + pp 181)), (1, .int x1), (2, .int x2), (3, .int x3)] [] := by
  unfold f_X3_step at h
  refine v_iload_n (pc := 0) O dX3_step_0 1 rfl ?_
  by_cases c3 : x1 = (11 : Int32)
  · have h := (if_pos c3).symm.trans h
    refine v_tableIn (pc := 1) 36 O dX3_step_1 (by rw [c3]; decide) (by rw [c3]; decide) (by rw [c3]; rfl) (by decide) ?_
    refine v_aload_n (pc := 36) O dX3_step_36 0 rfl ?_
    obtain ⟨p4, e5, h⟩ := bind_some h
    refine v_callV (pc := 37) (a := 181) (As := []) (rest := []) (r := (some (.int p4.1))) (D' := p4.2) O (bb0 hz) (c_X3_pop hm e5) mw_X3_pop im_X3_pop se_X3_pop ml_X3_78 kq_181 (by decide) rfl rfl rfl (by decide) (by decide) (Nat.le_of_ble_eq_true rfl) dX3_step_37 rfl rfl ?_
    refine v_ifne (pc := 40) 47 O dX3_step_40 (by decide) (fun c6 => ?_) (fun c6 => ?_)
    · have h := (if_neg c6).symm.trans h
      refine v_iload_n (pc := 47) O dX3_step_47 3 rfl ?_
      refine v_iconst (pc := 48) O dX3_step_48 ic_1 ?_
      refine v_iadd (pc := 49) O dX3_step_49 ?_
      refine v_sub [] rfl ?_
      exact w_X3_step_b50 O hm hn hz (x3 + (1 : Int32)) p4.2 h
    · have h := (if_pos c6).symm.trans h
      refine v_iload_n (pc := 43) O dX3_step_43 2 rfl ?_
      refine v_goto (pc := 44) 50 O dX3_step_44 (by decide) ?_
      refine v_sub [] rfl ?_
      exact w_X3_step_b50 O hm hn hz x2 p4.2 h
  · have h := (if_neg c3).symm.trans h
    by_cases c7 : x1 = (12 : Int32)
    · have h := (if_pos c7).symm.trans h
      refine v_tableIn (pc := 1) 51 O dX3_step_1 (by rw [c7]; decide) (by rw [c7]; decide) (by rw [c7]; rfl) (by decide) ?_
      refine v_iload_n (pc := 51) O dX3_step_51 2 rfl ?_
      obtain rfl := Option.some.inj h
      exact v_iret (pc := 52) O hz dX3_step_52
    · have h := (if_neg c7).symm.trans h
      by_cases c8 : x1 = (15 : Int32)
      · have h := (if_pos c8).symm.trans h
        refine v_tableIn (pc := 1) 53 O dX3_step_1 (by rw [c8]; decide) (by rw [c8]; decide) (by rw [c8]; rfl) (by decide) ?_
        refine v_aload_n (pc := 53) O dX3_step_53 0 rfl ?_
        obtain ⟨p9, e10, h⟩ := bind_some h
        refine v_callV (pc := 54) (a := 181) (As := []) (rest := []) (r := none) (D' := p9) O (bb0 hz) (c_X3_finish hm e10) mw_X3_finish im_X3_finish se_X3_finish ml_X3_82 kq_181 (by decide) rfl rfl rfl (by decide) (by decide) (Nat.le_of_ble_eq_true rfl) dX3_step_54 rfl rfl ?_
        refine v_iload_n (pc := 57) O dX3_step_57 3 rfl ?_
        obtain rfl := Option.some.inj h
        exact v_iret (pc := 58) O hz dX3_step_58
      · have h := (if_neg c8).symm.trans h
        refine v_table (pc := 1) 59 O dX3_step_1 (fun g1 g2 => by
            have c3i := ne_i (11) rfl c3
            have c7i := ne_i (12) rfl c7
            have c8i := ne_i (15) rfl c8
            rcases (show x1.toInt = 13 ∨ x1.toInt = 14 by omega) with e9 | e9 <;> (rw [e9]; exact ⟨_, rfl, by decide⟩)) (by decide) ?_
        refine v_sub [0, 1, 2, 3] rfl ?_
        exact w_X3_step_b59 O hm hn hz x1 x2 x3 D h
theorem c_X3_step {l : Launch} {w : Wx} {n nu c u : Nat} {K : Nat → Nat} (hm : wlm w = true) {x1 : Int32} {x2 : Int32} {x3 : Int32} {D : Dat} {z : Int32 × Dat} (h : f_X3_step x1 x2 x3 D = some z) : C0 l w yX3_step cX3_step 4 (some .int) 3 67 [.ref (wb w + pp 181), .int x1, .int x2, .int x3] n (Ax nu K c u) D (some (.int z.1)) z.2 :=
  C0.of (by decide) (Nat.le_of_ble_eq_true rfl) (fun X e1 e2 e3 hz O => by
  subst e1
  subst e2
  exact w_X3_step O hm e3 hz x1 x2 x3 D h)
def f_X6_find_b200 (N : Nat) (rec_114 : Option Nat → Int64 → Int32 → Dat → Option (Dat)) (x1 : Option Nat) (x2 : Int64) (x4 : Int32) (s0 : Int64) (s1 : Int32) (D : Dat) : Option (Dat) :=
  if s1 < 0 ∨ 64 ≤ (s1).toNatClampNeg then none else (rec_114 x1 x2 (x4 + 1) (sL D 112 (s1).toNatClampNeg s0))
set_option maxHeartbeats 4000000 in
theorem w_X6_find_b200 {X : Cx} {n nu c u : Nat} {K : Nat → Nat} {N : Nat} {rec_114 : Option Nat → Int64 → Int32 → Dat → Option (Dat)} {z : Dat} (O : Ok X cX6_find RX6 none 4 93) (hm : wlm (xw X) = true) (hn : xn X = 6) (hz : Z0 X (Ax nu K c u)) (hrec_114 : ∀ (x1 : Option Nat) (x2 : Int64) (x4 : Int32) (D : Dat), rec_114 x1 x2 x4 D = some z → V X (Q0 X n (Ax nu K c u) none z) n (Ax nu K c u) D 114 [(0, .ref (bo X + pp 108)), (1, rv (bo X) x1), (2, .long x2), (4, .int x4)] []) (x1 : Option Nat) (x2 : Int64) (x4 : Int32) (s0 : Int64) (s1 : Int32) (D : Dat) (h : f_X6_find_b200 N rec_114 x1 x2 x4 s0 s1 D = some z) : V X (Q0 X n (Ax nu K c u) none z) n (Ax nu K c u) D 200 [(0, .ref (bo X + pp 108)), (1, rv (bo X) x1), (2, .long x2), (4, .int x4)] [.long s0, .int s1, .ref (bo X + pp 112)] := by
  unfold f_X6_find_b200 at h
  obtain ⟨c1, h⟩ := or_none h
  refine v_last (pc := 200) (a := 112) O kq_112 (inq lq_112 c1) dX6_find_200 ?_
  refine v_iinc (pc := 201) (lv' := [(4, .int (x4 + 1)), (0, .ref (bo X + pp 108)), (1, rv (bo X) x1), (2, .long x2)]) O dX6_find_201 3 rfl (congrArg (fun q => x4 + q) ic_1) (by rw [hn]; decide) rfl ?_
  refine v_goto (pc := 204) 114 O dX6_find_204 (by decide) ?_
  refine v_sub [1, 2, 3, 0] rfl ?_
  exact hrec_114 x1 x2 (x4 + 1) (sL D 112 (s1).toNatClampNeg s0) h
def f_X6_find_b171 (N : Nat) (rec_114 : Option Nat → Int64 → Int32 → Dat → Option (Dat)) (x1 : Option Nat) (x2 : Int64) (x4 : Int32) (x5 : Int32) (s0 : Int32) (s1 : Int32) (D : Dat) : Option (Dat) :=
  if s1 < 0 ∨ 64 ≤ (s1).toNatClampNeg then none else (if x5 = 0 then (f_X6_find_b200 N rec_114 x1 x2 x4 (0 : Int64) x4 (sI D 111 (s1).toNatClampNeg s0)) else (if x4 < 0 ∨ 64 ≤ (x4).toNatClampNeg then none else ((f_X6_reachedFrom N x4 (dI (sI D 111 (s1).toNatClampNeg s0) 111 (x4).toNatClampNeg) (sI D 111 (s1).toNatClampNeg s0)).bind (fun p5 => f_X6_find_b200 N rec_114 x1 x2 x4 p5.1 x4 p5.2))))
set_option maxHeartbeats 4000000 in
theorem w_X6_find_b171 {X : Cx} {n nu c u : Nat} {K : Nat → Nat} {N : Nat} {rec_114 : Option Nat → Int64 → Int32 → Dat → Option (Dat)} {z : Dat} (O : Ok X cX6_find RX6 none 4 93) (hm : wlm (xw X) = true) (hn : xn X = 6) (hz : Z0 X (Ax nu K c u)) (hrec_114 : ∀ (x1 : Option Nat) (x2 : Int64) (x4 : Int32) (D : Dat), rec_114 x1 x2 x4 D = some z → V X (Q0 X n (Ax nu K c u) none z) n (Ax nu K c u) D 114 [(0, .ref (bo X + pp 108)), (1, rv (bo X) x1), (2, .long x2), (4, .int x4)] []) (x1 : Option Nat) (x2 : Int64) (x4 : Int32) (x5 : Int32) (s0 : Int32) (s1 : Int32) (D : Dat) (h : f_X6_find_b171 N rec_114 x1 x2 x4 x5 s0 s1 D = some z) : V X (Q0 X n (Ax nu K c u) none z) n (Ax nu K c u) D 171 [(0, .ref (bo X + pp 108)), (1, rv (bo X) x1), (2, .long x2), (4, .int x4), (5, .int x5)] [.int s0, .int s1, .ref (bo X + pp 111)] := by
  unfold f_X6_find_b171 at h
  obtain ⟨c2, h⟩ := or_none h
  refine v_iast (pc := 171) (a := 111) O kq_111 (inq lq_111 c2) dX6_find_171 ?_
  refine v_aload_n (pc := 172) O dX6_find_172 0 rfl ?_
  refine v_getK (pc := 173) (a := 108) O hm gf_X6_3 fl_X6_22 kq_108 lk_108_3 dX6_find_173 ?_
  refine v_iload (pc := 176) O dX6_find_176 3 rfl ?_
  refine v_iload (pc := 178) O dX6_find_178 4 rfl ?_
  refine v_ifeq (pc := 180) 199 O dX6_find_180 (by decide) (fun c3 => ?_) (fun c3 => ?_)
  · have h := (if_pos c3).symm.trans h
    refine v_lconst (pc := 199) (v := 0) O dX6_find_199 rfl ?_
    refine v_sub [0, 1, 2, 3] rfl ?_
    exact w_X6_find_b200 O hm hn hz hrec_114 x1 x2 x4 (0 : Int64) x4 (sI D 111 (s1).toNatClampNeg s0) h
  · have h := (if_neg c3).symm.trans h
    refine v_aload_n (pc := 183) O dX6_find_183 0 rfl ?_
    refine v_iload (pc := 184) O dX6_find_184 3 rfl ?_
    refine v_aload_n (pc := 186) O dX6_find_186 0 rfl ?_
    refine v_getK (pc := 187) (a := 108) O hm gf_X6_2 fl_X6_18 kq_108 lk_108_2 dX6_find_187 ?_
    refine v_iload (pc := 190) O dX6_find_190 3 rfl ?_
    obtain ⟨c4, h⟩ := or_none h
    refine v_iald (pc := 192) (a := 111) O kq_111 (inq lq_111 c4) dX6_find_192 ?_
    obtain ⟨p5, e6, h⟩ := bind_some h
    refine v_callV (pc := 193) (a := 108) (As := [.int x4, .int (dI (sI D 111 (s1).toNatClampNeg s0) 111 (x4).toNatClampNeg)]) (rest := [.int x4, .ref (bo X + pp 112)]) (r := (some (.long p5.1))) (D' := p5.2) O (bb0 hz) (c_X6_reachedFrom hm e6) mw_X6_reachedFrom im_X6_reachedFrom se_X6_reachedFrom ml_X6_69 kq_108 (by decide) rfl rfl rfl (by decide) (by decide) (Nat.le_of_ble_eq_true rfl) dX6_find_193 rfl rfl ?_
    refine v_goto (pc := 196) 200 O dX6_find_196 (by decide) ?_
    refine v_sub [0, 1, 2, 3] rfl ?_
    exact w_X6_find_b200 O hm hn hz hrec_114 x1 x2 x4 p5.1 x4 p5.2 h
def f_X6_find_b148 (N : Nat) (rec_114 : Option Nat → Int64 → Int32 → Dat → Option (Dat)) (x1 : Option Nat) (x2 : Int64) (x4 : Int32) (s0 : Int32) (D : Dat) : Option (Dat) :=
  if s0 = 0 then (f_X6_find_b171 N rec_114 x1 x2 x4 s0 (-1) x4 D) else ((f_X6_findNext N x4 D).bind (fun p8 => f_X6_find_b171 N rec_114 x1 x2 x4 s0 p8.1 x4 p8.2))
set_option maxHeartbeats 4000000 in
theorem w_X6_find_b148 {X : Cx} {n nu c u : Nat} {K : Nat → Nat} {N : Nat} {rec_114 : Option Nat → Int64 → Int32 → Dat → Option (Dat)} {z : Dat} (O : Ok X cX6_find RX6 none 4 93) (hm : wlm (xw X) = true) (hn : xn X = 6) (hz : Z0 X (Ax nu K c u)) (hrec_114 : ∀ (x1 : Option Nat) (x2 : Int64) (x4 : Int32) (D : Dat), rec_114 x1 x2 x4 D = some z → V X (Q0 X n (Ax nu K c u) none z) n (Ax nu K c u) D 114 [(0, .ref (bo X + pp 108)), (1, rv (bo X) x1), (2, .long x2), (4, .int x4)] []) (x1 : Option Nat) (x2 : Int64) (x4 : Int32) (s0 : Int32) (D : Dat) (h : f_X6_find_b148 N rec_114 x1 x2 x4 s0 D = some z) : V X (Q0 X n (Ax nu K c u) none z) n (Ax nu K c u) D 148 [(0, .ref (bo X + pp 108)), (1, rv (bo X) x1), (2, .long x2), (4, .int x4)] [.int s0] := by
  unfold f_X6_find_b148 at h
  refine v_istore (pc := 148) (lv' := [(5, .int s0), (0, .ref (bo X + pp 108)), (1, rv (bo X) x1), (2, .long x2), (4, .int x4)]) O dX6_find_148 (by rw [hn]; decide) rfl ?_
  refine v_aload_n (pc := 150) O dX6_find_150 1 rfl ?_
  refine v_getK (pc := 151) (a := 108) O hm gf_X6_2 fl_X6_18 kq_108 lk_108_2 dX6_find_151 ?_
  refine v_iload (pc := 154) O dX6_find_154 4 rfl ?_
  refine v_iload (pc := 156) O dX6_find_156 0 rfl ?_
  refine v_ifeq (pc := 158) 170 O dX6_find_158 (by decide) (fun c7 => ?_) (fun c7 => ?_)
  · have h := (if_pos c7).symm.trans h
    refine v_iconst (pc := 170) O dX6_find_170 ic_m1 ?_
    refine v_sub [1, 2, 3, 4, 0] rfl ?_
    exact w_X6_find_b171 O hm hn hz hrec_114 x1 x2 x4 s0 (-1) x4 D h
  · have h := (if_neg c7).symm.trans h
    refine v_aload_n (pc := 161) O dX6_find_161 1 rfl ?_
    refine v_iload (pc := 162) O dX6_find_162 4 rfl ?_
    obtain ⟨p8, e9, h⟩ := bind_some h
    refine v_callV (pc := 164) (a := 108) (As := [.int x4]) (rest := [.int x4, .ref (bo X + pp 111)]) (r := (some (.int p8.1))) (D' := p8.2) O (bb0 hz) (c_X6_findNext hm e9) mw_X6_findNext im_X6_findNext se_X6_findNext ml_X6_66 kq_108 (by decide) rfl rfl rfl (by decide) (by decide) (Nat.le_of_ble_eq_true rfl) dX6_find_164 rfl rfl ?_
    refine v_goto (pc := 167) 171 O dX6_find_167 (by decide) ?_
    refine v_sub [1, 2, 3, 4, 0] rfl ?_
    exact w_X6_find_b171 O hm hn hz hrec_114 x1 x2 x4 s0 p8.1 x4 p8.2 h
def f_X6_find_b147 (N : Nat) (rec_114 : Option Nat → Int64 → Int32 → Dat → Option (Dat)) (x1 : Option Nat) (x2 : Int64) (x4 : Int32) (D : Dat) : Option (Dat) :=
  f_X6_find_b148 N rec_114 x1 x2 x4 0 D
set_option maxHeartbeats 4000000 in
theorem w_X6_find_b147 {X : Cx} {n nu c u : Nat} {K : Nat → Nat} {N : Nat} {rec_114 : Option Nat → Int64 → Int32 → Dat → Option (Dat)} {z : Dat} (O : Ok X cX6_find RX6 none 4 93) (hm : wlm (xw X) = true) (hn : xn X = 6) (hz : Z0 X (Ax nu K c u)) (hrec_114 : ∀ (x1 : Option Nat) (x2 : Int64) (x4 : Int32) (D : Dat), rec_114 x1 x2 x4 D = some z → V X (Q0 X n (Ax nu K c u) none z) n (Ax nu K c u) D 114 [(0, .ref (bo X + pp 108)), (1, rv (bo X) x1), (2, .long x2), (4, .int x4)] []) (x1 : Option Nat) (x2 : Int64) (x4 : Int32) (D : Dat) (h : f_X6_find_b147 N rec_114 x1 x2 x4 D = some z) : V X (Q0 X n (Ax nu K c u) none z) n (Ax nu K c u) D 147 [(0, .ref (bo X + pp 108)), (1, rv (bo X) x1), (2, .long x2), (4, .int x4)] [] := by
  unfold f_X6_find_b147 at h
  refine v_iconst (pc := 147) O dX6_find_147 ic_0 ?_
  refine v_sub [0, 1, 2, 3] rfl ?_
  exact w_X6_find_b148 O hm hn hz hrec_114 x1 x2 x4 0 D h
def f_X6_find_b114 (N : Nat) : Nat → Option Nat → Int64 → Int32 → Dat → Option (Dat)
  | 0, _, _, _, _ => none
  | g + 1, x1, x2, x4, D => if (dI D 108 4) ≤ x4 then (some D) else ((x1).bind (fun a11 => if a11 = 201 ∨ a11 = 204 then ((f_X0_operation a11 x4 D).bind (fun p14 => if p14.1 = 11 then ((f_X11_holds x2 x4 p14.2).bind (fun p17 => if p17.1 = 0 then (f_X6_find_b147 N (f_X6_find_b114 N g) (some a11) x2 x4 p17.2) else (f_X6_find_b148 N (f_X6_find_b114 N g) (some a11) x2 x4 1 p17.2))) else (f_X6_find_b147 N (f_X6_find_b114 N g) (some a11) x2 x4 p14.2))) else none))
set_option maxHeartbeats 4000000 in
theorem w_X6_find_b114 {X : Cx} {n nu c u : Nat} {K : Nat → Nat} {N : Nat} {z : Dat} (O : Ok X cX6_find RX6 none 4 93) (hm : wlm (xw X) = true) (hn : xn X = 6) (hz : Z0 X (Ax nu K c u)) : ∀ (g : Nat) (x1 : Option Nat) (x2 : Int64) (x4 : Int32) (D : Dat), f_X6_find_b114 N g x1 x2 x4 D = some z → V X (Q0 X n (Ax nu K c u) none z) n (Ax nu K c u) D 114 [(0, .ref (bo X + pp 108)), (1, rv (bo X) x1), (2, .long x2), (4, .int x4)] [] := by
  intro g
  induction g with
  | zero => intro x1 x2 x4 D h; exact absurd h (by simp [f_X6_find_b114])
  | succ g ih =>
    intro x1 x2 x4 D h
    rw [f_X6_find_b114] at h
    refine v_iload (pc := 114) O dX6_find_114 3 rfl ?_
    refine v_aload_n (pc := 116) O dX6_find_116 0 rfl ?_
    refine v_getI (pc := 117) (a := 108) O gf_X6_4 fl_X6_25 kq_108 dX6_find_117 ?_
    refine v_icmpge (pc := 120) 207 O dX6_find_120 (by decide) (fun c10 => ?_) (fun c10 => ?_)
    · have h := (if_pos c10).symm.trans h
      obtain rfl := Option.some.inj h
      exact v_ret (pc := 207) O hz dX6_find_207
    · have h := (if_neg c10).symm.trans h
      refine v_aload_nr (pc := 123) O dX6_find_123 1 rfl ?_
      refine v_iload (pc := 124) O dX6_find_124 3 rfl ?_
      obtain ⟨a11, e12, h⟩ := bind_some h
      subst e12
      obtain ⟨c13, h⟩ := if_none h
      obtain ⟨p14, e15, h⟩ := bind_some h
      refine v_callV (pc := 126) (a := a11) (As := [.int x4]) (rest := []) (r := (some (.int p14.1))) (D' := p14.2) O (bb0 hz) (c_X0_operation hm c13 e15) mw_X0_operation im_X0_operation se_X0_operation ml_X6_51 (kt_X0 c13) (by decide) rfl rfl rfl (by decide) (by decide) (Nat.le_of_ble_eq_true rfl) dX6_find_126 rfl rfl ?_
      refine v_bipush (pc := 129) O dX6_find_129 bp_11 ?_
      refine v_icmpne (pc := 131) 147 O dX6_find_131 (by decide) (fun c16 => ?_) (fun c16 => ?_)
      · have h := (if_neg c16).symm.trans h
        refine v_sub [0, 1, 2, 3] rfl ?_
        exact w_X6_find_b147 O hm hn hz ih (some a11) x2 x4 p14.2 h
      · have h := (if_pos c16).symm.trans h
        refine v_lload_n (pc := 134) O dX6_find_134 2 rfl ?_
        refine v_iload (pc := 135) O dX6_find_135 3 rfl ?_
        obtain ⟨p17, e18, h⟩ := bind_some h
        refine v_callN (pc := 137) (As := [.long x2, .int x4]) (rest := []) (r := (some (.int p17.1))) (D' := p17.2) O (bb0 hz) (c_X11_holds hm e18) mw_X11_holds sm_X11_holds nl_X6_29 rfl (by decide) (by decide) (Nat.le_of_ble_eq_true rfl) dX6_find_137 rfl rfl ?_
        refine v_ifeq (pc := 140) 147 O dX6_find_140 (by decide) (fun c19 => ?_) (fun c19 => ?_)
        · have h := (if_pos c19).symm.trans h
          refine v_sub [0, 1, 2, 3] rfl ?_
          exact w_X6_find_b147 O hm hn hz ih (some a11) x2 x4 p17.2 h
        · have h := (if_neg c19).symm.trans h
          refine v_iconst (pc := 143) O dX6_find_143 ic_1 ?_
          refine v_goto (pc := 144) 148 O dX6_find_144 (by decide) ?_
          refine v_sub [0, 1, 2, 3] rfl ?_
          exact w_X6_find_b148 O hm hn hz ih (some a11) x2 x4 1 p17.2 h
def f_X6_find_b97 (N : Nat) (rec_21 : Option Nat → Int64 → Int32 → Dat → Option (Dat)) (x1 : Option Nat) (x2 : Int64) (x4 : Int32) (D : Dat) : Option (Dat) :=
  rec_21 x1 x2 (x4 + 1) D
set_option maxHeartbeats 4000000 in
theorem w_X6_find_b97 {X : Cx} {n nu c u : Nat} {K : Nat → Nat} {N : Nat} {rec_21 : Option Nat → Int64 → Int32 → Dat → Option (Dat)} {z : Dat} (O : Ok X cX6_find RX6 none 4 93) (hm : wlm (xw X) = true) (hn : xn X = 6) (hz : Z0 X (Ax nu K c u)) (hrec_21 : ∀ (x1 : Option Nat) (x2 : Int64) (x4 : Int32) (D : Dat), rec_21 x1 x2 x4 D = some z → V X (Q0 X n (Ax nu K c u) none z) n (Ax nu K c u) D 21 [(0, .ref (bo X + pp 108)), (1, rv (bo X) x1), (2, .long x2), (4, .int x4)] []) (x1 : Option Nat) (x2 : Int64) (x4 : Int32) (D : Dat) (h : f_X6_find_b97 N rec_21 x1 x2 x4 D = some z) : V X (Q0 X n (Ax nu K c u) none z) n (Ax nu K c u) D 97 [(0, .ref (bo X + pp 108)), (1, rv (bo X) x1), (2, .long x2), (4, .int x4)] [] := by
  unfold f_X6_find_b97 at h
  refine v_iinc (pc := 97) (lv' := [(4, .int (x4 + 1)), (0, .ref (bo X + pp 108)), (1, rv (bo X) x1), (2, .long x2)]) O dX6_find_97 3 rfl (congrArg (fun q => x4 + q) ic_1) (by rw [hn]; decide) rfl ?_
  refine v_goto (pc := 100) 21 O dX6_find_100 (by decide) ?_
  refine v_sub [1, 2, 3, 0] rfl ?_
  exact hrec_21 x1 x2 (x4 + 1) D h
def f_X6_find_b71 (N : Nat) (rec_21 : Option Nat → Int64 → Int32 → Dat → Option (Dat)) (x1 : Option Nat) (x2 : Int64) (x4 : Int32) (s0 : Int64) (s1 : Int32) (D : Dat) : Option (Dat) :=
  if s1 < 0 ∨ 64 ≤ (s1).toNatClampNeg then none else ((x1).bind (fun a21 => if a21 = 201 ∨ a21 = 204 then ((f_X0_operation a21 x4 (sL D 110 (s1).toNatClampNeg s0)).bind (fun p24 => if p24.1 = 15 then ((f_X11_bit x4 p24.2).bind (fun p27 => f_X6_find_b97 N rec_21 (some a21) x2 x4 (sL p27.2 108 5 ((dL p24.2 108 5) ||| p27.1)))) else (f_X6_find_b97 N rec_21 (some a21) x2 x4 p24.2))) else none))
set_option maxHeartbeats 4000000 in
theorem w_X6_find_b71 {X : Cx} {n nu c u : Nat} {K : Nat → Nat} {N : Nat} {rec_21 : Option Nat → Int64 → Int32 → Dat → Option (Dat)} {z : Dat} (O : Ok X cX6_find RX6 none 4 93) (hm : wlm (xw X) = true) (hn : xn X = 6) (hz : Z0 X (Ax nu K c u)) (hrec_21 : ∀ (x1 : Option Nat) (x2 : Int64) (x4 : Int32) (D : Dat), rec_21 x1 x2 x4 D = some z → V X (Q0 X n (Ax nu K c u) none z) n (Ax nu K c u) D 21 [(0, .ref (bo X + pp 108)), (1, rv (bo X) x1), (2, .long x2), (4, .int x4)] []) (x1 : Option Nat) (x2 : Int64) (x4 : Int32) (s0 : Int64) (s1 : Int32) (D : Dat) (h : f_X6_find_b71 N rec_21 x1 x2 x4 s0 s1 D = some z) : V X (Q0 X n (Ax nu K c u) none z) n (Ax nu K c u) D 71 [(0, .ref (bo X + pp 108)), (1, rv (bo X) x1), (2, .long x2), (4, .int x4)] [.long s0, .int s1, .ref (bo X + pp 110)] := by
  unfold f_X6_find_b71 at h
  obtain ⟨c20, h⟩ := or_none h
  refine v_last (pc := 71) (a := 110) O kq_110 (inq lq_110 c20) dX6_find_71 ?_
  refine v_aload_nr (pc := 72) O dX6_find_72 1 rfl ?_
  refine v_iload (pc := 73) O dX6_find_73 3 rfl ?_
  obtain ⟨a21, e22, h⟩ := bind_some h
  subst e22
  obtain ⟨c23, h⟩ := if_none h
  obtain ⟨p24, e25, h⟩ := bind_some h
  refine v_callV (pc := 75) (a := a21) (As := [.int x4]) (rest := []) (r := (some (.int p24.1))) (D' := p24.2) O (bb0 hz) (c_X0_operation hm c23 e25) mw_X0_operation im_X0_operation se_X0_operation ml_X6_51 (kt_X0 c23) (by decide) rfl rfl rfl (by decide) (by decide) (Nat.le_of_ble_eq_true rfl) dX6_find_75 rfl rfl ?_
  refine v_bipush (pc := 78) O dX6_find_78 bp_15 ?_
  refine v_icmpne (pc := 80) 97 O dX6_find_80 (by decide) (fun c26 => ?_) (fun c26 => ?_)
  · have h := (if_neg c26).symm.trans h
    refine v_sub [0, 1, 2, 3] rfl ?_
    exact w_X6_find_b97 O hm hn hz hrec_21 (some a21) x2 x4 p24.2 h
  · have h := (if_pos c26).symm.trans h
    refine v_aload_n (pc := 83) O dX6_find_83 0 rfl ?_
    refine v_dup (pc := 84) O dX6_find_84 rfl ?_
    refine v_getL (pc := 85) (a := 108) O gf_X6_5 fl_X6_44 kq_108 dX6_find_85 ?_
    refine v_iload (pc := 88) O dX6_find_88 3 rfl ?_
    obtain ⟨p27, e28, h⟩ := bind_some h
    refine v_callN (pc := 90) (As := [.int x4]) (rest := [.long (dL p24.2 108 5), .ref (bo X + pp 108)]) (r := (some (.long p27.1))) (D' := p27.2) O (bb0 hz) (c_X11_bit hm e28) mw_X11_bit sm_X11_bit nl_X6_55 rfl (by decide) (by decide) (Nat.le_of_ble_eq_true rfl) dX6_find_90 rfl rfl ?_
    refine v_lor (pc := 93) O dX6_find_93 ?_
    refine v_putL (pc := 94) (a := 108) O pf_X6_5 fl_X6_44 kq_108 dX6_find_94 ?_
    refine v_sub [0, 1, 2, 3] rfl ?_
    exact w_X6_find_b97 O hm hn hz hrec_21 (some a21) x2 x4 (sL p27.2 108 5 ((dL p24.2 108 5) ||| p27.1)) h
def f_X6_find_b21 (N : Nat) : Nat → Option Nat → Int64 → Int32 → Dat → Option (Dat)
  | 0, _, _, _, _ => none
  | g + 1, x1, x2, x4, D => if (dI D 108 4) ≤ x4 then ((f_X6_findEnding N D).bind (fun p30 => (f_X6_findSure N p30).bind (fun p32 => f_X6_find_b114 N N x1 x2 0 p32))) else ((x1).bind (fun a34 => if a34 = 201 ∨ a34 = 204 then ((f_X0_nexts a34 x4 D).bind (fun p37 => if x4 < 0 ∨ 64 ≤ (x4).toNatClampNeg then none else ((f_X0_operation a34 x4 (sL p37.2 109 (x4).toNatClampNeg p37.1)).bind (fun p40 => if p40.1 = 15 then ((f_X11_bit x4 p40.2).bind (fun p43 => f_X6_find_b71 N (f_X6_find_b21 N g) (some a34) x2 x4 p43.1 x4 p43.2)) else (f_X6_find_b71 N (f_X6_find_b21 N g) (some a34) x2 x4 (-1 : Int64) x4 p40.2))))) else none))
set_option maxHeartbeats 4000000 in
theorem w_X6_find_b21 {X : Cx} {n nu c u : Nat} {K : Nat → Nat} {N : Nat} {z : Dat} (O : Ok X cX6_find RX6 none 4 93) (hm : wlm (xw X) = true) (hn : xn X = 6) (hz : Z0 X (Ax nu K c u)) : ∀ (g : Nat) (x1 : Option Nat) (x2 : Int64) (x4 : Int32) (D : Dat), f_X6_find_b21 N g x1 x2 x4 D = some z → V X (Q0 X n (Ax nu K c u) none z) n (Ax nu K c u) D 21 [(0, .ref (bo X + pp 108)), (1, rv (bo X) x1), (2, .long x2), (4, .int x4)] [] := by
  intro g
  induction g with
  | zero => intro x1 x2 x4 D h; exact absurd h (by simp [f_X6_find_b21])
  | succ g ih =>
    intro x1 x2 x4 D h
    rw [f_X6_find_b21] at h
    refine v_iload (pc := 21) O dX6_find_21 3 rfl ?_
    refine v_aload_n (pc := 23) O dX6_find_23 0 rfl ?_
    refine v_getI (pc := 24) (a := 108) O gf_X6_4 fl_X6_25 kq_108 dX6_find_24 ?_
    refine v_icmpge (pc := 27) 103 O dX6_find_27 (by decide) (fun c29 => ?_) (fun c29 => ?_)
    · have h := (if_pos c29).symm.trans h
      refine v_aload_n (pc := 103) O dX6_find_103 0 rfl ?_
      obtain ⟨p30, e31, h⟩ := bind_some h
      refine v_callV (pc := 104) (a := 108) (As := []) (rest := []) (r := none) (D' := p30) O (bb0 hz) (c_X6_findEnding hm e31) mw_X6_findEnding im_X6_findEnding se_X6_findEnding ml_X6_60 kq_108 (by decide) rfl rfl rfl (by decide) (by decide) (Nat.le_of_ble_eq_true rfl) dX6_find_104 rfl rfl ?_
      refine v_aload_n (pc := 107) O dX6_find_107 0 rfl ?_
      obtain ⟨p32, e33, h⟩ := bind_some h
      refine v_callV (pc := 108) (a := 108) (As := []) (rest := []) (r := none) (D' := p32) O (bb0 hz) (c_X6_findSure hm e33) mw_X6_findSure im_X6_findSure se_X6_findSure ml_X6_63 kq_108 (by decide) rfl rfl rfl (by decide) (by decide) (Nat.le_of_ble_eq_true rfl) dX6_find_108 rfl rfl ?_
      refine v_iconst (pc := 111) O dX6_find_111 ic_0 ?_
      refine v_istore (pc := 112) (lv' := [(4, .int 0), (0, .ref (bo X + pp 108)), (1, rv (bo X) x1), (2, .long x2)]) O dX6_find_112 (by rw [hn]; decide) rfl ?_
      refine v_sub [1, 2, 3, 0] rfl ?_
      exact w_X6_find_b114 O hm hn hz N x1 x2 0 p32 h
    · have h := (if_neg c29).symm.trans h
      refine v_aload_n (pc := 30) O dX6_find_30 0 rfl ?_
      refine v_getK (pc := 31) (a := 108) O hm gf_X6_0 fl_X6_9 kq_108 lk_108_0 dX6_find_31 ?_
      refine v_iload (pc := 34) O dX6_find_34 3 rfl ?_
      refine v_aload_nr (pc := 36) O dX6_find_36 1 rfl ?_
      refine v_iload (pc := 37) O dX6_find_37 3 rfl ?_
      obtain ⟨a34, e35, h⟩ := bind_some h
      subst e35
      obtain ⟨c36, h⟩ := if_none h
      obtain ⟨p37, e38, h⟩ := bind_some h
      refine v_callV (pc := 39) (a := a34) (As := [.int x4]) (rest := [.int x4, .ref (bo X + pp 109)]) (r := (some (.long p37.1))) (D' := p37.2) O (bb0 hz) (c_X0_nexts hm c36 e38) mw_X0_nexts im_X0_nexts se_X0_nexts ml_X6_48 (kt_X0 c36) (by decide) rfl rfl rfl (by decide) (by decide) (Nat.le_of_ble_eq_true rfl) dX6_find_39 rfl rfl ?_
      obtain ⟨c39, h⟩ := or_none h
      refine v_last (pc := 42) (a := 109) O kq_109 (inq lq_109 c39) dX6_find_42 ?_
      refine v_aload_n (pc := 43) O dX6_find_43 0 rfl ?_
      refine v_getK (pc := 44) (a := 108) O hm gf_X6_1 fl_X6_15 kq_108 lk_108_1 dX6_find_44 ?_
      refine v_iload (pc := 47) O dX6_find_47 3 rfl ?_
      refine v_aload_n (pc := 49) O dX6_find_49 1 rfl ?_
      refine v_iload (pc := 50) O dX6_find_50 3 rfl ?_
      obtain ⟨p40, e41, h⟩ := bind_some h
      refine v_callV (pc := 52) (a := a34) (As := [.int x4]) (rest := [.int x4, .ref (bo X + pp 110)]) (r := (some (.int p40.1))) (D' := p40.2) O (bb0 hz) (c_X0_operation hm c36 e41) mw_X0_operation im_X0_operation se_X0_operation ml_X6_51 (kt_X0 c36) (by decide) rfl rfl rfl (by decide) (by decide) (Nat.le_of_ble_eq_true rfl) dX6_find_52 rfl rfl ?_
      refine v_bipush (pc := 55) O dX6_find_55 bp_15 ?_
      refine v_icmpne (pc := 57) 68 O dX6_find_57 (by decide) (fun c42 => ?_) (fun c42 => ?_)
      · have h := (if_neg c42).symm.trans h
        refine v_ldc2 (pc := 68) O dX6_find_68 cl_X6_58 ?_
        refine v_sub [0, 1, 2, 3] rfl ?_
        exact w_X6_find_b71 O hm hn hz ih (some a34) x2 x4 (-1 : Int64) x4 p40.2 h
      · have h := (if_pos c42).symm.trans h
        refine v_iload (pc := 60) O dX6_find_60 3 rfl ?_
        obtain ⟨p43, e44, h⟩ := bind_some h
        refine v_callN (pc := 62) (As := [.int x4]) (rest := [.int x4, .ref (bo X + pp 110)]) (r := (some (.long p43.1))) (D' := p43.2) O (bb0 hz) (c_X11_bit hm e44) mw_X11_bit sm_X11_bit nl_X6_55 rfl (by decide) (by decide) (Nat.le_of_ble_eq_true rfl) dX6_find_62 rfl rfl ?_
        refine v_goto (pc := 65) 71 O dX6_find_65 (by decide) ?_
        refine v_sub [0, 1, 2, 3] rfl ?_
        exact w_X6_find_b71 O hm hn hz ih (some a34) x2 x4 p43.1 x4 p43.2 h
def f_X6_find (N : Nat) (x1 : Option Nat) (x2 : Int64) (D : Dat) : Option (Dat) :=
  (x1).bind (fun a45 => if a45 = 201 ∨ a45 = 204 then ((f_X0_size a45 D).bind (fun p48 => f_X6_find_b21 N N (some a45) x2 0 (sL (sI p48.2 108 4 (if 64 < p48.1 then 64 else p48.1)) 108 5 (0 : Int64)))) else none)
set_option maxHeartbeats 4000000 in
theorem w_X6_find {X : Cx} {n nu c u : Nat} {K : Nat → Nat} {N : Nat} {z : Dat} (O : Ok X cX6_find RX6 none 4 93) (hm : wlm (xw X) = true) (hn : xn X = 6) (hz : Z0 X (Ax nu K c u)) (x1 : Option Nat) (x2 : Int64) (D : Dat) (h : f_X6_find N x1 x2 D = some z) : V X (Q0 X n (Ax nu K c u) none z) n (Ax nu K c u) D 0 [(0, .ref (bo X + pp 108)), (1, rv (bo X) x1), (2, .long x2)] [] := by
  unfold f_X6_find at h
  refine v_aload_n (pc := 0) O dX6_find_0 0 rfl ?_
  refine v_aload_nr (pc := 1) O dX6_find_1 1 rfl ?_
  obtain ⟨a45, e46, h⟩ := bind_some h
  subst e46
  obtain ⟨c47, h⟩ := if_none h
  obtain ⟨p48, e49, h⟩ := bind_some h
  refine v_callV (pc := 2) (a := a45) (As := []) (rest := [.ref (bo X + pp 108)]) (r := (some (.int p48.1))) (D' := p48.2) O (bb0 hz) (c_X0_size hm c47 e49) mw_X0_size im_X0_size se_X0_size ml_X6_33 (kt_X0 c47) (by decide) rfl rfl rfl (by decide) (by decide) (Nat.le_of_ble_eq_true rfl) dX6_find_2 rfl rfl ?_
  refine v_bipush (pc := 5) O dX6_find_5 bp_64 ?_
  refine v_min (pc := 7) O (bb0 hz) ml_X6_38 sm_min ini_Math cw_min (by decide) (Nat.le_of_ble_eq_true rfl) dX6_find_7 ?_
  refine v_putI (pc := 10) (a := 108) O pf_X6_4 fl_X6_25 kq_108 dX6_find_10 ?_
  refine v_aload_n (pc := 13) O dX6_find_13 0 rfl ?_
  refine v_lconst (pc := 14) (v := 0) O dX6_find_14 rfl ?_
  refine v_putL (pc := 15) (a := 108) O pf_X6_5 fl_X6_44 kq_108 dX6_find_15 ?_
  refine v_iconst (pc := 18) O dX6_find_18 ic_0 ?_
  refine v_istore (pc := 19) (lv' := [(4, .int 0), (0, .ref (bo X + pp 108)), (1, .ref (bo X + pp a45)), (2, .long x2)]) O dX6_find_19 (by rw [hn]; decide) rfl ?_
  refine v_sub [1, 2, 3, 0] rfl ?_
  exact w_X6_find_b21 O hm hn hz N (some a45) x2 0 (sL (sI p48.2 108 4 (if 64 < p48.1 then 64 else p48.1)) 108 5 (0 : Int64)) h
theorem c_X6_find {l : Launch} {w : Wx} {n nu c u : Nat} {K : Nat → Nat} {N : Nat} (hm : wlm w = true) {x1 : Option Nat} {x2 : Int64} {D : Dat} {z : Dat} (h : f_X6_find N x1 x2 D = some z) : C0 l w yX6_find cX6_find 6 none 4 93 [.ref (wb w + pp 108), rv (wb w) x1, .long x2] n (Ax nu K c u) D none z :=
  C0.of (by decide) (by simp [lg_sl, rv_cat, cat_i, cat_l, cat_r, cat_n, fmt_cat]) (fun X e1 e2 e3 hz O => by
  subst e1
  subst e2
  have q : lv_args 0 [.ref (bo X + pp 108), rv (bo X) x1, .long x2] = [(0, .ref (bo X + pp 108)), (1, rv (bo X) x1), (2, .long x2)] := by simp [lv_args, rv_cat, cat_i, cat_l, cat_r, cat_n, fmt_cat]
  show V X _ n _ D 0 (lv_args 0 [.ref (bo X + pp 108), rv (bo X) x1, .long x2]) []
  rw [q]
  exact w_X6_find O hm e3 hz x1 x2 D h)
def f_X9_findLabels_b144 (N : Nat) (nu : Nat) (K : Nat → Nat) (rec_82 : Int32 → Dat → Option (Dat)) (rec_100 : Int32 → Int32 → Dat → Option (Dat)) (x1 : Int32) (x2 : Int32) (D : Dat) : Option (Dat) :=
  rec_100 x1 (x2 + 1) D
set_option maxHeartbeats 4000000 in
theorem w_X9_findLabels_b144 {X : Cx} {n nu c u : Nat} {K : Nat → Nat} {N : Nat} {rec_82 : Int32 → Dat → Option (Dat)} {rec_100 : Int32 → Int32 → Dat → Option (Dat)} {z : Dat} (O : Ok X cX9_findLabels RX9 none 5 115) (hm : wlm (xw X) = true) (hn : xn X = 3) (hz : Z0 X (Ax nu K c u)) (hrec_82 : ∀ (x1 : Int32) (D : Dat), rec_82 x1 D = some z → V X (Q0 X n (Ax nu K c u) none z) n (Ax nu K c u) D 82 [(0, .ref (bo X + pp 107)), (1, .int x1)] []) (hrec_100 : ∀ (x1 : Int32) (x2 : Int32) (D : Dat), rec_100 x1 x2 D = some z → V X (Q0 X n (Ax nu K c u) none z) n (Ax nu K c u) D 100 [(0, .ref (bo X + pp 107)), (1, .int x1), (2, .int x2)] []) (x1 : Int32) (x2 : Int32) (D : Dat) (h : f_X9_findLabels_b144 N nu K rec_82 rec_100 x1 x2 D = some z) : V X (Q0 X n (Ax nu K c u) none z) n (Ax nu K c u) D 144 [(0, .ref (bo X + pp 107)), (1, .int x1), (2, .int x2)] [] := by
  unfold f_X9_findLabels_b144 at h
  refine v_iinc (pc := 144) (lv' := [(2, .int (x2 + 1)), (0, .ref (bo X + pp 107)), (1, .int x1)]) O dX9_findLabels_144 2 rfl (congrArg (fun q => x2 + q) ic_1) (by rw [hn]; decide) rfl ?_
  refine v_goto (pc := 147) 100 O dX9_findLabels_147 (by decide) ?_
  refine v_sub [1, 2, 0] rfl ?_
  exact hrec_100 x1 (x2 + 1) D h
def f_X9_findLabels_b100 (N : Nat) (nu : Nat) (K : Nat → Nat) (rec_82 : Int32 → Dat → Option (Dat)) : Nat → Int32 → Int32 → Dat → Option (Dat)
  | 0, _, _, _ => none
  | g + 1, x1, x2, D => ((dR D 107 2)).bind (fun a1 => if a1 = 201 ∨ a1 = 204 then ((f_X0_size a1 D).bind (fun p4 => if p4.1 ≤ x2 then (rec_82 (x1 + 1) p4.2) else ((f_X11_holds (dL p4.2 107 9) x2 p4.2).bind (fun p7 => if p7.1 = 0 then (f_X9_findLabels_b144 N nu K rec_82 (f_X9_findLabels_b100 N nu K rec_82 g) x1 x2 p7.2) else ((f_X11_bit x2 p7.2).bind (fun p10 => (f_X9_goOver N nu K x2 (sL p10.2 107 9 ((dL p7.2 107 9) &&& (p10.1 ^^^ (-1 : Int64))))).bind (fun p12 => f_X9_findLabels_b144 N nu K rec_82 (f_X9_findLabels_b100 N nu K rec_82 g) x1 x2 p12))))))) else none)
set_option maxHeartbeats 4000000 in
theorem w_X9_findLabels_b100 {X : Cx} {n nu c u : Nat} {K : Nat → Nat} {N : Nat} {rec_82 : Int32 → Dat → Option (Dat)} {z : Dat} (O : Ok X cX9_findLabels RX9 none 5 115) (hm : wlm (xw X) = true) (hn : xn X = 3) (hz : Z0 X (Ax nu K c u)) (hrec_82 : ∀ (x1 : Int32) (D : Dat), rec_82 x1 D = some z → V X (Q0 X n (Ax nu K c u) none z) n (Ax nu K c u) D 82 [(0, .ref (bo X + pp 107)), (1, .int x1)] []) : ∀ (g : Nat) (x1 : Int32) (x2 : Int32) (D : Dat), f_X9_findLabels_b100 N nu K rec_82 g x1 x2 D = some z → V X (Q0 X n (Ax nu K c u) none z) n (Ax nu K c u) D 100 [(0, .ref (bo X + pp 107)), (1, .int x1), (2, .int x2)] [] := by
  intro g
  induction g with
  | zero => intro x1 x2 D h; exact absurd h (by simp [f_X9_findLabels_b100])
  | succ g ih =>
    intro x1 x2 D h
    rw [f_X9_findLabels_b100] at h
    refine v_iload_n (pc := 100) O dX9_findLabels_100 2 rfl ?_
    refine v_aload_n (pc := 101) O dX9_findLabels_101 0 rfl ?_
    refine v_getR (pc := 102) (a := 107) O gf_X9_2 fl_X9_83 kq_107 dX9_findLabels_102 ?_
    obtain ⟨a1, e2, h⟩ := bind_some h
    rw [e2]
    obtain ⟨c3, h⟩ := if_none h
    obtain ⟨p4, e5, h⟩ := bind_some h
    refine v_callV (pc := 105) (a := a1) (As := []) (rest := [.int x2]) (r := (some (.int p4.1))) (D' := p4.2) O (bb0 hz) (c_X0_size hm c3 e5) mw_X0_size im_X0_size se_X0_size ml_X9_110 (kt_X0 c3) (by decide) rfl rfl rfl (by decide) (by decide) (Nat.le_of_ble_eq_true rfl) dX9_findLabels_105 rfl rfl ?_
    refine v_icmpge (pc := 108) 150 O dX9_findLabels_108 (by decide) (fun c6 => ?_) (fun c6 => ?_)
    · have h := (if_pos c6).symm.trans h
      refine v_iinc (pc := 150) (lv' := [(1, .int (x1 + 1)), (0, .ref (bo X + pp 107)), (2, .int x2)]) O dX9_findLabels_150 1 rfl (congrArg (fun q => x1 + q) ic_1) (by rw [hn]; decide) rfl ?_
      refine v_goto (pc := 153) 82 O dX9_findLabels_153 (by decide) ?_
      refine v_sub [1, 0] rfl ?_
      exact hrec_82 (x1 + 1) p4.2 h
    · have h := (if_neg c6).symm.trans h
      refine v_aload_n (pc := 111) O dX9_findLabels_111 0 rfl ?_
      refine v_getL (pc := 112) (a := 107) O gf_X9_9 fl_X9_165 kq_107 dX9_findLabels_112 ?_
      refine v_iload_n (pc := 115) O dX9_findLabels_115 2 rfl ?_
      obtain ⟨p7, e8, h⟩ := bind_some h
      refine v_callN (pc := 116) (As := [.long (dL p4.2 107 9), .int x2]) (rest := []) (r := (some (.int p7.1))) (D' := p7.2) O (bb0 hz) (c_X11_holds hm e8) mw_X11_holds sm_X11_holds nl_X9_58 rfl (by decide) (by decide) (Nat.le_of_ble_eq_true rfl) dX9_findLabels_116 rfl rfl ?_
      refine v_ifeq (pc := 119) 144 O dX9_findLabels_119 (by decide) (fun c9 => ?_) (fun c9 => ?_)
      · have h := (if_pos c9).symm.trans h
        refine v_sub [0, 1, 2] rfl ?_
        exact w_X9_findLabels_b144 O hm hn hz hrec_82 ih x1 x2 p7.2 h
      · have h := (if_neg c9).symm.trans h
        refine v_aload_n (pc := 122) O dX9_findLabels_122 0 rfl ?_
        refine v_dup (pc := 123) O dX9_findLabels_123 rfl ?_
        refine v_getL (pc := 124) (a := 107) O gf_X9_9 fl_X9_165 kq_107 dX9_findLabels_124 ?_
        refine v_iload_n (pc := 127) O dX9_findLabels_127 2 rfl ?_
        obtain ⟨p10, e11, h⟩ := bind_some h
        refine v_callN (pc := 128) (As := [.int x2]) (rest := [.long (dL p7.2 107 9), .ref (bo X + pp 107)]) (r := (some (.long p10.1))) (D' := p10.2) O (bb0 hz) (c_X11_bit hm e11) mw_X11_bit sm_X11_bit nl_X9_138 rfl (by decide) (by decide) (Nat.le_of_ble_eq_true rfl) dX9_findLabels_128 rfl rfl ?_
        refine v_ldc2 (pc := 131) O dX9_findLabels_131 cl_X9_142 ?_
        refine v_lxor (pc := 134) O dX9_findLabels_134 ?_
        refine v_land (pc := 135) O dX9_findLabels_135 ?_
        refine v_putL (pc := 136) (a := 107) O pf_X9_9 fl_X9_165 kq_107 dX9_findLabels_136 ?_
        refine v_aload_n (pc := 139) O dX9_findLabels_139 0 rfl ?_
        refine v_iload_n (pc := 140) O dX9_findLabels_140 2 rfl ?_
        obtain ⟨p12, e13, h⟩ := bind_some h
        refine v_callV (pc := 141) (a := 107) (As := [.int x2]) (rest := []) (r := none) (D' := p12) O (bb0 hz) (c_X9_goOver hm e13) mw_X9_goOver im_X9_goOver se_X9_goOver ml_X9_168 kq_107 (by decide) rfl rfl rfl (by decide) (by decide) (Nat.le_of_ble_eq_true rfl) dX9_findLabels_141 rfl rfl ?_
        refine v_sub [0, 1, 2] rfl ?_
        exact w_X9_findLabels_b144 O hm hn hz hrec_82 ih x1 x2 p12 h
def f_X9_findLabels_b156 (N : Nat) (nu : Nat) (K : Nat → Nat) (D : Dat) : Option (Dat) :=
  some D
set_option maxHeartbeats 4000000 in
theorem w_X9_findLabels_b156 {X : Cx} {n nu c u : Nat} {K : Nat → Nat} {N : Nat} {z : Dat} (O : Ok X cX9_findLabels RX9 none 5 115) (hm : wlm (xw X) = true) (hn : xn X = 3) (hz : Z0 X (Ax nu K c u)) (D : Dat) (h : f_X9_findLabels_b156 N nu K D = some z) : V X (Q0 X n (Ax nu K c u) none z) n (Ax nu K c u) D 156 [] [] := by
  unfold f_X9_findLabels_b156 at h
  obtain rfl := Option.some.inj h
  exact v_ret (pc := 156) O hz dX9_findLabels_156
def f_X9_findLabels_b82 (N : Nat) (nu : Nat) (K : Nat → Nat) : Nat → Int32 → Dat → Option (Dat)
  | 0, _, _ => none
  | g + 1, x1, D => if 21888 ≤ x1 then (f_X9_findLabels_b156 N nu K D) else (if (lg_cmp (dL D 107 9) (0 : Int64)) = 0 then (f_X9_findLabels_b156 N nu K D) else (f_X9_findLabels_b100 N nu K (f_X9_findLabels_b82 N nu K g) N x1 0 D))
set_option maxHeartbeats 4000000 in
theorem w_X9_findLabels_b82 {X : Cx} {n nu c u : Nat} {K : Nat → Nat} {N : Nat} {z : Dat} (O : Ok X cX9_findLabels RX9 none 5 115) (hm : wlm (xw X) = true) (hn : xn X = 3) (hz : Z0 X (Ax nu K c u)) : ∀ (g : Nat) (x1 : Int32) (D : Dat), f_X9_findLabels_b82 N nu K g x1 D = some z → V X (Q0 X n (Ax nu K c u) none z) n (Ax nu K c u) D 82 [(0, .ref (bo X + pp 107)), (1, .int x1)] [] := by
  intro g
  induction g with
  | zero => intro x1 D h; exact absurd h (by simp [f_X9_findLabels_b82])
  | succ g ih =>
    intro x1 D h
    rw [f_X9_findLabels_b82] at h
    refine v_iload_n (pc := 82) O dX9_findLabels_82 1 rfl ?_
    refine v_sipush (pc := 83) O dX9_findLabels_83 sp_21888 ?_
    refine v_icmpge (pc := 86) 156 O dX9_findLabels_86 (by decide) (fun c14 => ?_) (fun c14 => ?_)
    · have h := (if_pos c14).symm.trans h
      refine v_sub [] rfl ?_
      exact w_X9_findLabels_b156 O hm hn hz D h
    · have h := (if_neg c14).symm.trans h
      refine v_aload_n (pc := 89) O dX9_findLabels_89 0 rfl ?_
      refine v_getL (pc := 90) (a := 107) O gf_X9_9 fl_X9_165 kq_107 dX9_findLabels_90 ?_
      refine v_lconst (pc := 93) (v := 0) O dX9_findLabels_93 rfl ?_
      refine v_lcmp (pc := 94) O dX9_findLabels_94 ?_
      refine v_ifeq (pc := 95) 156 O dX9_findLabels_95 (by decide) (fun c15 => ?_) (fun c15 => ?_)
      · have h := (if_pos c15).symm.trans h
        refine v_sub [] rfl ?_
        exact w_X9_findLabels_b156 O hm hn hz D h
      · have h := (if_neg c15).symm.trans h
        refine v_iconst (pc := 98) O dX9_findLabels_98 ic_0 ?_
        refine v_istore_n (pc := 99) (lv' := [(2, .int 0), (0, .ref (bo X + pp 107)), (1, .int x1)]) O dX9_findLabels_99 rfl (by rw [hn]; decide) rfl ?_
        refine v_sub [1, 2, 0] rfl ?_
        exact w_X9_findLabels_b100 O hm hn hz ih N x1 0 D h
def f_X9_findLabels_b39 (N : Nat) (nu : Nat) (K : Nat → Nat) : Nat → Int32 → Dat → Option (Dat)
  | 0, _, _ => none
  | g + 1, x1, D => if 26 ≤ x1 then (f_X9_findLabels_b82 N nu K N 0 (sL D 107 9 (dL D 107 5))) else (if (0 : Int32) < 0 ∨ 64 ≤ ((0 : Int32)).toNatClampNeg then none else (((dR D 107 3)).bind (fun a18 => if kd K a18 = 14 then (if x1 < 0 ∨ (nl nu a18) ≤ (x1).toNatClampNeg then none else ((f_X2_shade nu K (dI D a18 (x1).toNatClampNeg) D).bind (fun p22 => if x1 < 0 ∨ 56 ≤ (x1).toNatClampNeg then none else ((f_X9_findLabels_b39 N nu K g) (x1 + 1) (sI p22.2 (115 + 1 + (0 : Int32).toNatClampNeg) (x1).toNatClampNeg p22.1))))) else none)))
set_option maxHeartbeats 4000000 in
theorem w_X9_findLabels_b39 {X : Cx} {n nu c u : Nat} {K : Nat → Nat} {N : Nat} {z : Dat} (O : Ok X cX9_findLabels RX9 none 5 115) (hm : wlm (xw X) = true) (hn : xn X = 3) (hz : Z0 X (Ax nu K c u)) : ∀ (g : Nat) (x1 : Int32) (D : Dat), f_X9_findLabels_b39 N nu K g x1 D = some z → V X (Q0 X n (Ax nu K c u) none z) n (Ax nu K c u) D 39 [(0, .ref (bo X + pp 107)), (1, .int x1)] [] := by
  intro g
  induction g with
  | zero => intro x1 D h; exact absurd h (by simp [f_X9_findLabels_b39])
  | succ g ih =>
    intro x1 D h
    rw [f_X9_findLabels_b39] at h
    refine v_iload_n (pc := 39) O dX9_findLabels_39 1 rfl ?_
    refine v_bipush (pc := 40) O dX9_findLabels_40 bp_26 ?_
    refine v_icmpge (pc := 42) 72 O dX9_findLabels_42 (by decide) (fun c16 => ?_) (fun c16 => ?_)
    · have h := (if_pos c16).symm.trans h
      refine v_aload_n (pc := 72) O dX9_findLabels_72 0 rfl ?_
      refine v_aload_n (pc := 73) O dX9_findLabels_73 0 rfl ?_
      refine v_getL (pc := 74) (a := 107) O gf_X9_5 fl_X9_48 kq_107 dX9_findLabels_74 ?_
      refine v_putL (pc := 77) (a := 107) O pf_X9_9 fl_X9_165 kq_107 dX9_findLabels_77 ?_
      refine v_iconst (pc := 80) O dX9_findLabels_80 ic_0 ?_
      refine v_istore_n (pc := 81) (lv' := [(1, .int 0), (0, .ref (bo X + pp 107))]) O dX9_findLabels_81 rfl (by rw [hn]; decide) rfl ?_
      refine v_sub [1, 0] rfl ?_
      exact w_X9_findLabels_b82 O hm hn hz N 0 (sL D 107 9 (dL D 107 5)) h
    · have h := (if_neg c16).symm.trans h
      refine v_aload_n (pc := 45) O dX9_findLabels_45 0 rfl ?_
      refine v_getK (pc := 46) (a := 107) O hm gf_X9_7 fl_X9_27 kq_107 lk_107_7 dX9_findLabels_46 ?_
      refine v_iconst (pc := 49) O dX9_findLabels_49 ic_0 ?_
      obtain ⟨c17, h⟩ := or_none h
      refine v_aald2 (pc := 50) (a := 115) O kq_115 (inq lq_115 c17) dX9_findLabels_50 ?_
      refine v_iload_n (pc := 51) O dX9_findLabels_51 1 rfl ?_
      refine v_aload_n (pc := 52) O dX9_findLabels_52 0 rfl ?_
      refine v_getK (pc := 53) (a := 107) O hm gf_X9_0 fl_X9_33 kq_107 lk_107_0 dX9_findLabels_53 ?_
      refine v_aload_n (pc := 56) O dX9_findLabels_56 0 rfl ?_
      refine v_getR (pc := 57) (a := 107) O gf_X9_3 fl_X9_87 kq_107 dX9_findLabels_57 ?_
      refine v_iload_n (pc := 60) O dX9_findLabels_60 1 rfl ?_
      obtain ⟨a18, e19, h⟩ := bind_some h
      rw [e19]
      obtain ⟨c20, h⟩ := if_none h
      obtain ⟨c21, h⟩ := or_none h
      refine v_iald (pc := 61) (a := a18) O c20 (inq rfl c21) dX9_findLabels_61 ?_
      obtain ⟨p22, e23, h⟩ := bind_some h
      refine v_callV (pc := 62) (a := 1) (As := [.int (dI D a18 (x1).toNatClampNeg)]) (rest := [.int x1, .ref (bo X + pp (115 + 1 + (0 : Int32).toNatClampNeg))]) (r := (some (.int p22.1))) (D' := p22.2) O (bb0 hz) (c_X2_shade hm e23) mw_X2_shade im_X2_shade se_X2_shade ml_X9_162 kq_1 (by decide) rfl rfl rfl (by decide) (by decide) (Nat.le_of_ble_eq_true rfl) dX9_findLabels_62 rfl rfl ?_
      obtain ⟨c24, h⟩ := or_none h
      refine v_iast (pc := 65) (a := (115 + 1 + (0 : Int32).toNatClampNeg)) O (kr_115 c17) (inq (lr_115 c17) c24) dX9_findLabels_65 ?_
      refine v_iinc (pc := 66) (lv' := [(1, .int (x1 + 1)), (0, .ref (bo X + pp 107))]) O dX9_findLabels_66 1 rfl (congrArg (fun q => x1 + q) ic_1) (by rw [hn]; decide) rfl ?_
      refine v_goto (pc := 69) 39 O dX9_findLabels_69 (by decide) ?_
      refine v_sub [1, 0] rfl ?_
      exact ih (x1 + 1) (sI p22.2 (115 + 1 + (0 : Int32).toNatClampNeg) (x1).toNatClampNeg p22.1) h
def f_X9_findLabels_b10 (N : Nat) (nu : Nat) (K : Nat → Nat) : Nat → Int32 → Dat → Option (Dat)
  | 0, _, _ => none
  | g + 1, x1, D => ((dR D 107 2)).bind (fun a25 => if a25 = 201 ∨ a25 = 204 then ((f_X0_size a25 D).bind (fun p28 => if p28.1 ≤ x1 then (f_X9_findLabels_b39 N nu K N 0 p28.2) else (if x1 < 0 ∨ 64 ≤ (x1).toNatClampNeg then none else ((f_J7_fill_53178 N nu K (115 + 1 + (x1).toNatClampNeg) 0 p28.2).bind (fun p32 => (f_X9_findLabels_b10 N nu K g) (x1 + 1) p32))))) else none)
set_option maxHeartbeats 4000000 in
theorem w_X9_findLabels_b10 {X : Cx} {n nu c u : Nat} {K : Nat → Nat} {N : Nat} {z : Dat} (O : Ok X cX9_findLabels RX9 none 5 115) (hm : wlm (xw X) = true) (hn : xn X = 3) (hz : Z0 X (Ax nu K c u)) : ∀ (g : Nat) (x1 : Int32) (D : Dat), f_X9_findLabels_b10 N nu K g x1 D = some z → V X (Q0 X n (Ax nu K c u) none z) n (Ax nu K c u) D 10 [(0, .ref (bo X + pp 107)), (1, .int x1)] [] := by
  intro g
  induction g with
  | zero => intro x1 D h; exact absurd h (by simp [f_X9_findLabels_b10])
  | succ g ih =>
    intro x1 D h
    rw [f_X9_findLabels_b10] at h
    refine v_iload_n (pc := 10) O dX9_findLabels_10 1 rfl ?_
    refine v_aload_n (pc := 11) O dX9_findLabels_11 0 rfl ?_
    refine v_getR (pc := 12) (a := 107) O gf_X9_2 fl_X9_83 kq_107 dX9_findLabels_12 ?_
    obtain ⟨a25, e26, h⟩ := bind_some h
    rw [e26]
    obtain ⟨c27, h⟩ := if_none h
    obtain ⟨p28, e29, h⟩ := bind_some h
    refine v_callV (pc := 15) (a := a25) (As := []) (rest := [.int x1]) (r := (some (.int p28.1))) (D' := p28.2) O (bb0 hz) (c_X0_size hm c27 e29) mw_X0_size im_X0_size se_X0_size ml_X9_110 (kt_X0 c27) (by decide) rfl rfl rfl (by decide) (by decide) (Nat.le_of_ble_eq_true rfl) dX9_findLabels_15 rfl rfl ?_
    refine v_icmpge (pc := 18) 37 O dX9_findLabels_18 (by decide) (fun c30 => ?_) (fun c30 => ?_)
    · have h := (if_pos c30).symm.trans h
      refine v_iconst (pc := 37) O dX9_findLabels_37 ic_0 ?_
      refine v_istore_n (pc := 38) (lv' := [(1, .int 0), (0, .ref (bo X + pp 107))]) O dX9_findLabels_38 rfl (by rw [hn]; decide) rfl ?_
      refine v_sub [1, 0] rfl ?_
      exact w_X9_findLabels_b39 O hm hn hz N 0 p28.2 h
    · have h := (if_neg c30).symm.trans h
      refine v_aload_n (pc := 21) O dX9_findLabels_21 0 rfl ?_
      refine v_getK (pc := 22) (a := 107) O hm gf_X9_7 fl_X9_27 kq_107 lk_107_7 dX9_findLabels_22 ?_
      refine v_iload_n (pc := 25) O dX9_findLabels_25 1 rfl ?_
      obtain ⟨c31, h⟩ := or_none h
      refine v_aald2 (pc := 26) (a := 115) O kq_115 (inq lq_115 c31) dX9_findLabels_26 ?_
      refine v_iconst (pc := 27) O dX9_findLabels_27 ic_0 ?_
      obtain ⟨p32, e33, h⟩ := bind_some h
      refine v_callS (pc := 28) (As := [.ref (bo X + pp (115 + 1 + (x1).toNatClampNeg)), .int 0]) (rest := []) (r := none) (D' := p32) O (bb0 hz) (c_J7_fill_53178 hm e33) mw_J7_fill_53178 sm_J7_fill_53178 ml_X9_132 rfl (by decide) (by decide) (Nat.le_of_ble_eq_true rfl) dX9_findLabels_28 rfl rfl ?_
      refine v_iinc (pc := 31) (lv' := [(1, .int (x1 + 1)), (0, .ref (bo X + pp 107))]) O dX9_findLabels_31 1 rfl (congrArg (fun q => x1 + q) ic_1) (by rw [hn]; decide) rfl ?_
      refine v_goto (pc := 34) 10 O dX9_findLabels_34 (by decide) ?_
      refine v_sub [1, 0] rfl ?_
      exact ih (x1 + 1) p32 h
def f_X9_findLabels (N : Nat) (nu : Nat) (K : Nat → Nat) (D : Dat) : Option (Dat) :=
  (f_J7_fill_53178 N nu K 114 0 D).bind (fun p34 => f_X9_findLabels_b10 N nu K N 0 p34)
set_option maxHeartbeats 4000000 in
theorem w_X9_findLabels {X : Cx} {n nu c u : Nat} {K : Nat → Nat} {N : Nat} {z : Dat} (O : Ok X cX9_findLabels RX9 none 5 115) (hm : wlm (xw X) = true) (hn : xn X = 3) (hz : Z0 X (Ax nu K c u)) (D : Dat) (h : f_X9_findLabels N nu K D = some z) : V X (Q0 X n (Ax nu K c u) none z) n (Ax nu K c u) D 0 [(0, .ref (bo X + pp 107))] [] := by
  unfold f_X9_findLabels at h
  refine v_aload_n (pc := 0) O dX9_findLabels_0 0 rfl ?_
  refine v_getK (pc := 1) (a := 107) O hm gf_X9_6 fl_X9_22 kq_107 lk_107_6 dX9_findLabels_1 ?_
  refine v_iconst (pc := 4) O dX9_findLabels_4 ic_0 ?_
  obtain ⟨p34, e35, h⟩ := bind_some h
  refine v_callS (pc := 5) (As := [.ref (bo X + pp 114), .int 0]) (rest := []) (r := none) (D' := p34) O (bb0 hz) (c_J7_fill_53178 hm e35) mw_J7_fill_53178 sm_J7_fill_53178 ml_X9_132 rfl (by decide) (by decide) (Nat.le_of_ble_eq_true rfl) dX9_findLabels_5 rfl rfl ?_
  refine v_iconst (pc := 8) O dX9_findLabels_8 ic_0 ?_
  refine v_istore_n (pc := 9) (lv' := [(1, .int 0), (0, .ref (bo X + pp 107))]) O dX9_findLabels_9 rfl (by rw [hn]; decide) rfl ?_
  refine v_sub [1, 0] rfl ?_
  exact w_X9_findLabels_b10 O hm hn hz N 0 p34 h
theorem c_X9_findLabels {l : Launch} {w : Wx} {n nu c u : Nat} {K : Nat → Nat} {N : Nat} (hm : wlm w = true) {D : Dat} {z : Dat} (h : f_X9_findLabels N nu K D = some z) : C0 l w yX9_findLabels cX9_findLabels 3 none 5 115 [.ref (wb w + pp 107)] n (Ax nu K c u) D none z :=
  C0.of (by decide) (Nat.le_of_ble_eq_true rfl) (fun X e1 e2 e3 hz O => by
  subst e1
  subst e2
  exact w_X9_findLabels O hm e3 hz  D h)
