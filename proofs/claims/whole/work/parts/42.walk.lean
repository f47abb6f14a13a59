theorem ml_X3_63 : Cond.methodLink RX3 63 yX3_burns ∈ tb := tb_of 1562 (by decide +kernel) (by decide +kernel)
theorem ml_X3_66 : Cond.methodLink RX3 66 yX0_operation ∈ tb := tb_of 1566 (by decide +kernel) (by decide +kernel)
theorem ml_X3_71 : Cond.methodLink RX3 71 yX0_argument ∈ tb := tb_of 1567 (by decide +kernel) (by decide +kernel)
theorem pf_X9_2 : PI 9 RX9 TX9 13 tyX9 2 2 (.object "FlowChain$Code") := ⟨gf_X9_2, rfl, rfl⟩
theorem pf_X9_3 : PI 9 RX9 TX9 13 tyX9 3 2 (.array .int) := ⟨gf_X9_3, rfl, rfl⟩
theorem cw_X3_start : Cond.code yX3_start cX3_start 2 none ∈ tb := tb_of 1552 (by decide +kernel) (by decide +kernel)
theorem mw_X3_start : MW yX3_start cX3_start 2 none 1 := ⟨cw_X3_start, ini_X3, by decide +kernel⟩
theorem im_X3_start : Cond.instanceMethod yX3_start ∈ tb := tb_of 1550 (by decide +kernel) (by decide +kernel)
theorem se_X3_start : Cond.selects (yX3_start).cls yX3_start yX3_start ∈ tb := tb_of 1551 (by decide +kernel) (by decide +kernel)
theorem ml_X11_252 : Cond.methodLink RX11 252 yX3_start ∈ tb := tb_of 1549 (by decide +kernel) (by decide +kernel)
theorem fl_X11_69 : Cond.fieldLink RX11 69 RX11 (TX11 6).2.1 (TX11 6).2.2.1 ∈ tb := tb_of 500 (by decide +kernel) (by decide +kernel)
theorem gf_X11_6 : FI 11 RX11 TX11 16 tyX11 6 3 := ⟨rfl, inb_X11, tyX11_ok, nmX11, by decide, by decide, rfl, rfl, rfl⟩
theorem lk_0_6 : lks 0 6 = some 189 := by decide +kernel
theorem pf_X5_4 : PI 5 RX5 TX5 14 tyX5 4 2 (.object "FlowChain$Program") := ⟨gf_X5_4, rfl, rfl⟩
theorem cw_X4_empty : Cond.code yX4_empty cX4_empty 2 none ∈ tb := tb_of 807 (by decide +kernel) (by decide +kernel)
theorem mw_X4_empty : MW yX4_empty cX4_empty 2 none 0 := ⟨cw_X4_empty, ini_X4, by decide +kernel⟩
theorem im_X4_empty : Cond.instanceMethod yX4_empty ∈ tb := tb_of 805 (by decide +kernel) (by decide +kernel)
theorem se_X4_empty : Cond.selects (yX4_empty).cls yX4_empty yX4_empty ∈ tb := tb_of 806 (by decide +kernel) (by decide +kernel)
theorem ml_X5_49 : Cond.methodLink RX5 49 yX4_empty ∈ tb := tb_of 804 (by decide +kernel) (by decide +kernel)
theorem ml_X5_54 : Cond.methodLink RX5 54 yJ7_fill_53178 ∈ tb := tb_of 809 (by decide +kernel) (by decide +kernel)
theorem pf_X5_13 : PI 5 RX5 TX5 14 tyX5 13 0 .int := ⟨gf_X5_13, rfl, rfl⟩
theorem pf_X10_1 : PI 10 RX10 TX10 2 tyX10 1 2 (.object "FlowChain$Program") := ⟨gf_X10_1, rfl, rfl⟩
theorem fl_X10_19 : Cond.fieldLink RX10 19 RX4 (TX4 0).2.1 (TX4 0).2.2.1 ∈ tb := tb_of 455 (by decide +kernel) (by decide +kernel)
theorem cw_X9_argumentsFit : Cond.code yX9_argumentsFit cX9_argumentsFit 2 (some .boolean) ∈ tb := tb_of 1303 (by decide +kernel) (by decide +kernel)
theorem mw_X9_argumentsFit : MW yX9_argumentsFit cX9_argumentsFit 2 (some .boolean) 0 := ⟨cw_X9_argumentsFit, ini_X9, by decide +kernel⟩
theorem im_X9_argumentsFit : Cond.instanceMethod yX9_argumentsFit ∈ tb := tb_of 1302 (by decide +kernel) (by decide +kernel)
theorem se_X9_argumentsFit : Cond.selects (yX9_argumentsFit).cls yX9_argumentsFit yX9_argumentsFit ∈ tb := tb_of 49 (by decide +kernel) (by decide +kernel)
theorem ml_X9_90 : Cond.methodLink RX9 90 yX9_argumentsFit ∈ tb := tb_of 1300 (by decide +kernel) (by decide +kernel)
theorem cw_X9_endFits : Cond.code yX9_endFits cX9_endFits 3 (some .boolean) ∈ tb := tb_of 1326 (by decide +kernel) (by decide +kernel)
theorem mw_X9_endFits : MW yX9_endFits cX9_endFits 3 (some .boolean) 0 := ⟨cw_X9_endFits, ini_X9, by decide +kernel⟩
theorem im_X9_endFits : Cond.instanceMethod yX9_endFits ∈ tb := tb_of 1325 (by decide +kernel) (by decide +kernel)
theorem se_X9_endFits : Cond.selects (yX9_endFits).cls yX9_endFits yX9_endFits ∈ tb := tb_of 52 (by decide +kernel) (by decide +kernel)
theorem ml_X9_94 : Cond.methodLink RX9 94 yX9_endFits ∈ tb := tb_of 1323 (by decide +kernel) (by decide +kernel)
theorem cw_X5_endOfToken : Cond.code yX5_endOfToken cX5_endOfToken 3 (some .int) ∈ tb := tb_of 817 (by decide +kernel) (by decide +kernel)
theorem mw_X5_endOfToken : MW yX5_endOfToken cX5_endOfToken 3 (some .int) 1 := ⟨cw_X5_endOfToken, ini_X5, by decide +kernel⟩
theorem im_X5_endOfToken : Cond.instanceMethod yX5_endOfToken ∈ tb := tb_of 816 (by decide +kernel) (by decide +kernel)
theorem se_X5_endOfToken : Cond.selects (yX5_endOfToken).cls yX5_endOfToken yX5_endOfToken ∈ tb := tb_of 7 (by decide +kernel) (by decide +kernel)
theorem ml_X5_87 : Cond.methodLink RX5 87 yX5_endOfToken ∈ tb := tb_of 814 (by decide +kernel) (by decide +kernel)
theorem cw_X9_heightsFit : Cond.code yX9_heightsFit cX9_heightsFit 5 (some .boolean) ∈ tb := tb_of 1330 (by decide +kernel) (by decide +kernel)
theorem mw_X9_heightsFit : MW yX9_heightsFit cX9_heightsFit 5 (some .boolean) 0 := ⟨cw_X9_heightsFit, ini_X9, by decide +kernel⟩
theorem im_X9_heightsFit : Cond.instanceMethod yX9_heightsFit ∈ tb := tb_of 1329 (by decide +kernel) (by decide +kernel)
theorem se_X9_heightsFit : Cond.selects (yX9_heightsFit).cls yX9_heightsFit yX9_heightsFit ∈ tb := tb_of 53 (by decide +kernel) (by decide +kernel)
theorem ml_X9_97 : Cond.methodLink RX9 97 yX9_heightsFit ∈ tb := tb_of 1327 (by decide +kernel) (by decide +kernel)
theorem cw_X6_find : Cond.code yX6_find cX6_find 6 none ∈ tb := tb_of 1375 (by decide +kernel) (by decide +kernel)
theorem mw_X6_find : MW yX6_find cX6_find 6 none 2 := ⟨cw_X6_find, ini_X6, by decide +kernel⟩
theorem im_X6_find : Cond.instanceMethod yX6_find ∈ tb := tb_of 1373 (by decide +kernel) (by decide +kernel)
theorem se_X6_find : Cond.selects (yX6_find).cls yX6_find yX6_find ∈ tb := tb_of 1374 (by decide +kernel) (by decide +kernel)
theorem ml_X9_100 : Cond.methodLink RX9 100 yX6_find ∈ tb := tb_of 1372 (by decide +kernel) (by decide +kernel)
theorem cw_X3_step : Cond.code yX3_step cX3_step 4 (some .int) ∈ tb := tb_of 1571 (by decide +kernel) (by decide +kernel)
theorem mw_X3_step : MW yX3_step cX3_step 4 (some .int) 3 := ⟨cw_X3_step, ini_X3, by decide +kernel⟩
theorem im_X3_step : Cond.instanceMethod yX3_step ∈ tb := tb_of 1570 (by decide +kernel) (by decide +kernel)
theorem se_X3_step : Cond.selects (yX3_step).cls yX3_step yX3_step ∈ tb := tb_of 70 (by decide +kernel) (by decide +kernel)
theorem ml_X3_74 : Cond.methodLink RX3 74 yX3_step ∈ tb := tb_of 1568 (by decide +kernel) (by decide +kernel)
theorem cw_X9_findLabels : Cond.code yX9_findLabels cX9_findLabels 3 none ∈ tb := tb_of 1409 (by decide +kernel) (by decide +kernel)
theorem mw_X9_findLabels : MW yX9_findLabels cX9_findLabels 3 none 0 := ⟨cw_X9_findLabels, ini_X9, by decide +kernel⟩
theorem im_X9_findLabels : Cond.instanceMethod yX9_findLabels ∈ tb := tb_of 1408 (by decide +kernel) (by decide +kernel)
theorem se_X9_findLabels : Cond.selects (yX9_findLabels).cls yX9_findLabels yX9_findLabels ∈ tb := tb_of 60 (by decide +kernel) (by decide +kernel)
theorem ml_X9_104 : Cond.methodLink RX9 104 yX9_findLabels ∈ tb := tb_of 1406 (by decide +kernel) (by decide +kernel)
theorem cw_X9_flowsFit : Cond.code yX9_flowsFit cX9_flowsFit 2 (some .boolean) ∈ tb := tb_of 1448 (by decide +kernel) (by decide +kernel)
theorem mw_X9_flowsFit : MW yX9_flowsFit cX9_flowsFit 2 (some .boolean) 0 := ⟨cw_X9_flowsFit, ini_X9, by decide +kernel⟩
theorem im_X9_flowsFit : Cond.instanceMethod yX9_flowsFit ∈ tb := tb_of 1447 (by decide +kernel) (by decide +kernel)
theorem se_X9_flowsFit : Cond.selects (yX9_flowsFit).cls yX9_flowsFit yX9_flowsFit ∈ tb := tb_of 68 (by decide +kernel) (by decide +kernel)
theorem ml_X9_107 : Cond.methodLink RX9 107 yX9_flowsFit ∈ tb := tb_of 1445 (by decide +kernel) (by decide +kernel)
theorem cw_X9_accepts : Cond.code yX9_accepts cX9_accepts 3 (some .boolean) ∈ tb := tb_of 1299 (by decide +kernel) (by decide +kernel)
theorem mw_X9_accepts : MW yX9_accepts cX9_accepts 3 (some .boolean) 2 := ⟨cw_X9_accepts, ini_X9, by decide +kernel⟩
theorem im_X9_accepts : Cond.instanceMethod yX9_accepts ∈ tb := tb_of 1297 (by decide +kernel) (by decide +kernel)
theorem se_X9_accepts : Cond.selects (yX9_accepts).cls yX9_accepts yX9_accepts ∈ tb := tb_of 1298 (by decide +kernel) (by decide +kernel)
theorem ml_X11_209 : Cond.methodLink RX11 209 yX9_accepts ∈ tb := tb_of 1296 (by decide +kernel) (by decide +kernel)
theorem cw_X9_heights : Cond.code yX9_heights cX9_heights 1 (some .int) ∈ tb := tb_of 1469 (by decide +kernel) (by decide +kernel)
theorem mw_X9_heights : MW yX9_heights cX9_heights 1 (some .int) 0 := ⟨cw_X9_heights, ini_X9, by decide +kernel⟩
theorem im_X9_heights : Cond.instanceMethod yX9_heights ∈ tb := tb_of 1467 (by decide +kernel) (by decide +kernel)
theorem se_X9_heights : Cond.selects (yX9_heights).cls yX9_heights yX9_heights ∈ tb := tb_of 1468 (by decide +kernel) (by decide +kernel)
theorem ml_X11_220 : Cond.methodLink RX11 220 yX9_heights ∈ tb := tb_of 1466 (by decide +kernel) (by decide +kernel)
theorem cw_X9_place : Cond.code yX9_place cX9_place 1 (some .int) ∈ tb := tb_of 1461 (by decide +kernel) (by decide +kernel)
theorem mw_X9_place : MW yX9_place cX9_place 1 (some .int) 0 := ⟨cw_X9_place, ini_X9, by decide +kernel⟩
theorem im_X9_place : Cond.instanceMethod yX9_place ∈ tb := tb_of 1459 (by decide +kernel) (by decide +kernel)
theorem se_X9_place : Cond.selects (yX9_place).cls yX9_place yX9_place ∈ tb := tb_of 1460 (by decide +kernel) (by decide +kernel)
theorem ml_X11_217 : Cond.methodLink RX11 217 yX9_place ∈ tb := tb_of 1458 (by decide +kernel) (by decide +kernel)
theorem cw_X9_kind : Cond.code yX9_kind cX9_kind 1 (some .int) ∈ tb := tb_of 1465 (by decide +kernel) (by decide +kernel)
theorem mw_X9_kind : MW yX9_kind cX9_kind 1 (some .int) 0 := ⟨cw_X9_kind, ini_X9, by decide +kernel⟩
theorem im_X9_kind : Cond.instanceMethod yX9_kind ∈ tb := tb_of 1463 (by decide +kernel) (by decide +kernel)
theorem se_X9_kind : Cond.selects (yX9_kind).cls yX9_kind yX9_kind ∈ tb := tb_of 1464 (by decide +kernel) (by decide +kernel)
theorem ml_X11_218 : Cond.methodLink RX11 218 yX9_kind ∈ tb := tb_of 1462 (by decide +kernel) (by decide +kernel)
theorem cw_X3_goOver : Cond.code yX3_goOver cX3_goOver 4 none ∈ tb := tb_of 1557 (by decide +kernel) (by decide +kernel)
theorem mw_X3_goOver : MW yX3_goOver cX3_goOver 4 none 1 := ⟨cw_X3_goOver, ini_X3, by decide +kernel⟩
theorem im_X3_goOver : Cond.instanceMethod yX3_goOver ∈ tb := tb_of 1555 (by decide +kernel) (by decide +kernel)
theorem se_X3_goOver : Cond.selects (yX3_goOver).cls yX3_goOver yX3_goOver ∈ tb := tb_of 1556 (by decide +kernel) (by decide +kernel)
theorem ml_X11_255 : Cond.methodLink RX11 255 yX3_goOver ∈ tb := tb_of 1554 (by decide +kernel) (by decide +kernel)
theorem cw_X3_ending : Cond.code yX3_ending cX3_ending 1 (some .int) ∈ tb := tb_of 1620 (by decide +kernel) (by decide +kernel)
theorem mw_X3_ending : MW yX3_ending cX3_ending 1 (some .int) 0 := ⟨cw_X3_ending, ini_X3, by decide +kernel⟩
theorem im_X3_ending : Cond.instanceMethod yX3_ending ∈ tb := tb_of 1618 (by decide +kernel) (by decide +kernel)
theorem se_X3_ending : Cond.selects (yX3_ending).cls yX3_ending yX3_ending ∈ tb := tb_of 1619 (by decide +kernel) (by decide +kernel)
theorem ml_X11_259 : Cond.methodLink RX11 259 yX3_ending ∈ tb := tb_of 1617 (by decide +kernel) (by decide +kernel)
theorem cw_X5_kindOf : Cond.code yX5_kindOf cX5_kindOf 3 (some .int) ∈ tb := tb_of 833 (by decide +kernel) (by decide +kernel)
theorem mw_X5_kindOf : MW yX5_kindOf cX5_kindOf 3 (some .int) 2 := ⟨cw_X5_kindOf, ini_X5, by decide +kernel⟩
theorem im_X5_kindOf : Cond.instanceMethod yX5_kindOf ∈ tb := tb_of 832 (by decide +kernel) (by decide +kernel)
theorem se_X5_kindOf : Cond.selects (yX5_kindOf).cls yX5_kindOf yX5_kindOf ∈ tb := tb_of 11 (by decide +kernel) (by decide +kernel)
theorem ml_X5_102 : Cond.methodLink RX5 102 yX5_kindOf ∈ tb := tb_of 830 (by decide +kernel) (by decide +kernel)
theorem cw_X5_numberAt : Cond.code yX5_numberAt cX5_numberAt 5 (some .int) ∈ tb := tb_of 958 (by decide +kernel) (by decide +kernel)
theorem mw_X5_numberAt : MW yX5_numberAt cX5_numberAt 5 (some .int) 2 := ⟨cw_X5_numberAt, ini_X5, by decide +kernel⟩
theorem im_X5_numberAt : Cond.instanceMethod yX5_numberAt ∈ tb := tb_of 957 (by decide +kernel) (by decide +kernel)
theorem se_X5_numberAt : Cond.selects (yX5_numberAt).cls yX5_numberAt yX5_numberAt ∈ tb := tb_of 14 (by decide +kernel) (by decide +kernel)
theorem ml_X5_106 : Cond.methodLink RX5 106 yX5_numberAt ∈ tb := tb_of 955 (by decide +kernel) (by decide +kernel)
theorem ml_X10_29 : Cond.methodLink RX10 29 yX3_finish ∈ tb := tb_of 1663 (by decide +kernel) (by decide +kernel)
theorem cw_X10_goOver : Cond.code yX10_goOver cX10_goOver 2 none ∈ tb := tb_of 1631 (by decide +kernel) (by decide +kernel)
theorem mw_X10_goOver : MW yX10_goOver cX10_goOver 2 none 1 := ⟨cw_X10_goOver, ini_X10, by decide +kernel⟩
theorem im_X10_goOver : Cond.instanceMethod yX10_goOver ∈ tb := tb_of 1629 (by decide +kernel) (by decide +kernel)
theorem se_X10_goOver : Cond.selects (yX10_goOver).cls yX10_goOver yX10_goOver ∈ tb := tb_of 1630 (by decide +kernel) (by decide +kernel)
theorem ml_X11_265 : Cond.methodLink RX11 265 yX10_goOver ∈ tb := tb_of 1628 (by decide +kernel) (by decide +kernel)
theorem cw_X5_addToken : Cond.code yX5_addToken cX5_addToken 4 none ∈ tb := tb_of 829 (by decide +kernel) (by decide +kernel)
theorem mw_X5_addToken : MW yX5_addToken cX5_addToken 4 none 2 := ⟨cw_X5_addToken, ini_X5, by decide +kernel⟩
theorem im_X5_addToken : Cond.instanceMethod yX5_addToken ∈ tb := tb_of 828 (by decide +kernel) (by decide +kernel)
theorem se_X5_addToken : Cond.selects (yX5_addToken).cls yX5_addToken yX5_addToken ∈ tb := tb_of 10 (by decide +kernel) (by decide +kernel)
theorem ml_X5_91 : Cond.methodLink RX5 91 yX5_addToken ∈ tb := tb_of 826 (by decide +kernel) (by decide +kernel)
theorem cw_X5_findTokens : Cond.code yX5_findTokens cX5_findTokens 4 none ∈ tb := tb_of 813 (by decide +kernel) (by decide +kernel)
theorem mw_X5_findTokens : MW yX5_findTokens cX5_findTokens 4 none 0 := ⟨cw_X5_findTokens, ini_X5, by decide +kernel⟩
theorem im_X5_findTokens : Cond.instanceMethod yX5_findTokens ∈ tb := tb_of 812 (by decide +kernel) (by decide +kernel)
theorem se_X5_findTokens : Cond.selects (yX5_findTokens).cls yX5_findTokens yX5_findTokens ∈ tb := tb_of 6 (by decide +kernel) (by decide +kernel)
theorem ml_X5_63 : Cond.methodLink RX5 63 yX5_findTokens ∈ tb := tb_of 810 (by decide +kernel) (by decide +kernel)
theorem cw_X5_readDeclaration : Cond.code yX5_readDeclaration cX5_readDeclaration 4 none ∈ tb := tb_of 967 (by decide +kernel) (by decide +kernel)
theorem mw_X5_readDeclaration : MW yX5_readDeclaration cX5_readDeclaration 4 none 0 := ⟨cw_X5_readDeclaration, ini_X5, by decide +kernel⟩
theorem im_X5_readDeclaration : Cond.instanceMethod yX5_readDeclaration ∈ tb := tb_of 966 (by decide +kernel) (by decide +kernel)
theorem se_X5_readDeclaration : Cond.selects (yX5_readDeclaration).cls yX5_readDeclaration yX5_readDeclaration ∈ tb := tb_of 16 (by decide +kernel) (by decide +kernel)
theorem ml_X5_73 : Cond.methodLink RX5 73 yX5_readDeclaration ∈ tb := tb_of 964 (by decide +kernel) (by decide +kernel)
theorem fl_X5_80 : Cond.fieldLink RX5 80 RX4 (TX4 0).2.1 (TX4 0).2.2.1 ∈ tb := tb_of 459 (by decide +kernel) (by decide +kernel)
def f_X3_goOver_b47 (N : Nat) (D : Dat) : Option (Dat) :=
  some D
set_option maxHeartbeats 4000000 in
theorem w_X3_goOver_b47 {X : Cx} {n nu c u : Nat} {K : Nat → Nat} {N : Nat} {z : Dat} (O : Ok X cX3_goOver RX3 none 4 90) (hm : wlm (xw X) = true) (hn : xn X = 4) (hz : Z0 X (Ax nu K c u)) (D : Dat) (h : f_X3_goOver_b47 N D = some z) : V X (Q0 X n (Ax nu K c u) none z) n (Ax nu K c u) D 47 [] [] := by
  unfold f_X3_goOver_b47 at h
  obtain rfl := Option.some.inj h
  exact v_ret (pc := 47) O hz dX3_goOver_47
def f_X3_goOver_b4 (N : Nat) : Nat → Option Nat → Int32 → Int32 → Dat → Option (Dat)
  | 0, _, _, _, _ => none
  | g + 1, x1, x2, x3, D => if 600 < x3 then (f_X3_goOver_b47 N D) else ((f_X3_goesOn D).bind (fun p2 => if p2.1 = 0 then (f_X3_goOver_b47 N p2.2) else ((f_X3_burns p2.2).bind (fun p5 => if p5.1 = 0 then (f_X3_goOver_b47 N p5.2) else ((x1).bind (fun a8 => if a8 = 201 ∨ a8 = 204 then ((f_X0_operation a8 x2 p5.2).bind (fun p11 => (f_X0_argument a8 x2 p11.2).bind (fun p13 => (f_X3_step p11.1 p13.1 x2 p13.2).bind (fun p15 => (f_X3_goOver_b4 N g) (some a8) p15.1 (x3 + 1) p15.2)))) else none))))))
set_option maxHeartbeats 4000000 in
theorem w_X3_goOver_b4 {X : Cx} {n nu c u : Nat} {K : Nat → Nat} {N : Nat} {z : Dat} (O : Ok X cX3_goOver RX3 none 4 90) (hm : wlm (xw X) = true) (hn : xn X = 4) (hz : Z0 X (Ax nu K c u)) : ∀ (g : Nat) (x1 : Option Nat) (x2 : Int32) (x3 : Int32) (D : Dat), f_X3_goOver_b4 N g x1 x2 x3 D = some z → V X (Q0 X n (Ax nu K c u) none z) n (Ax nu K c u) D 4 [(0, .ref (bo X + pp 181)), (1, rv (bo X) x1), (2, .int x2), (3, .int x3)] [] := by
  intro g
  induction g with
  | zero => intro x1 x2 x3 D h; exact absurd h (by simp [f_X3_goOver_b4])
  | succ g ih =>
    intro x1 x2 x3 D h
    rw [f_X3_goOver_b4] at h
    refine v_iload_n (pc := 4) O dX3_goOver_4 3 rfl ?_
    refine v_sipush (pc := 5) O dX3_goOver_5 sp_600 ?_
    refine v_icmpgt (pc := 8) 47 O dX3_goOver_8 (by decide) (fun c1 => ?_) (fun c1 => ?_)
    · have h := (if_pos c1).symm.trans h
      refine v_sub [] rfl ?_
      exact w_X3_goOver_b47 O hm hn hz D h
    · have h := (if_neg c1).symm.trans h
      refine v_aload_n (pc := 11) O dX3_goOver_11 0 rfl ?_
      obtain ⟨p2, e3, h⟩ := bind_some h
      refine v_callV (pc := 12) (a := 181) (As := []) (rest := []) (r := (some (.int p2.1))) (D' := p2.2) O (bb0 hz) (c_X3_goesOn hm e3) mw_X3_goesOn im_X3_goesOn se_X3_goesOn ml_X3_59 kq_181 (by decide) rfl rfl rfl (by decide) (by decide) (Nat.le_of_ble_eq_true rfl) dX3_goOver_12 rfl rfl ?_
      refine v_ifeq (pc := 15) 47 O dX3_goOver_15 (by decide) (fun c4 => ?_) (fun c4 => ?_)
      · have h := (if_pos c4).symm.trans h
        refine v_sub [] rfl ?_
        exact w_X3_goOver_b47 O hm hn hz p2.2 h
      · have h := (if_neg c4).symm.trans h
        refine v_aload_n (pc := 18) O dX3_goOver_18 0 rfl ?_
        obtain ⟨p5, e6, h⟩ := bind_some h
        refine v_callV (pc := 19) (a := 181) (As := []) (rest := []) (r := (some (.int p5.1))) (D' := p5.2) O (bb0 hz) (c_X3_burns hm e6) mw_X3_burns im_X3_burns se_X3_burns ml_X3_63 kq_181 (by decide) rfl rfl rfl (by decide) (by decide) (Nat.le_of_ble_eq_true rfl) dX3_goOver_19 rfl rfl ?_
        refine v_ifeq (pc := 22) 47 O dX3_goOver_22 (by decide) (fun c7 => ?_) (fun c7 => ?_)
        · have h := (if_pos c7).symm.trans h
          refine v_sub [] rfl ?_
          exact w_X3_goOver_b47 O hm hn hz p5.2 h
        · have h := (if_neg c7).symm.trans h
          refine v_aload_n (pc := 25) O dX3_goOver_25 0 rfl ?_
          refine v_aload_nr (pc := 26) O dX3_goOver_26 1 rfl ?_
          refine v_iload_n (pc := 27) O dX3_goOver_27 2 rfl ?_
          obtain ⟨a8, e9, h⟩ := bind_some h
          subst e9
          obtain ⟨c10, h⟩ := if_none h
          obtain ⟨p11, e12, h⟩ := bind_some h
          refine v_callV (pc := 28) (a := a8) (As := [.int x2]) (rest := [.ref (bo X + pp 181)]) (r := (some (.int p11.1))) (D' := p11.2) O (bb0 hz) (c_X0_operation hm c10 e12) mw_X0_operation im_X0_operation se_X0_operation ml_X3_66 (kt_X0 c10) (by decide) rfl rfl rfl (by decide) (by decide) (Nat.le_of_ble_eq_true rfl) dX3_goOver_28 rfl rfl ?_
          refine v_aload_n (pc := 31) O dX3_goOver_31 1 rfl ?_
          refine v_iload_n (pc := 32) O dX3_goOver_32 2 rfl ?_
          obtain ⟨p13, e14, h⟩ := bind_some h
          refine v_callV (pc := 33) (a := a8) (As := [.int x2]) (rest := [.int p11.1, .ref (bo X + pp 181)]) (r := (some (.int p13.1))) (D' := p13.2) O (bb0 hz) (c_X0_argument hm c10 e14) mw_X0_argument im_X0_argument se_X0_argument ml_X3_71 (kt_X0 c10) (by decide) rfl rfl rfl (by decide) (by decide) (Nat.le_of_ble_eq_true rfl) dX3_goOver_33 rfl rfl ?_
          refine v_iload_n (pc := 36) O dX3_goOver_36 2 rfl ?_
          obtain ⟨p15, e16, h⟩ := bind_some h
          refine v_callV (pc := 37) (a := 181) (As := [.int p11.1, .int p13.1, .int x2]) (rest := []) (r := (some (.int p15.1))) (D' := p15.2) O (bb0 hz) (c_X3_step hm e16) mw_X3_step im_X3_step se_X3_step ml_X3_74 kq_181 (by decide) rfl rfl rfl (by decide) (by decide) (Nat.le_of_ble_eq_true rfl) dX3_goOver_37 rfl rfl ?_
          refine v_istore_n (pc := 40) (lv' := [(2, .int p15.1), (0, .ref (bo X + pp 181)), (1, .ref (bo X + pp a8)), (3, .int x3)]) O dX3_goOver_40 rfl (by rw [hn]; decide) rfl ?_
          refine v_iinc (pc := 41) (lv' := [(3, .int (x3 + 1)), (2, .int p15.1), (0, .ref (bo X + pp 181)), (1, .ref (bo X + pp a8))]) O dX3_goOver_41 3 rfl (congrArg (fun q => x3 + q) ic_1) (by rw [hn]; decide) rfl ?_
          refine v_goto (pc := 44) 4 O dX3_goOver_44 (by decide) ?_
          refine v_sub [2, 3, 1, 0] rfl ?_
          exact ih (some a8) p15.1 (x3 + 1) p15.2 h
def f_X3_goOver (N : Nat) (x1 : Option Nat) (D : Dat) : Option (Dat) :=
  f_X3_goOver_b4 N N x1 0 0 D
set_option maxHeartbeats 4000000 in
theorem w_X3_goOver {X : Cx} {n nu c u : Nat} {K : Nat → Nat} {N : Nat} {z : Dat} (O : Ok X cX3_goOver RX3 none 4 90) (hm : wlm (xw X) = true) (hn : xn X = 4) (hz : Z0 X (Ax nu K c u)) (x1 : Option Nat) (D : Dat) (h : f_X3_goOver N x1 D = some z) : V X (Q0 X n (Ax nu K c u) none z) n (Ax nu K c u) D 0 [(0, .ref (bo X + pp 181)), (1, rv (bo X) x1)] [] := by
  unfold f_X3_goOver at h
  refine v_iconst (pc := 0) O dX3_goOver_0 ic_0 ?_
  refine v_istore_n (pc := 1) (lv' := [(2, .int 0), (0, .ref (bo X + pp 181)), (1, rv (bo X) x1)]) O dX3_goOver_1 rfl (by rw [hn]; decide) (by simp [rv_cat, cat_i, cat_l, cat_r, cat_n]) ?_
  refine v_iconst (pc := 2) O dX3_goOver_2 ic_0 ?_
  refine v_istore_n (pc := 3) (lv' := [(3, .int 0), (2, .int 0), (0, .ref (bo X + pp 181)), (1, rv (bo X) x1)]) O dX3_goOver_3 rfl (by rw [hn]; decide) rfl ?_
  refine v_sub [2, 3, 1, 0] rfl ?_
  exact w_X3_goOver_b4 O hm hn hz N x1 0 0 D h
theorem c_X3_goOver {l : Launch} {w : Wx} {n nu c u : Nat} {K : Nat → Nat} {N : Nat} (hm : wlm w = true) {x1 : Option Nat} {D : Dat} {z : Dat} (h : f_X3_goOver N x1 D = some z) : C0 l w yX3_goOver cX3_goOver 4 none 4 90 [.ref (wb w + pp 181), rv (wb w) x1] n (Ax nu K c u) D none z :=
  C0.of (by decide) (by simp [lg_sl, rv_cat, cat_i, cat_l, cat_r, cat_n, fmt_cat]) (fun X e1 e2 e3 hz O => by
  subst e1
  subst e2
  have q : lv_args 0 [.ref (bo X + pp 181), rv (bo X) x1] = [(0, .ref (bo X + pp 181)), (1, rv (bo X) x1)] := by simp [lv_args, rv_cat, cat_i, cat_l, cat_r, cat_n, fmt_cat]
  show V X _ n _ D 0 (lv_args 0 [.ref (bo X + pp 181), rv (bo X) x1]) []
  rw [q]
  exact w_X3_goOver O hm e3 hz x1 D h)
def f_X9_accepts_b36 (N : Nat) (nu : Nat) (K : Nat → Nat) (D : Dat) : Option (Int32 × Dat) :=
  some (0, D)
set_option maxHeartbeats 4000000 in
theorem w_X9_accepts_b36 {X : Cx} {n nu c u : Nat} {K : Nat → Nat} {N : Nat} {z : Int32 × Dat} (O : Ok X cX9_accepts RX9 (some .boolean) 6 137) (hm : wlm (xw X) = true) (hn : xn X = 3) (hz : Z0 X (Ax nu K c u)) (D : Dat) (h : f_X9_accepts_b36 N nu K D = some z) : V X (Q0 X n (Ax nu K c u) (some (.int z.1)) z.2) n (Ax nu K c u) D 36 [] [] := by
  unfold f_X9_accepts_b36 at h
  refine v_iconst (pc := 36) O dX9_accepts_36 ic_0 ?_
  obtain rfl := Option.some.inj h
  exact v_zret (pc := 37) O hz narrow_b0 dX9_accepts_37
def f_X9_accepts (N : Nat) (nu : Nat) (K : Nat → Nat) (x1 : Option Nat) (x2 : Nat) (D : Dat) : Option (Int32 × Dat) :=
  (f_X9_argumentsFit N (sI (sR (sR D 107 2 x1) 107 3 (some x2)) 107 10 0)).bind (fun p1 => if p1.1 = 0 then (f_X9_accepts_b36 N nu K p1.2) else ((f_X9_endFits p1.2).bind (fun p4 => if p4.1 = 0 then (f_X9_accepts_b36 N nu K p4.2) else ((f_X9_heightsFit N nu K p4.2).bind (fun p7 => if p7.1 = 0 then (f_X9_accepts_b36 N nu K p7.2) else ((f_X6_find N (dR p7.2 107 2) (dL p7.2 107 5) p7.2).bind (fun p10 => (f_X9_findLabels N nu K p10).bind (fun p12 => (f_X9_flowsFit N nu K (sI p12 107 10 1)).bind (fun p14 => if p14.1 &&& 1 = p14.1 then some (p14.1, p14.2) else none)))))))))
set_option maxHeartbeats 4000000 in
theorem w_X9_accepts {X : Cx} {n nu c u : Nat} {K : Nat → Nat} {N : Nat} {z : Int32 × Dat} (O : Ok X cX9_accepts RX9 (some .boolean) 6 137) (hm : wlm (xw X) = true) (hn : xn X = 3) (hz : Z0 X (Ax nu K c u)) (x1 : Option Nat) (x2 : Nat) (D : Dat) (h : f_X9_accepts N nu K x1 x2 D = some z) : V X (Q0 X n (Ax nu K c u) (some (.int z.1)) z.2) n (Ax nu K c u) D 0 [(0, .ref (bo X + pp 107)), (1, rv (bo X) x1), (2, .ref (bo X + pp x2))] [] := by
  unfold f_X9_accepts at h
  refine v_aload_n (pc := 0) O dX9_accepts_0 0 rfl ?_
  refine v_aload_nr (pc := 1) O dX9_accepts_1 1 rfl ?_
  refine v_putR (pc := 2) (a := 107) (r := x1) O pf_X9_2 rfl fl_X9_83 kq_107 dX9_accepts_2 ?_
  refine v_aload_n (pc := 5) O dX9_accepts_5 0 rfl ?_
  refine v_aload_n (pc := 6) O dX9_accepts_6 2 rfl ?_
  refine v_putR (pc := 7) (a := 107) (r := (some x2)) O pf_X9_3 rfl fl_X9_87 kq_107 dX9_accepts_7 ?_
  refine v_aload_n (pc := 10) O dX9_accepts_10 0 rfl ?_
  refine v_iconst (pc := 11) O dX9_accepts_11 ic_0 ?_
  refine v_putZ (pc := 12) (a := 107) O pf_X9_10 fl_X9_44 kq_107 narrow_b0 dX9_accepts_12 ?_
  refine v_aload_n (pc := 15) O dX9_accepts_15 0 rfl ?_
  obtain ⟨p1, e2, h⟩ := bind_some h
  refine v_callV (pc := 16) (a := 107) (As := []) (rest := []) (r := (some (.int p1.1))) (D' := p1.2) O (bb0 hz) (c_X9_argumentsFit hm e2) mw_X9_argumentsFit im_X9_argumentsFit se_X9_argumentsFit ml_X9_90 kq_107 (by decide) rfl rfl rfl (by decide) (by decide) (Nat.le_of_ble_eq_true rfl) dX9_accepts_16 rfl rfl ?_
  refine v_ifeq (pc := 19) 36 O dX9_accepts_19 (by decide) (fun c3 => ?_) (fun c3 => ?_)
  · have h := (if_pos c3).symm.trans h
    refine v_sub [] rfl ?_
    exact w_X9_accepts_b36 O hm hn hz p1.2 h
  · have h := (if_neg c3).symm.trans h
    refine v_aload_n (pc := 22) O dX9_accepts_22 0 rfl ?_
    obtain ⟨p4, e5, h⟩ := bind_some h
    refine v_callV (pc := 23) (a := 107) (As := []) (rest := []) (r := (some (.int p4.1))) (D' := p4.2) O (bb0 hz) (c_X9_endFits hm e5) mw_X9_endFits im_X9_endFits se_X9_endFits ml_X9_94 kq_107 (by decide) rfl rfl rfl (by decide) (by decide) (Nat.le_of_ble_eq_true rfl) dX9_accepts_23 rfl rfl ?_
    refine v_ifeq (pc := 26) 36 O dX9_accepts_26 (by decide) (fun c6 => ?_) (fun c6 => ?_)
    · have h := (if_pos c6).symm.trans h
      refine v_sub [] rfl ?_
      exact w_X9_accepts_b36 O hm hn hz p4.2 h
    · have h := (if_neg c6).symm.trans h
      refine v_aload_n (pc := 29) O dX9_accepts_29 0 rfl ?_
      obtain ⟨p7, e8, h⟩ := bind_some h
      refine v_callV (pc := 30) (a := 107) (As := []) (rest := []) (r := (some (.int p7.1))) (D' := p7.2) O (bb0 hz) (c_X9_heightsFit hm e8) mw_X9_heightsFit im_X9_heightsFit se_X9_heightsFit ml_X9_97 kq_107 (by decide) rfl rfl rfl (by decide) (by decide) (Nat.le_of_ble_eq_true rfl) dX9_accepts_30 rfl rfl ?_
      refine v_ifne (pc := 33) 38 O dX9_accepts_33 (by decide) (fun c9 => ?_) (fun c9 => ?_)
      · have h := (if_neg c9).symm.trans h
        refine v_aload_n (pc := 38) O dX9_accepts_38 0 rfl ?_
        refine v_getK (pc := 39) (a := 107) O hm gf_X9_1 fl_X9_14 kq_107 lk_107_1 dX9_accepts_39 ?_
        refine v_aload_n (pc := 42) O dX9_accepts_42 0 rfl ?_
        refine v_getR (pc := 43) (a := 107) O gf_X9_2 fl_X9_83 kq_107 dX9_accepts_43 ?_
        refine v_aload_n (pc := 46) O dX9_accepts_46 0 rfl ?_
        refine v_getL (pc := 47) (a := 107) O gf_X9_5 fl_X9_48 kq_107 dX9_accepts_47 ?_
        obtain ⟨p10, e11, h⟩ := bind_some h
        refine v_callV (pc := 50) (a := 108) (As := [rv (bo X) (dR p7.2 107 2), .long (dL p7.2 107 5)]) (rest := []) (r := none) (D' := p10) O (bb0 hz) (c_X6_find hm e11) mw_X6_find im_X6_find se_X6_find ml_X9_100 kq_108 (by decide) rfl rfl rfl (by decide) (by decide) (Nat.le_of_ble_eq_true rfl) dX9_accepts_50 rfl rfl ?_
        refine v_aload_n (pc := 53) O dX9_accepts_53 0 rfl ?_
        obtain ⟨p12, e13, h⟩ := bind_some h
        refine v_callV (pc := 54) (a := 107) (As := []) (rest := []) (r := none) (D' := p12) O (bb0 hz) (c_X9_findLabels hm e13) mw_X9_findLabels im_X9_findLabels se_X9_findLabels ml_X9_104 kq_107 (by decide) rfl rfl rfl (by decide) (by decide) (Nat.le_of_ble_eq_true rfl) dX9_accepts_54 rfl rfl ?_
        refine v_aload_n (pc := 57) O dX9_accepts_57 0 rfl ?_
        refine v_iconst (pc := 58) O dX9_accepts_58 ic_1 ?_
        refine v_putZ (pc := 59) (a := 107) O pf_X9_10 fl_X9_44 kq_107 narrow_b1 dX9_accepts_59 ?_
        refine v_aload_n (pc := 62) O dX9_accepts_62 0 rfl ?_
        obtain ⟨p14, e15, h⟩ := bind_some h
        refine v_callV (pc := 63) (a := 107) (As := []) (rest := []) (r := (some (.int p14.1))) (D' := p14.2) O (bb0 hz) (c_X9_flowsFit hm e15) mw_X9_flowsFit im_X9_flowsFit se_X9_flowsFit ml_X9_107 kq_107 (by decide) rfl rfl rfl (by decide) (by decide) (Nat.le_of_ble_eq_true rfl) dX9_accepts_63 rfl rfl ?_
        obtain ⟨c16, h⟩ := if_none h
        obtain rfl := Option.some.inj h
        exact v_zret (pc := 66) O hz (congrArg Value.int c16) dX9_accepts_66
      · have h := (if_pos c9).symm.trans h
        refine v_sub [] rfl ?_
        exact w_X9_accepts_b36 O hm hn hz p7.2 h
theorem c_X9_accepts {l : Launch} {w : Wx} {n nu c u : Nat} {K : Nat → Nat} {N : Nat} (hm : wlm w = true) {x1 : Option Nat} {x2 : Nat} {D : Dat} {z : Int32 × Dat} (h : f_X9_accepts N nu K x1 x2 D = some z) : C0 l w yX9_accepts cX9_accepts 3 (some .boolean) 6 137 [.ref (wb w + pp 107), rv (wb w) x1, .ref (wb w + pp x2)] n (Ax nu K c u) D (some (.int z.1)) z.2 :=
  C0.of (by decide) (by simp [lg_sl, rv_cat, cat_i, cat_l, cat_r, cat_n, fmt_cat]) (fun X e1 e2 e3 hz O => by
  subst e1
  subst e2
  have q : lv_args 0 [.ref (bo X + pp 107), rv (bo X) x1, .ref (bo X + pp x2)] = [(0, .ref (bo X + pp 107)), (1, rv (bo X) x1), (2, .ref (bo X + pp x2))] := by simp [lv_args, rv_cat, cat_i, cat_l, cat_r, cat_n, fmt_cat]
  show V X _ n _ D 0 (lv_args 0 [.ref (bo X + pp 107), rv (bo X) x1, .ref (bo X + pp x2)]) []
  rw [q]
  exact w_X9_accepts O hm e3 hz x1 x2 D h)
def f_X11_verify_b20 (N : Nat) (nu : Nat) (K : Nat → Nat) (D : Dat) : Option (Sum Nat Int32 × Dat) :=
  some (.inl 1, D)
set_option maxHeartbeats 4000000 in
theorem w_X11_verify_b20 {X : Cx} {n nu c u : Nat} {K : Nat → Nat} {N : Nat} {z : Sum Nat Int32 × Dat} (O : Ok X cX11_verify RX11 (some .int) 7 159) (hm : wlm (xw X) = true) (hn : xn X = 1) (hz : Z0 X (Ax nu K c u)) (hT : T1 X (zi z)) (D : Dat) (h : f_X11_verify_b20 N nu K D = some z) : V X (Q1 X n (Ax nu K c u) (zi z)) n (Ax nu K c u) D 20 [] [] := by
  unfold f_X11_verify_b20 at h
  obtain rfl := Option.some.inj h
  exact v_throw (pc := 20) (e := 1) O hz hT rfl tw_X11_121_123 (by decide) (Nat.le_of_ble_eq_true rfl) dX11_verify_20 dX11_verify_23 dX11_verify_24 dX11_verify_27
def f_X11_verify (N : Nat) (nu : Nat) (K : Nat → Nat) (D : Dat) : Option (Sum Nat Int32 × Dat) :=
  (f_X2_isSealed D).bind (fun p1 => if p1.1 = 0 then (f_X11_verify_b20 N nu K p1.2) else (((dR p1.2 0 10)).bind (fun a4 => if a4 = 201 ∨ a4 = 204 then ((f_X0_size a4 p1.2).bind (fun p7 => if p7.1 = 0 then (f_X11_verify_b20 N nu K p7.2) else ((f_X9_accepts N nu K (dR p7.2 0 10) 190 p7.2).bind (fun p10 => if p10.1 &&& 1 = p10.1 then (if (dI (sI p10.2 0 13 p10.1) 0 13) = 0 then ((f_X9_place (sI p10.2 0 13 p10.1)).bind (fun p18 => (f_X9_kind p18.2).bind (fun p20 => (f_X11_tell p18.1 p20.1 p20.2).bind (fun p22 => some (.inl 2, p22))))) else ((f_X11_tell (-1) (-1) (sI p10.2 0 13 p10.1)).bind (fun p14 => (f_X9_heights p14).bind (fun p16 => some (.inr p16.1, p16.2))))) else none)))) else none)))
set_option maxHeartbeats 4000000 in
theorem w_X11_verify {X : Cx} {n nu c u : Nat} {K : Nat → Nat} {N : Nat} {z : Sum Nat Int32 × Dat} (O : Ok X cX11_verify RX11 (some .int) 7 159) (hm : wlm (xw X) = true) (hn : xn X = 1) (hz : Z0 X (Ax nu K c u)) (hT : T1 X (zi z)) (D : Dat) (h : f_X11_verify N nu K D = some z) : V X (Q1 X n (Ax nu K c u) (zi z)) n (Ax nu K c u) D 0 [(0, .ref (bo X + pp 0))] [] := by
  unfold f_X11_verify at h
  refine v_aload_n (pc := 0) O dX11_verify_0 0 rfl ?_
  refine v_getK (pc := 1) (a := 0) O hm gf_X11_0 fl_X11_23 kq_0 lk_0_0 dX11_verify_1 ?_
  obtain ⟨p1, e2, h⟩ := bind_some h
  refine v_callV (pc := 4) (a := 1) (As := []) (rest := []) (r := (some (.int p1.1))) (D' := p1.2) O (bb0 hz) (c_X2_isSealed hm e2) mw_X2_isSealed im_X2_isSealed se_X2_isSealed ml_X11_117 kq_1 (by decide) rfl rfl rfl (by decide) (by decide) (Nat.le_of_ble_eq_true rfl) dX11_verify_4 rfl rfl ?_
  refine v_ifeq (pc := 7) 20 O dX11_verify_7 (by decide) (fun c3 => ?_) (fun c3 => ?_)
  · have h := (if_pos c3).symm.trans h
    refine v_sub [] rfl ?_
    exact w_X11_verify_b20 O hm hn hz hT p1.2 h
  · have h := (if_neg c3).symm.trans h
    refine v_aload_n (pc := 10) O dX11_verify_10 0 rfl ?_
    refine v_getR (pc := 11) (a := 0) O gf_X11_10 fl_X11_96 kq_0 dX11_verify_11 ?_
    obtain ⟨a4, e5, h⟩ := bind_some h
    rw [e5]
    obtain ⟨c6, h⟩ := if_none h
    obtain ⟨p7, e8, h⟩ := bind_some h
    refine v_callV (pc := 14) (a := a4) (As := []) (rest := []) (r := (some (.int p7.1))) (D' := p7.2) O (bb0 hz) (c_X0_size hm c6 e8) mw_X0_size im_X0_size se_X0_size ml_X11_197 (kt_X0 c6) (by decide) rfl rfl rfl (by decide) (by decide) (Nat.le_of_ble_eq_true rfl) dX11_verify_14 rfl rfl ?_
    refine v_ifne (pc := 17) 28 O dX11_verify_17 (by decide) (fun c9 => ?_) (fun c9 => ?_)
    · have h := (if_neg c9).symm.trans h
      refine v_aload_n (pc := 28) O dX11_verify_28 0 rfl ?_
      refine v_aload_n (pc := 29) O dX11_verify_29 0 rfl ?_
      refine v_getK (pc := 30) (a := 0) O hm gf_X11_4 fl_X11_53 kq_0 lk_0_4 dX11_verify_30 ?_
      refine v_aload_n (pc := 33) O dX11_verify_33 0 rfl ?_
      refine v_getR (pc := 34) (a := 0) O gf_X11_10 fl_X11_96 kq_0 dX11_verify_34 ?_
      refine v_aload_n (pc := 37) O dX11_verify_37 0 rfl ?_
      refine v_getK (pc := 38) (a := 0) O hm gf_X11_7 fl_X11_73 kq_0 lk_0_7 dX11_verify_38 ?_
      obtain ⟨p10, e11, h⟩ := bind_some h
      refine v_callV (pc := 41) (a := 107) (As := [rv (bo X) (dR p7.2 0 10), .ref (bo X + pp 190)]) (rest := [.ref (bo X + pp 0)]) (r := (some (.int p10.1))) (D' := p10.2) O (bb0 hz) (c_X9_accepts hm e11) mw_X9_accepts im_X9_accepts se_X9_accepts ml_X11_209 kq_107 (by decide) rfl rfl rfl (by decide) (by decide) (Nat.le_of_ble_eq_true rfl) dX11_verify_41 rfl rfl ?_
      obtain ⟨c12, h⟩ := if_none h
      refine v_putZ (pc := 44) (a := 0) O pf_X11_13 fl_X11_213 kq_0 (congrArg Value.int c12) dX11_verify_44 ?_
      refine v_aload_n (pc := 47) O dX11_verify_47 0 rfl ?_
      refine v_getI (pc := 48) (a := 0) O gf_X11_13 fl_X11_213 kq_0 dX11_verify_48 ?_
      refine v_ifne (pc := 51) 80 O dX11_verify_51 (by decide) (fun c13 => ?_) (fun c13 => ?_)
      · have h := (if_neg c13).symm.trans h
        refine v_aload_n (pc := 80) O dX11_verify_80 0 rfl ?_
        refine v_iconst (pc := 81) O dX11_verify_81 ic_m1 ?_
        refine v_iconst (pc := 82) O dX11_verify_82 ic_m1 ?_
        obtain ⟨p14, e15, h⟩ := bind_some h
        refine v_callV (pc := 83) (a := 0) (As := [.int (-1), .int (-1)]) (rest := []) (r := none) (D' := p14) O (bb0 hz) (c_X11_tell hm e15) mw_X11_tell im_X11_tell se_X11_tell ml_X11_135 kq_0 (by decide) rfl rfl rfl (by decide) (by decide) (Nat.le_of_ble_eq_true rfl) dX11_verify_83 rfl rfl ?_
        refine v_aload_n (pc := 86) O dX11_verify_86 0 rfl ?_
        refine v_getK (pc := 87) (a := 0) O hm gf_X11_4 fl_X11_53 kq_0 lk_0_4 dX11_verify_87 ?_
        obtain ⟨p16, e17, h⟩ := bind_some h
        refine v_callV (pc := 90) (a := 107) (As := []) (rest := []) (r := (some (.int p16.1))) (D' := p16.2) O (bb0 hz) (c_X9_heights hm e17) mw_X9_heights im_X9_heights se_X9_heights ml_X11_220 kq_107 (by decide) rfl rfl rfl (by decide) (by decide) (Nat.le_of_ble_eq_true rfl) dX11_verify_90 rfl rfl ?_
        obtain rfl := Option.some.inj h
        exact v_r1 (v_iret (pc := 93) O hz dX11_verify_93)
      · have h := (if_pos c13).symm.trans h
        refine v_aload_n (pc := 54) O dX11_verify_54 0 rfl ?_
        refine v_aload_n (pc := 55) O dX11_verify_55 0 rfl ?_
        refine v_getK (pc := 56) (a := 0) O hm gf_X11_4 fl_X11_53 kq_0 lk_0_4 dX11_verify_56 ?_
        obtain ⟨p18, e19, h⟩ := bind_some h
        refine v_callV (pc := 59) (a := 107) (As := []) (rest := [.ref (bo X + pp 0)]) (r := (some (.int p18.1))) (D' := p18.2) O (bb0 hz) (c_X9_place hm e19) mw_X9_place im_X9_place se_X9_place ml_X11_217 kq_107 (by decide) rfl rfl rfl (by decide) (by decide) (Nat.le_of_ble_eq_true rfl) dX11_verify_59 rfl rfl ?_
        refine v_aload_n (pc := 62) O dX11_verify_62 0 rfl ?_
        refine v_getK (pc := 63) (a := 0) O hm gf_X11_4 fl_X11_53 kq_0 lk_0_4 dX11_verify_63 ?_
        obtain ⟨p20, e21, h⟩ := bind_some h
        refine v_callV (pc := 66) (a := 107) (As := []) (rest := [.int p18.1, .ref (bo X + pp 0)]) (r := (some (.int p20.1))) (D' := p20.2) O (bb0 hz) (c_X9_kind hm e21) mw_X9_kind im_X9_kind se_X9_kind ml_X11_218 kq_107 (by decide) rfl rfl rfl (by decide) (by decide) (Nat.le_of_ble_eq_true rfl) dX11_verify_66 rfl rfl ?_
        obtain ⟨p22, e23, h⟩ := bind_some h
        refine v_callV (pc := 69) (a := 0) (As := [.int p18.1, .int p20.1]) (rest := []) (r := none) (D' := p22) O (bb0 hz) (c_X11_tell hm e23) mw_X11_tell im_X11_tell se_X11_tell ml_X11_135 kq_0 (by decide) rfl rfl rfl (by decide) (by decide) (Nat.le_of_ble_eq_true rfl) dX11_verify_69 rfl rfl ?_
        obtain rfl := Option.some.inj h
        exact v_throw (pc := 72) (e := 2) O hz hT rfl tw_X11_138_140 (by decide) (Nat.le_of_ble_eq_true rfl) dX11_verify_72 dX11_verify_75 dX11_verify_76 dX11_verify_79
    · have h := (if_pos c9).symm.trans h
      refine v_sub [] rfl ?_
      exact w_X11_verify_b20 O hm hn hz hT p7.2 h
theorem c_X11_verify {l : Launch} {w : Wx} {n nu c u : Nat} {K : Nat → Nat} {N : Nat} (hl : l.stackTraces = false) (hm : wlm w = true) {D : Dat} {z : Sum Nat Int32 × Dat} (h : f_X11_verify N nu K D = some z) : C1 l w yX11_verify cX11_verify 1 (some .int) 7 159 [.ref (wb w + pp 0)] n (Ax nu K c u) D (zi z) :=
  C1.of hl (by decide) (Nat.le_of_ble_eq_true rfl) (fun X e1 e2 e3 hz hT O => by
  subst e1
  subst e2
  exact w_X11_verify O hm e3 hz hT  D h)
def f_X11_run_b12 (N : Nat) (nu : Nat) (K : Nat → Nat) (D : Dat) : Option (Sum Nat Int32 × Dat) :=
  some (.inl 0, D)
set_option maxHeartbeats 4000000 in
theorem w_X11_run_b12 {X : Cx} {n nu c u : Nat} {K : Nat → Nat} {N : Nat} {z : Sum Nat Int32 × Dat} (O : Ok X cX11_run RX11 (some .int) 6 113) (hm : wlm (xw X) = true) (hn : xn X = 2) (hz : Z0 X (Ax nu K c u)) (hT : T1 X (zi z)) (D : Dat) (h : f_X11_run_b12 N nu K D = some z) : V X (Q1 X n (Ax nu K c u) (zi z)) n (Ax nu K c u) D 12 [] [] := by
  unfold f_X11_run_b12 at h
  obtain rfl := Option.some.inj h
  exact v_throw (pc := 12) (e := 0) O hz hT rfl tw_X11_114_116 (by decide) (Nat.le_of_ble_eq_true rfl) dX11_run_12 dX11_run_15 dX11_run_16 dX11_run_19
def f_X11_run (N : Nat) (nu : Nat) (K : Nat → Nat) (x1 : Int32) (D : Dat) : Option (Sum Nat Int32 × Dat) :=
  if x1 < 1 then (f_X11_run_b12 N nu K D) else (if x1 ≤ 600 then (if (dI D 0 13) = 0 then (some (.inl 2, D)) else ((f_X3_start N nu K x1 D).bind (fun p4 => (f_X3_goOver N (dR p4 0 10) p4).bind (fun p6 => (f_X3_ending p6).bind (fun p8 => some (.inr p8.1, p8.2)))))) else (f_X11_run_b12 N nu K D))
set_option maxHeartbeats 4000000 in
theorem w_X11_run {X : Cx} {n nu c u : Nat} {K : Nat → Nat} {N : Nat} {z : Sum Nat Int32 × Dat} (O : Ok X cX11_run RX11 (some .int) 6 113) (hm : wlm (xw X) = true) (hn : xn X = 2) (hz : Z0 X (Ax nu K c u)) (hT : T1 X (zi z)) (x1 : Int32) (D : Dat) (h : f_X11_run N nu K x1 D = some z) : V X (Q1 X n (Ax nu K c u) (zi z)) n (Ax nu K c u) D 0 [(0, .ref (bo X + pp 0)), (1, .int x1)] [] := by
  unfold f_X11_run at h
  refine v_iload_n (pc := 0) O dX11_run_0 1 rfl ?_
  refine v_iconst (pc := 1) O dX11_run_1 ic_1 ?_
  refine v_icmplt (pc := 2) 12 O dX11_run_2 (by decide) (fun c1 => ?_) (fun c1 => ?_)
  · have h := (if_pos c1).symm.trans h
    refine v_sub [] rfl ?_
    exact w_X11_run_b12 O hm hn hz hT D h
  · have h := (if_neg c1).symm.trans h
    refine v_iload_n (pc := 5) O dX11_run_5 1 rfl ?_
    refine v_sipush (pc := 6) O dX11_run_6 sp_600 ?_
    refine v_icmple (pc := 9) 20 O dX11_run_9 (by decide) (fun c2 => ?_) (fun c2 => ?_)
    · have h := (if_pos c2).symm.trans h
      refine v_aload_n (pc := 20) O dX11_run_20 0 rfl ?_
      refine v_getI (pc := 21) (a := 0) O gf_X11_13 fl_X11_213 kq_0 dX11_run_21 ?_
      refine v_ifne (pc := 24) 35 O dX11_run_24 (by decide) (fun c3 => ?_) (fun c3 => ?_)
      · have h := (if_neg c3).symm.trans h
        refine v_aload_n (pc := 35) O dX11_run_35 0 rfl ?_
        refine v_getK (pc := 36) (a := 0) O hm gf_X11_5 fl_X11_60 kq_0 lk_0_5 dX11_run_36 ?_
        refine v_iload_n (pc := 39) O dX11_run_39 1 rfl ?_
        obtain ⟨p4, e5, h⟩ := bind_some h
        refine v_callV (pc := 40) (a := 181) (As := [.int x1]) (rest := []) (r := none) (D' := p4) O (bb0 hz) (c_X3_start hm e5) mw_X3_start im_X3_start se_X3_start ml_X11_252 kq_181 (by decide) rfl rfl rfl (by decide) (by decide) (Nat.le_of_ble_eq_true rfl) dX11_run_40 rfl rfl ?_
        refine v_aload_n (pc := 43) O dX11_run_43 0 rfl ?_
        refine v_getK (pc := 44) (a := 0) O hm gf_X11_5 fl_X11_60 kq_0 lk_0_5 dX11_run_44 ?_
        refine v_aload_n (pc := 47) O dX11_run_47 0 rfl ?_
        refine v_getR (pc := 48) (a := 0) O gf_X11_10 fl_X11_96 kq_0 dX11_run_48 ?_
        obtain ⟨p6, e7, h⟩ := bind_some h
        refine v_callV (pc := 51) (a := 181) (As := [rv (bo X) (dR p4 0 10)]) (rest := []) (r := none) (D' := p6) O (bb0 hz) (c_X3_goOver hm e7) mw_X3_goOver im_X3_goOver se_X3_goOver ml_X11_255 kq_181 (by decide) rfl rfl rfl (by decide) (by decide) (Nat.le_of_ble_eq_true rfl) dX11_run_51 rfl rfl ?_
        refine v_aload_n (pc := 54) O dX11_run_54 0 rfl ?_
        refine v_getK (pc := 55) (a := 0) O hm gf_X11_5 fl_X11_60 kq_0 lk_0_5 dX11_run_55 ?_
        obtain ⟨p8, e9, h⟩ := bind_some h
        refine v_callV (pc := 58) (a := 181) (As := []) (rest := []) (r := (some (.int p8.1))) (D' := p8.2) O (bb0 hz) (c_X3_ending hm e9) mw_X3_ending im_X3_ending se_X3_ending ml_X11_259 kq_181 (by decide) rfl rfl rfl (by decide) (by decide) (Nat.le_of_ble_eq_true rfl) dX11_run_58 rfl rfl ?_
        obtain rfl := Option.some.inj h
        exact v_r1 (v_iret (pc := 61) O hz dX11_run_61)
      · have h := (if_pos c3).symm.trans h
        obtain rfl := Option.some.inj h
        exact v_throw (pc := 27) (e := 2) O hz hT rfl tw_X11_138_140 (by decide) (Nat.le_of_ble_eq_true rfl) dX11_run_27 dX11_run_30 dX11_run_31 dX11_run_34
    · have h := (if_neg c2).symm.trans h
      refine v_sub [] rfl ?_
      exact w_X11_run_b12 O hm hn hz hT D h
theorem c_X11_run {l : Launch} {w : Wx} {n nu c u : Nat} {K : Nat → Nat} {N : Nat} (hl : l.stackTraces = false) (hm : wlm w = true) {x1 : Int32} {D : Dat} {z : Sum Nat Int32 × Dat} (h : f_X11_run N nu K x1 D = some z) : C1 l w yX11_run cX11_run 2 (some .int) 6 113 [.ref (wb w + pp 0), .int x1] n (Ax nu K c u) D (zi z) :=
  C1.of hl (by decide) (Nat.le_of_ble_eq_true rfl) (fun X e1 e2 e3 hz hT O => by
  subst e1
  subst e2
  exact w_X11_run O hm e3 hz hT x1 D h)
def f_X5_addToken_b78 (N : Nat) (s0 : Int32) (s1 : Int32) (D : Dat) : Option (Dat) :=
  if s1 < 0 ∨ 241 ≤ (s1).toNatClampNeg then none else (some (sI (sI D 265 (s1).toNatClampNeg s0) 3 13 ((dI (sI D 265 (s1).toNatClampNeg s0) 3 13) + (1 : Int32))))
set_option maxHeartbeats 4000000 in
theorem w_X5_addToken_b78 {X : Cx} {n nu c u : Nat} {K : Nat → Nat} {N : Nat} {z : Dat} (O : Ok X cX5_addToken RX5 none 7 154) (hm : wlm (xw X) = true) (hn : xn X = 4) (hz : Z0 X (Ax nu K c u)) (s0 : Int32) (s1 : Int32) (D : Dat) (h : f_X5_addToken_b78 N s0 s1 D = some z) : V X (Q0 X n (Ax nu K c u) none z) n (Ax nu K c u) D 78 [(0, .ref (bo X + pp 3))] [.int s0, .int s1, .ref (bo X + pp 265)] := by
  unfold f_X5_addToken_b78 at h
  obtain ⟨c1, h⟩ := or_none h
  refine v_iast (pc := 78) (a := 265) O kq_265 (inq lq_265 c1) dX5_addToken_78 ?_
  refine v_aload_n (pc := 79) O dX5_addToken_79 0 rfl ?_
  refine v_dup (pc := 80) O dX5_addToken_80 rfl ?_
  refine v_getI (pc := 81) (a := 3) O gf_X5_13 fl_X5_84 kq_3 dX5_addToken_81 ?_
  refine v_iconst (pc := 84) O dX5_addToken_84 ic_1 ?_
  refine v_iadd (pc := 85) O dX5_addToken_85 ?_
  refine v_putI (pc := 86) (a := 3) O pf_X5_13 fl_X5_84 kq_3 dX5_addToken_86 ?_
  obtain rfl := Option.some.inj h
  exact v_ret (pc := 89) O hz dX5_addToken_89
def f_X5_addToken (N : Nat) (x1 : Int32) (x2 : Int32) (D : Dat) : Option (Dat) :=
  if (dI D 3 13) < 240 then ((f_X5_kindOf N x1 x2 D).bind (fun p3 => if (dI p3.2 3 13) < 0 ∨ 241 ≤ ((dI p3.2 3 13)).toNatClampNeg then none else (if (dI (sI p3.2 263 (dI p3.2 3 13).toNatClampNeg p3.1) 3 13) < 0 ∨ 241 ≤ ((dI (sI p3.2 263 (dI p3.2 3 13).toNatClampNeg p3.1) 3 13)).toNatClampNeg then none else (if p3.1 = 1 then (if x1 < 0 ∨ 240 ≤ (x1).toNatClampNeg then none else (f_X5_addToken_b78 N ((dI (sI (sI p3.2 263 (dI p3.2 3 13).toNatClampNeg p3.1) 264 (dI (sI p3.2 263 (dI p3.2 3 13).toNatClampNeg p3.1) 3 13).toNatClampNeg x1) 4 (x1).toNatClampNeg) - (97 : Int32)) (dI (sI (sI p3.2 263 (dI p3.2 3 13).toNatClampNeg p3.1) 264 (dI (sI p3.2 263 (dI p3.2 3 13).toNatClampNeg p3.1) 3 13).toNatClampNeg x1) 3 13) (sI (sI p3.2 263 (dI p3.2 3 13).toNatClampNeg p3.1) 264 (dI (sI p3.2 263 (dI p3.2 3 13).toNatClampNeg p3.1) 3 13).toNatClampNeg x1))) else (if p3.1 = 2 then ((f_X5_numberAt N x1 x2 (sI (sI p3.2 263 (dI p3.2 3 13).toNatClampNeg p3.1) 264 (dI (sI p3.2 263 (dI p3.2 3 13).toNatClampNeg p3.1) 3 13).toNatClampNeg x1)).bind (fun p9 => f_X5_addToken_b78 N p9.1 (dI (sI (sI p3.2 263 (dI p3.2 3 13).toNatClampNeg p3.1) 264 (dI (sI p3.2 263 (dI p3.2 3 13).toNatClampNeg p3.1) 3 13).toNatClampNeg x1) 3 13) p9.2)) else (f_X5_addToken_b78 N (-1) (dI (sI (sI p3.2 263 (dI p3.2 3 13).toNatClampNeg p3.1) 264 (dI (sI p3.2 263 (dI p3.2 3 13).toNatClampNeg p3.1) 3 13).toNatClampNeg x1) 3 13) (sI (sI p3.2 263 (dI p3.2 3 13).toNatClampNeg p3.1) 264 (dI (sI p3.2 263 (dI p3.2 3 13).toNatClampNeg p3.1) 3 13).toNatClampNeg x1))))))) else (some D)
set_option maxHeartbeats 4000000 in
theorem w_X5_addToken {X : Cx} {n nu c u : Nat} {K : Nat → Nat} {N : Nat} {z : Dat} (O : Ok X cX5_addToken RX5 none 7 154) (hm : wlm (xw X) = true) (hn : xn X = 4) (hz : Z0 X (Ax nu K c u)) (x1 : Int32) (x2 : Int32) (D : Dat) (h : f_X5_addToken N x1 x2 D = some z) : V X (Q0 X n (Ax nu K c u) none z) n (Ax nu K c u) D 0 [(0, .ref (bo X + pp 3)), (1, .int x1), (2, .int x2)] [] := by
  unfold f_X5_addToken at h
  refine v_aload_n (pc := 0) O dX5_addToken_0 0 rfl ?_
  refine v_getI (pc := 1) (a := 3) O gf_X5_13 fl_X5_84 kq_3 dX5_addToken_1 ?_
  refine v_sipush (pc := 4) O dX5_addToken_4 sp_240 ?_
  refine v_icmplt (pc := 7) 11 O dX5_addToken_7 (by decide) (fun c2 => ?_) (fun c2 => ?_)
  · have h := (if_pos c2).symm.trans h
    refine v_aload_n (pc := 11) O dX5_addToken_11 0 rfl ?_
    refine v_iload_n (pc := 12) O dX5_addToken_12 1 rfl ?_
    refine v_iload_n (pc := 13) O dX5_addToken_13 2 rfl ?_
    obtain ⟨p3, e4, h⟩ := bind_some h
    refine v_callV (pc := 14) (a := 3) (As := [.int x1, .int x2]) (rest := []) (r := (some (.int p3.1))) (D' := p3.2) O (bb0 hz) (c_X5_kindOf hm e4) mw_X5_kindOf im_X5_kindOf se_X5_kindOf ml_X5_102 kq_3 (by decide) rfl rfl rfl (by decide) (by decide) (Nat.le_of_ble_eq_true rfl) dX5_addToken_14 rfl rfl ?_
    refine v_istore_n (pc := 17) (lv' := [(3, .int p3.1), (0, .ref (bo X + pp 3)), (1, .int x1), (2, .int x2)]) O dX5_addToken_17 rfl (by rw [hn]; decide) rfl ?_
    refine v_aload_n (pc := 18) O dX5_addToken_18 1 rfl ?_
    refine v_getK (pc := 19) (a := 3) O hm gf_X5_10 fl_X5_15 kq_3 lk_3_10 dX5_addToken_19 ?_
    refine v_aload_n (pc := 22) O dX5_addToken_22 1 rfl ?_
    refine v_getI (pc := 23) (a := 3) O gf_X5_13 fl_X5_84 kq_3 dX5_addToken_23 ?_
    refine v_iload_n (pc := 26) O dX5_addToken_26 0 rfl ?_
    obtain ⟨c5, h⟩ := or_none h
    refine v_iast (pc := 27) (a := 263) O kq_263 (inq lq_263 c5) dX5_addToken_27 ?_
    refine v_aload_n (pc := 28) O dX5_addToken_28 1 rfl ?_
    refine v_getK (pc := 29) (a := 3) O hm gf_X5_11 fl_X5_19 kq_3 lk_3_11 dX5_addToken_29 ?_
    refine v_aload_n (pc := 32) O dX5_addToken_32 1 rfl ?_
    refine v_getI (pc := 33) (a := 3) O gf_X5_13 fl_X5_84 kq_3 dX5_addToken_33 ?_
    refine v_iload_n (pc := 36) O dX5_addToken_36 2 rfl ?_
    obtain ⟨c6, h⟩ := or_none h
    refine v_iast (pc := 37) (a := 264) O kq_264 (inq lq_264 c6) dX5_addToken_37 ?_
    refine v_aload_n (pc := 38) O dX5_addToken_38 1 rfl ?_
    refine v_getK (pc := 39) (a := 3) O hm gf_X5_12 fl_X5_22 kq_3 lk_3_12 dX5_addToken_39 ?_
    refine v_aload_n (pc := 42) O dX5_addToken_42 1 rfl ?_
    refine v_getI (pc := 43) (a := 3) O gf_X5_13 fl_X5_84 kq_3 dX5_addToken_43 ?_
    refine v_iload_n (pc := 46) O dX5_addToken_46 0 rfl ?_
    refine v_iconst (pc := 47) O dX5_addToken_47 ic_1 ?_
    refine v_icmpne (pc := 48) 63 O dX5_addToken_48 (by decide) (fun c7 => ?_) (fun c7 => ?_)
    · have h := (if_neg c7).symm.trans h
      refine v_iload_n (pc := 63) O dX5_addToken_63 0 rfl ?_
      refine v_iconst (pc := 64) O dX5_addToken_64 ic_2 ?_
      refine v_icmpne (pc := 65) 77 O dX5_addToken_65 (by decide) (fun c8 => ?_) (fun c8 => ?_)
      · have h := (if_neg c8).symm.trans h
        refine v_iconst (pc := 77) O dX5_addToken_77 ic_m1 ?_
        refine v_sub [1] rfl ?_
        exact w_X5_addToken_b78 O hm hn hz (-1) (dI (sI (sI p3.2 263 (dI p3.2 3 13).toNatClampNeg p3.1) 264 (dI (sI p3.2 263 (dI p3.2 3 13).toNatClampNeg p3.1) 3 13).toNatClampNeg x1) 3 13) (sI (sI p3.2 263 (dI p3.2 3 13).toNatClampNeg p3.1) 264 (dI (sI p3.2 263 (dI p3.2 3 13).toNatClampNeg p3.1) 3 13).toNatClampNeg x1) h
      · have h := (if_pos c8).symm.trans h
        refine v_aload_n (pc := 68) O dX5_addToken_68 1 rfl ?_
        refine v_iload_n (pc := 69) O dX5_addToken_69 2 rfl ?_
        refine v_iload_n (pc := 70) O dX5_addToken_70 3 rfl ?_
        obtain ⟨p9, e10, h⟩ := bind_some h
        refine v_callV (pc := 71) (a := 3) (As := [.int x1, .int x2]) (rest := [.int (dI (sI (sI p3.2 263 (dI p3.2 3 13).toNatClampNeg p3.1) 264 (dI (sI p3.2 263 (dI p3.2 3 13).toNatClampNeg p3.1) 3 13).toNatClampNeg x1) 3 13), .ref (bo X + pp 265)]) (r := (some (.int p9.1))) (D' := p9.2) O (bb0 hz) (c_X5_numberAt hm e10) mw_X5_numberAt im_X5_numberAt se_X5_numberAt ml_X5_106 kq_3 (by decide) rfl rfl rfl (by decide) (by decide) (Nat.le_of_ble_eq_true rfl) dX5_addToken_71 rfl rfl ?_
        refine v_goto (pc := 74) 78 O dX5_addToken_74 (by decide) ?_
        refine v_sub [1] rfl ?_
        exact w_X5_addToken_b78 O hm hn hz p9.1 (dI (sI (sI p3.2 263 (dI p3.2 3 13).toNatClampNeg p3.1) 264 (dI (sI p3.2 263 (dI p3.2 3 13).toNatClampNeg p3.1) 3 13).toNatClampNeg x1) 3 13) p9.2 h
    · have h := (if_pos c7).symm.trans h
      refine v_aload_n (pc := 51) O dX5_addToken_51 1 rfl ?_
      refine v_getK (pc := 52) (a := 3) O hm gf_X5_1 fl_X5_9 kq_3 lk_3_1 dX5_addToken_52 ?_
      refine v_iload_n (pc := 55) O dX5_addToken_55 2 rfl ?_
      obtain ⟨c11, h⟩ := or_none h
      refine v_cald (pc := 56) (a := 4) O kq_4 (inq lq_4 c11) dX5_addToken_56 ?_
      refine v_bipush (pc := 57) O dX5_addToken_57 bp_97 ?_
      refine v_isub (pc := 59) O dX5_addToken_59 ?_
      refine v_goto (pc := 60) 78 O dX5_addToken_60 (by decide) ?_
      refine v_sub [1] rfl ?_
      exact w_X5_addToken_b78 O hm hn hz ((dI (sI (sI p3.2 263 (dI p3.2 3 13).toNatClampNeg p3.1) 264 (dI (sI p3.2 263 (dI p3.2 3 13).toNatClampNeg p3.1) 3 13).toNatClampNeg x1) 4 (x1).toNatClampNeg) - (97 : Int32)) (dI (sI (sI p3.2 263 (dI p3.2 3 13).toNatClampNeg p3.1) 264 (dI (sI p3.2 263 (dI p3.2 3 13).toNatClampNeg p3.1) 3 13).toNatClampNeg x1) 3 13) (sI (sI p3.2 263 (dI p3.2 3 13).toNatClampNeg p3.1) 264 (dI (sI p3.2 263 (dI p3.2 3 13).toNatClampNeg p3.1) 3 13).toNatClampNeg x1) h
  · have h := (if_neg c2).symm.trans h
    obtain rfl := Option.some.inj h
    exact v_ret (pc := 10) O hz dX5_addToken_10
theorem c_X5_addToken {l : Launch} {w : Wx} {n nu c u : Nat} {K : Nat → Nat} {N : Nat} (hm : wlm w = true) {x1 : Int32} {x2 : Int32} {D : Dat} {z : Dat} (h : f_X5_addToken N x1 x2 D = some z) : C0 l w yX5_addToken cX5_addToken 4 none 7 154 [.ref (wb w + pp 3), .int x1, .int x2] n (Ax nu K c u) D none z :=
  C0.of (by decide) (Nat.le_of_ble_eq_true rfl) (fun X e1 e2 e3 hz O => by
  subst e1
  subst e2
  exact w_X5_addToken O hm e3 hz x1 x2 D h)
def f_X10_goOver (N : Nat) (nu : Nat) (K : Nat → Nat) (x1 : Option Nat) (D : Dat) : Option (Dat) :=
  ((dR (sR D 189 1 x1) 189 1)).bind (fun a1 => if a1 = 191 ∨ a1 = 196 then ((f_X10_goThrough N nu K 50 (dR (sR D 189 1 x1) a1 0) 0 (sR D 189 1 x1)).bind (fun p4 => (f_X3_finish p4).bind (fun p6 => some p6))) else none)
set_option maxHeartbeats 4000000 in
theorem w_X10_goOver {X : Cx} {n nu c u : Nat} {K : Nat → Nat} {N : Nat} {z : Dat} (O : Ok X cX10_goOver RX10 none 301 6673) (hm : wlm (xw X) = true) (hn : xn X = 2) (hz : Z0 X (Ax nu K c u)) (x1 : Option Nat) (D : Dat) (h : f_X10_goOver N nu K x1 D = some z) : V X (Q0 X n (Ax nu K c u) none z) n (Ax nu K c u) D 0 [(0, .ref (bo X + pp 189)), (1, rv (bo X) x1)] [] := by
  unfold f_X10_goOver at h
  refine v_aload_n (pc := 0) O dX10_goOver_0 0 rfl ?_
  refine v_aload_nr (pc := 1) O dX10_goOver_1 1 rfl ?_
  refine v_putR (pc := 2) (a := 189) (r := x1) O pf_X10_1 rfl fl_X10_15 kq_189 dX10_goOver_2 ?_
  refine v_aload_n (pc := 5) O dX10_goOver_5 0 rfl ?_
  refine v_aload_n (pc := 6) O dX10_goOver_6 0 rfl ?_
  refine v_getR (pc := 7) (a := 189) O gf_X10_1 fl_X10_15 kq_189 dX10_goOver_7 ?_
  obtain ⟨a1, e2, h⟩ := bind_some h
  rw [e2]
  obtain ⟨c3, h⟩ := if_none h
  refine v_getR (pc := 10) (a := a1) O gf_X4_0 fl_X10_19 (kt_X4 c3) dX10_goOver_10 ?_
  refine v_iconst (pc := 13) O dX10_goOver_13 ic_0 ?_
  obtain ⟨p4, e5, h⟩ := bind_some h
  refine v_callV (pc := 14) (a := 189) (As := [rv (bo X) (dR (sR D 189 1 x1) a1 0), .int 0]) (rest := []) (r := none) (D' := p4) O (bb0 hz) (c_X10_goThrough hm 50 e5) mw_X10_goThrough im_X10_goThrough se_X10_goThrough ml_X10_25 kq_189 (by decide) rfl rfl rfl (by decide) (by decide) (Nat.le_of_ble_eq_true rfl) dX10_goOver_14 rfl rfl ?_
  refine v_aload_n (pc := 17) O dX10_goOver_17 0 rfl ?_
  refine v_getK (pc := 18) (a := 189) O hm gf_X10_0 fl_X10_9 kq_189 lk_189_0 dX10_goOver_18 ?_
  obtain ⟨p6, e7, h⟩ := bind_some h
  refine v_callV (pc := 21) (a := 181) (As := []) (rest := []) (r := none) (D' := p6) O (bb0 hz) (c_X3_finish hm e7) mw_X3_finish im_X3_finish se_X3_finish ml_X10_29 kq_181 (by decide) rfl rfl rfl (by decide) (by decide) (Nat.le_of_ble_eq_true rfl) dX10_goOver_21 rfl rfl ?_
  obtain rfl := Option.some.inj h
  exact v_ret (pc := 24) O hz dX10_goOver_24
theorem c_X10_goOver {l : Launch} {w : Wx} {n nu c u : Nat} {K : Nat → Nat} {N : Nat} (hm : wlm w = true) {x1 : Option Nat} {D : Dat} {z : Dat} (h : f_X10_goOver N nu K x1 D = some z) : C0 l w yX10_goOver cX10_goOver 2 none 301 6673 [.ref (wb w + pp 189), rv (wb w) x1] n (Ax nu K c u) D none z :=
  C0.of (by decide) (by simp [lg_sl, rv_cat, cat_i, cat_l, cat_r, cat_n, fmt_cat]) (fun X e1 e2 e3 hz O => by
  subst e1
  subst e2
  have q : lv_args 0 [.ref (bo X + pp 189), rv (bo X) x1] = [(0, .ref (bo X + pp 189)), (1, rv (bo X) x1)] := by simp [lv_args, rv_cat, cat_i, cat_l, cat_r, cat_n, fmt_cat]
  show V X _ n _ D 0 (lv_args 0 [.ref (bo X + pp 189), rv (bo X) x1]) []
  rw [q]
  exact w_X10_goOver O hm e3 hz x1 D h)
def f_X11_walk_b12 (N : Nat) (nu : Nat) (K : Nat → Nat) (D : Dat) : Option (Sum Nat Int32 × Dat) :=
  some (.inl 0, D)
set_option maxHeartbeats 4000000 in
theorem w_X11_walk_b12 {X : Cx} {n nu c u : Nat} {K : Nat → Nat} {N : Nat} {z : Sum Nat Int32 × Dat} (O : Ok X cX11_walk RX11 (some .int) 302 6694) (hm : wlm (xw X) = true) (hn : xn X = 2) (hz : Z0 X (Ax nu K c u)) (hT : T1 X (zi z)) (D : Dat) (h : f_X11_walk_b12 N nu K D = some z) : V X (Q1 X n (Ax nu K c u) (zi z)) n (Ax nu K c u) D 12 [] [] := by
  unfold f_X11_walk_b12 at h
  obtain rfl := Option.some.inj h
  exact v_throw (pc := 12) (e := 0) O hz hT rfl tw_X11_114_116 (by decide) (Nat.le_of_ble_eq_true rfl) dX11_walk_12 dX11_walk_15 dX11_walk_16 dX11_walk_19
def f_X11_walk (N : Nat) (nu : Nat) (K : Nat → Nat) (x1 : Int32) (D : Dat) : Option (Sum Nat Int32 × Dat) :=
  if x1 < 1 then (f_X11_walk_b12 N nu K D) else (if x1 ≤ 600 then (if (dI D 0 12) = 0 then (some (.inl 2, D)) else ((f_X3_start N nu K x1 D).bind (fun p4 => (f_X10_goOver N nu K (dR p4 0 8) p4).bind (fun p6 => (f_X3_ending p6).bind (fun p8 => some (.inr p8.1, p8.2)))))) else (f_X11_walk_b12 N nu K D))
set_option maxHeartbeats 4000000 in
theorem w_X11_walk {X : Cx} {n nu c u : Nat} {K : Nat → Nat} {N : Nat} {z : Sum Nat Int32 × Dat} (O : Ok X cX11_walk RX11 (some .int) 302 6694) (hm : wlm (xw X) = true) (hn : xn X = 2) (hz : Z0 X (Ax nu K c u)) (hT : T1 X (zi z)) (x1 : Int32) (D : Dat) (h : f_X11_walk N nu K x1 D = some z) : V X (Q1 X n (Ax nu K c u) (zi z)) n (Ax nu K c u) D 0 [(0, .ref (bo X + pp 0)), (1, .int x1)] [] := by
  unfold f_X11_walk at h
  refine v_iload_n (pc := 0) O dX11_walk_0 1 rfl ?_
  refine v_iconst (pc := 1) O dX11_walk_1 ic_1 ?_
  refine v_icmplt (pc := 2) 12 O dX11_walk_2 (by decide) (fun c1 => ?_) (fun c1 => ?_)
  · have h := (if_pos c1).symm.trans h
    refine v_sub [] rfl ?_
    exact w_X11_walk_b12 O hm hn hz hT D h
  · have h := (if_neg c1).symm.trans h
    refine v_iload_n (pc := 5) O dX11_walk_5 1 rfl ?_
    refine v_sipush (pc := 6) O dX11_walk_6 sp_600 ?_
    refine v_icmple (pc := 9) 20 O dX11_walk_9 (by decide) (fun c2 => ?_) (fun c2 => ?_)
    · have h := (if_pos c2).symm.trans h
      refine v_aload_n (pc := 20) O dX11_walk_20 0 rfl ?_
      refine v_getI (pc := 21) (a := 0) O gf_X11_12 fl_X11_262 kq_0 dX11_walk_21 ?_
      refine v_ifne (pc := 24) 35 O dX11_walk_24 (by decide) (fun c3 => ?_) (fun c3 => ?_)
      · have h := (if_neg c3).symm.trans h
        refine v_aload_n (pc := 35) O dX11_walk_35 0 rfl ?_
        refine v_getK (pc := 36) (a := 0) O hm gf_X11_5 fl_X11_60 kq_0 lk_0_5 dX11_walk_36 ?_
        refine v_iload_n (pc := 39) O dX11_walk_39 1 rfl ?_
        obtain ⟨p4, e5, h⟩ := bind_some h
        refine v_callV (pc := 40) (a := 181) (As := [.int x1]) (rest := []) (r := none) (D' := p4) O (bb0 hz) (c_X3_start hm e5) mw_X3_start im_X3_start se_X3_start ml_X11_252 kq_181 (by decide) rfl rfl rfl (by decide) (by decide) (Nat.le_of_ble_eq_true rfl) dX11_walk_40 rfl rfl ?_
        refine v_aload_n (pc := 43) O dX11_walk_43 0 rfl ?_
        refine v_getK (pc := 44) (a := 0) O hm gf_X11_6 fl_X11_69 kq_0 lk_0_6 dX11_walk_44 ?_
        refine v_aload_n (pc := 47) O dX11_walk_47 0 rfl ?_
        refine v_getR (pc := 48) (a := 0) O gf_X11_8 fl_X11_86 kq_0 dX11_walk_48 ?_
        obtain ⟨p6, e7, h⟩ := bind_some h
        refine v_callV (pc := 51) (a := 189) (As := [rv (bo X) (dR p4 0 8)]) (rest := []) (r := none) (D' := p6) O (bb0 hz) (c_X10_goOver hm e7) mw_X10_goOver im_X10_goOver se_X10_goOver ml_X11_265 kq_189 (by decide) rfl rfl rfl (by decide) (by decide) (Nat.le_of_ble_eq_true rfl) dX11_walk_51 rfl rfl ?_
        refine v_aload_n (pc := 54) O dX11_walk_54 0 rfl ?_
        refine v_getK (pc := 55) (a := 0) O hm gf_X11_5 fl_X11_60 kq_0 lk_0_5 dX11_walk_55 ?_
        obtain ⟨p8, e9, h⟩ := bind_some h
        refine v_callV (pc := 58) (a := 181) (As := []) (rest := []) (r := (some (.int p8.1))) (D' := p8.2) O (bb0 hz) (c_X3_ending hm e9) mw_X3_ending im_X3_ending se_X3_ending ml_X11_259 kq_181 (by decide) rfl rfl rfl (by decide) (by decide) (Nat.le_of_ble_eq_true rfl) dX11_walk_58 rfl rfl ?_
        obtain rfl := Option.some.inj h
        exact v_r1 (v_iret (pc := 61) O hz dX11_walk_61)
      · have h := (if_pos c3).symm.trans h
        obtain rfl := Option.some.inj h
        exact v_throw (pc := 27) (e := 2) O hz hT rfl tw_X11_138_140 (by decide) (Nat.le_of_ble_eq_true rfl) dX11_walk_27 dX11_walk_30 dX11_walk_31 dX11_walk_34
    · have h := (if_neg c2).symm.trans h
      refine v_sub [] rfl ?_
      exact w_X11_walk_b12 O hm hn hz hT D h
theorem c_X11_walk {l : Launch} {w : Wx} {n nu c u : Nat} {K : Nat → Nat} {N : Nat} (hl : l.stackTraces = false) (hm : wlm w = true) {x1 : Int32} {D : Dat} {z : Sum Nat Int32 × Dat} (h : f_X11_walk N nu K x1 D = some z) : C1 l w yX11_walk cX11_walk 2 (some .int) 302 6694 [.ref (wb w + pp 0), .int x1] n (Ax nu K c u) D (zi z) :=
  C1.of hl (by decide) (Nat.le_of_ble_eq_true rfl) (fun X e1 e2 e3 hz hT O => by
  subst e1
  subst e2
  exact w_X11_walk O hm e3 hz hT x1 D h)
def f_X5_findTokens_b47 (N : Nat) (rec_9 : Int32 → Int32 → Dat → Option (Dat)) (x2 : Int32) (x3 : Int32) (D : Dat) : Option (Dat) :=
  rec_9 x3 (x2 + 1) D
set_option maxHeartbeats 4000000 in
theorem w_X5_findTokens_b47 {X : Cx} {n nu c u : Nat} {K : Nat → Nat} {N : Nat} {rec_9 : Int32 → Int32 → Dat → Option (Dat)} {z : Dat} (O : Ok X cX5_findTokens RX5 none 8 177) (hm : wlm (xw X) = true) (hn : xn X = 4) (hz : Z0 X (Ax nu K c u)) (hrec_9 : ∀ (x1 : Int32) (x2 : Int32) (D : Dat), rec_9 x1 x2 D = some z → V X (Q0 X n (Ax nu K c u) none z) n (Ax nu K c u) D 9 [(0, .ref (bo X + pp 3)), (1, .int x1), (2, .int x2)] []) (x2 : Int32) (x3 : Int32) (D : Dat) (h : f_X5_findTokens_b47 N rec_9 x2 x3 D = some z) : V X (Q0 X n (Ax nu K c u) none z) n (Ax nu K c u) D 47 [(0, .ref (bo X + pp 3)), (2, .int x2), (3, .int x3)] [] := by
  unfold f_X5_findTokens_b47 at h
  refine v_iload_n (pc := 47) O dX5_findTokens_47 2 rfl ?_
  refine v_istore_n (pc := 48) (lv' := [(1, .int x3), (0, .ref (bo X + pp 3)), (2, .int x2), (3, .int x3)]) O dX5_findTokens_48 rfl (by rw [hn]; decide) rfl ?_
  refine v_iinc (pc := 49) (lv' := [(2, .int (x2 + 1)), (1, .int x3), (0, .ref (bo X + pp 3)), (3, .int x3)]) O dX5_findTokens_49 2 rfl (congrArg (fun q => x2 + q) ic_1) (by rw [hn]; decide) rfl ?_
  refine v_goto (pc := 52) 9 O dX5_findTokens_52 (by decide) ?_
  refine v_sub [2, 1, 0] rfl ?_
  exact hrec_9 x3 (x2 + 1) D h
def f_X5_findTokens_b88 (N : Nat) (D : Dat) : Option (Dat) :=
  some (sI D 3 13 ((dI D 3 13) + (1 : Int32)))
set_option maxHeartbeats 4000000 in
theorem w_X5_findTokens_b88 {X : Cx} {n nu c u : Nat} {K : Nat → Nat} {N : Nat} {z : Dat} (O : Ok X cX5_findTokens RX5 none 8 177) (hm : wlm (xw X) = true) (hn : xn X = 4) (hz : Z0 X (Ax nu K c u)) (D : Dat) (h : f_X5_findTokens_b88 N D = some z) : V X (Q0 X n (Ax nu K c u) none z) n (Ax nu K c u) D 88 [(0, .ref (bo X + pp 3))] [] := by
  unfold f_X5_findTokens_b88 at h
  refine v_aload_n (pc := 88) O dX5_findTokens_88 0 rfl ?_
  refine v_dup (pc := 89) O dX5_findTokens_89 rfl ?_
  refine v_getI (pc := 90) (a := 3) O gf_X5_13 fl_X5_84 kq_3 dX5_findTokens_90 ?_
  refine v_iconst (pc := 93) O dX5_findTokens_93 ic_1 ?_
  refine v_iadd (pc := 94) O dX5_findTokens_94 ?_
  refine v_putI (pc := 95) (a := 3) O pf_X5_13 fl_X5_84 kq_3 dX5_findTokens_95 ?_
  obtain rfl := Option.some.inj h
  exact v_ret (pc := 98) O hz dX5_findTokens_98
def f_X5_findTokens_b55 (N : Nat) (D : Dat) : Option (Dat) :=
  if (dI D 3 13) < 0 ∨ 241 ≤ ((dI D 3 13)).toNatClampNeg then none else (if (dI (sI D 263 (dI D 3 13).toNatClampNeg 0) 3 13) < 0 ∨ 241 ≤ ((dI (sI D 263 (dI D 3 13).toNatClampNeg 0) 3 13)).toNatClampNeg then none else (if (dI (sI (sI D 263 (dI D 3 13).toNatClampNeg 0) 264 (dI (sI D 263 (dI D 3 13).toNatClampNeg 0) 3 13).toNatClampNeg (dI (sI D 263 (dI D 3 13).toNatClampNeg 0) 3 2)) 3 13) < 0 ∨ 241 ≤ ((dI (sI (sI D 263 (dI D 3 13).toNatClampNeg 0) 264 (dI (sI D 263 (dI D 3 13).toNatClampNeg 0) 3 13).toNatClampNeg (dI (sI D 263 (dI D 3 13).toNatClampNeg 0) 3 2)) 3 13)).toNatClampNeg then none else (f_X5_findTokens_b88 N (sI (sI (sI D 263 (dI D 3 13).toNatClampNeg 0) 264 (dI (sI D 263 (dI D 3 13).toNatClampNeg 0) 3 13).toNatClampNeg (dI (sI D 263 (dI D 3 13).toNatClampNeg 0) 3 2)) 265 (dI (sI (sI D 263 (dI D 3 13).toNatClampNeg 0) 264 (dI (sI D 263 (dI D 3 13).toNatClampNeg 0) 3 13).toNatClampNeg (dI (sI D 263 (dI D 3 13).toNatClampNeg 0) 3 2)) 3 13).toNatClampNeg (-1)))))
set_option maxHeartbeats 4000000 in
theorem w_X5_findTokens_b55 {X : Cx} {n nu c u : Nat} {K : Nat → Nat} {N : Nat} {z : Dat} (O : Ok X cX5_findTokens RX5 none 8 177) (hm : wlm (xw X) = true) (hn : xn X = 4) (hz : Z0 X (Ax nu K c u)) (D : Dat) (h : f_X5_findTokens_b55 N D = some z) : V X (Q0 X n (Ax nu K c u) none z) n (Ax nu K c u) D 55 [(0, .ref (bo X + pp 3))] [] := by
  unfold f_X5_findTokens_b55 at h
  refine v_aload_n (pc := 55) O dX5_findTokens_55 0 rfl ?_
  refine v_getK (pc := 56) (a := 3) O hm gf_X5_10 fl_X5_15 kq_3 lk_3_10 dX5_findTokens_56 ?_
  refine v_aload_n (pc := 59) O dX5_findTokens_59 0 rfl ?_
  refine v_getI (pc := 60) (a := 3) O gf_X5_13 fl_X5_84 kq_3 dX5_findTokens_60 ?_
  refine v_iconst (pc := 63) O dX5_findTokens_63 ic_0 ?_
  obtain ⟨c1, h⟩ := or_none h
  refine v_iast (pc := 64) (a := 263) O kq_263 (inq lq_263 c1) dX5_findTokens_64 ?_
  refine v_aload_n (pc := 65) O dX5_findTokens_65 0 rfl ?_
  refine v_getK (pc := 66) (a := 3) O hm gf_X5_11 fl_X5_19 kq_3 lk_3_11 dX5_findTokens_66 ?_
  refine v_aload_n (pc := 69) O dX5_findTokens_69 0 rfl ?_
  refine v_getI (pc := 70) (a := 3) O gf_X5_13 fl_X5_84 kq_3 dX5_findTokens_70 ?_
  refine v_aload_n (pc := 73) O dX5_findTokens_73 0 rfl ?_
  refine v_getI (pc := 74) (a := 3) O gf_X5_2 fl_X5_32 kq_3 dX5_findTokens_74 ?_
  obtain ⟨c2, h⟩ := or_none h
  refine v_iast (pc := 77) (a := 264) O kq_264 (inq lq_264 c2) dX5_findTokens_77 ?_
  refine v_aload_n (pc := 78) O dX5_findTokens_78 0 rfl ?_
  refine v_getK (pc := 79) (a := 3) O hm gf_X5_12 fl_X5_22 kq_3 lk_3_12 dX5_findTokens_79 ?_
  refine v_aload_n (pc := 82) O dX5_findTokens_82 0 rfl ?_
  refine v_getI (pc := 83) (a := 3) O gf_X5_13 fl_X5_84 kq_3 dX5_findTokens_83 ?_
  refine v_iconst (pc := 86) O dX5_findTokens_86 ic_m1 ?_
  obtain ⟨c3, h⟩ := or_none h
  refine v_iast (pc := 87) (a := 265) O kq_265 (inq lq_265 c3) dX5_findTokens_87 ?_
  refine v_sub [0] rfl ?_
  exact w_X5_findTokens_b88 O hm hn hz (sI (sI (sI D 263 (dI D 3 13).toNatClampNeg 0) 264 (dI (sI D 263 (dI D 3 13).toNatClampNeg 0) 3 13).toNatClampNeg (dI (sI D 263 (dI D 3 13).toNatClampNeg 0) 3 2)) 265 (dI (sI (sI D 263 (dI D 3 13).toNatClampNeg 0) 264 (dI (sI D 263 (dI D 3 13).toNatClampNeg 0) 3 13).toNatClampNeg (dI (sI D 263 (dI D 3 13).toNatClampNeg 0) 3 2)) 3 13).toNatClampNeg (-1)) h
def f_X5_findTokens_b9 (N : Nat) : Nat → Int32 → Int32 → Dat → Option (Dat)
  | 0, _, _, _ => none
  | g + 1, x1, x2, D => if 240 ≤ x2 then (f_X5_findTokens_b55 N D) else (if (dI D 3 2) ≤ x1 then (f_X5_findTokens_b55 N D) else ((f_X5_endOfToken N x1 D).bind (fun p6 => if x1 < 0 ∨ 240 ≤ (x1).toNatClampNeg then none else (if (dI p6.2 4 (x1).toNatClampNeg) = 32 then (f_X5_findTokens_b47 N (f_X5_findTokens_b9 N g) x2 p6.1 p6.2) else ((f_X5_addToken N x1 p6.1 p6.2).bind (fun p10 => f_X5_findTokens_b47 N (f_X5_findTokens_b9 N g) x2 p6.1 p10))))))
set_option maxHeartbeats 4000000 in
theorem w_X5_findTokens_b9 {X : Cx} {n nu c u : Nat} {K : Nat → Nat} {N : Nat} {z : Dat} (O : Ok X cX5_findTokens RX5 none 8 177) (hm : wlm (xw X) = true) (hn : xn X = 4) (hz : Z0 X (Ax nu K c u)) : ∀ (g : Nat) (x1 : Int32) (x2 : Int32) (D : Dat), f_X5_findTokens_b9 N g x1 x2 D = some z → V X (Q0 X n (Ax nu K c u) none z) n (Ax nu K c u) D 9 [(0, .ref (bo X + pp 3)), (1, .int x1), (2, .int x2)] [] := by
  intro g
  induction g with
  | zero => intro x1 x2 D h; exact absurd h (by simp [f_X5_findTokens_b9])
  | succ g ih =>
    intro x1 x2 D h
    rw [f_X5_findTokens_b9] at h
    refine v_iload_n (pc := 9) O dX5_findTokens_9 2 rfl ?_
    refine v_sipush (pc := 10) O dX5_findTokens_10 sp_240 ?_
    refine v_icmpge (pc := 13) 55 O dX5_findTokens_13 (by decide) (fun c4 => ?_) (fun c4 => ?_)
    · have h := (if_pos c4).symm.trans h
      refine v_sub [0] rfl ?_
      exact w_X5_findTokens_b55 O hm hn hz D h
    · have h := (if_neg c4).symm.trans h
      refine v_iload_n (pc := 16) O dX5_findTokens_16 1 rfl ?_
      refine v_aload_n (pc := 17) O dX5_findTokens_17 0 rfl ?_
      refine v_getI (pc := 18) (a := 3) O gf_X5_2 fl_X5_32 kq_3 dX5_findTokens_18 ?_
      refine v_icmpge (pc := 21) 55 O dX5_findTokens_21 (by decide) (fun c5 => ?_) (fun c5 => ?_)
      · have h := (if_pos c5).symm.trans h
        refine v_sub [0] rfl ?_
        exact w_X5_findTokens_b55 O hm hn hz D h
      · have h := (if_neg c5).symm.trans h
        refine v_aload_n (pc := 24) O dX5_findTokens_24 0 rfl ?_
        refine v_iload_n (pc := 25) O dX5_findTokens_25 1 rfl ?_
        obtain ⟨p6, e7, h⟩ := bind_some h
        refine v_callV (pc := 26) (a := 3) (As := [.int x1]) (rest := []) (r := (some (.int p6.1))) (D' := p6.2) O (bb0 hz) (c_X5_endOfToken hm e7) mw_X5_endOfToken im_X5_endOfToken se_X5_endOfToken ml_X5_87 kq_3 (by decide) rfl rfl rfl (by decide) (by decide) (Nat.le_of_ble_eq_true rfl) dX5_findTokens_26 rfl rfl ?_
        refine v_istore_n (pc := 29) (lv' := [(3, .int p6.1), (0, .ref (bo X + pp 3)), (1, .int x1), (2, .int x2)]) O dX5_findTokens_29 rfl (by rw [hn]; decide) rfl ?_
        refine v_aload_n (pc := 30) O dX5_findTokens_30 1 rfl ?_
        refine v_getK (pc := 31) (a := 3) O hm gf_X5_1 fl_X5_9 kq_3 lk_3_1 dX5_findTokens_31 ?_
        refine v_iload_n (pc := 34) O dX5_findTokens_34 2 rfl ?_
        obtain ⟨c8, h⟩ := or_none h
        refine v_cald (pc := 35) (a := 4) O kq_4 (inq lq_4 c8) dX5_findTokens_35 ?_
        refine v_bipush (pc := 36) O dX5_findTokens_36 bp_32 ?_
        refine v_icmpeq (pc := 38) 47 O dX5_findTokens_38 (by decide) (fun c9 => ?_) (fun c9 => ?_)
        · have h := (if_pos c9).symm.trans h
          refine v_sub [1, 3, 0] rfl ?_
          exact w_X5_findTokens_b47 O hm hn hz ih x2 p6.1 p6.2 h
        · have h := (if_neg c9).symm.trans h
          refine v_aload_n (pc := 41) O dX5_findTokens_41 1 rfl ?_
          refine v_iload_n (pc := 42) O dX5_findTokens_42 2 rfl ?_
          refine v_iload_n (pc := 43) O dX5_findTokens_43 0 rfl ?_
          obtain ⟨p10, e11, h⟩ := bind_some h
          refine v_callV (pc := 44) (a := 3) (As := [.int x1, .int p6.1]) (rest := []) (r := none) (D' := p10) O (bb0 hz) (c_X5_addToken hm e11) mw_X5_addToken im_X5_addToken se_X5_addToken ml_X5_91 kq_3 (by decide) rfl rfl rfl (by decide) (by decide) (Nat.le_of_ble_eq_true rfl) dX5_findTokens_44 rfl rfl ?_
          refine v_sub [1, 3, 0] rfl ?_
          exact w_X5_findTokens_b47 O hm hn hz ih x2 p6.1 p10 h
def f_X5_findTokens (N : Nat) (D : Dat) : Option (Dat) :=
  f_X5_findTokens_b9 N N 0 0 (sI D 3 13 0)
set_option maxHeartbeats 4000000 in
theorem w_X5_findTokens {X : Cx} {n nu c u : Nat} {K : Nat → Nat} {N : Nat} {z : Dat} (O : Ok X cX5_findTokens RX5 none 8 177) (hm : wlm (xw X) = true) (hn : xn X = 4) (hz : Z0 X (Ax nu K c u)) (D : Dat) (h : f_X5_findTokens N D = some z) : V X (Q0 X n (Ax nu K c u) none z) n (Ax nu K c u) D 0 [(0, .ref (bo X + pp 3))] [] := by
  unfold f_X5_findTokens at h
  refine v_aload_n (pc := 0) O dX5_findTokens_0 0 rfl ?_
  refine v_iconst (pc := 1) O dX5_findTokens_1 ic_0 ?_
  refine v_putI (pc := 2) (a := 3) O pf_X5_13 fl_X5_84 kq_3 dX5_findTokens_2 ?_
  refine v_iconst (pc := 5) O dX5_findTokens_5 ic_0 ?_
  refine v_istore_n (pc := 6) (lv' := [(1, .int 0), (0, .ref (bo X + pp 3))]) O dX5_findTokens_6 rfl (by rw [hn]; decide) rfl ?_
  refine v_iconst (pc := 7) O dX5_findTokens_7 ic_0 ?_
  refine v_istore_n (pc := 8) (lv' := [(2, .int 0), (1, .int 0), (0, .ref (bo X + pp 3))]) O dX5_findTokens_8 rfl (by rw [hn]; decide) rfl ?_
  refine v_sub [2, 1, 0] rfl ?_
  exact w_X5_findTokens_b9 O hm hn hz N 0 0 (sI D 3 13 0) h
theorem c_X5_findTokens {l : Launch} {w : Wx} {n nu c u : Nat} {K : Nat → Nat} {N : Nat} (hm : wlm w = true) {D : Dat} {z : Dat} (h : f_X5_findTokens N D = some z) : C0 l w yX5_findTokens cX5_findTokens 4 none 8 177 [.ref (wb w + pp 3)] n (Ax nu K c u) D none z :=
  C0.of (by decide) (Nat.le_of_ble_eq_true rfl) (fun X e1 e2 e3 hz O => by
  subst e1
  subst e2
  exact w_X5_findTokens O hm e3 hz  D h)
def f_X5_read_b71 (N : Nat) (nu : Nat) (S : Sr) (D : Dat) : Option (Sum Nat Unit × Sr × Dat) :=
  sb2 (f_X5_readStatements N nu 12 0 S D) (fun p1 S3 D3 => ((dR D 3 4)).bind (fun a4 => if a4 = 191 ∨ a4 = 196 then (some (.inr (), S3, (sR D3 a4 0 p1))) else none))
set_option maxHeartbeats 4000000 in
theorem w_X5_read_b71 {X : Cx} {nu : Nat} {N : Nat} {z : Sum Nat Unit × Sr × Dat} (O : Ok X cX5_read RX5 none 1701 31773) (hm : wlm (xw X) = true) (hn : xn X = 3) (hT : T2 X) (S : Sr) (D : Dat) (h : f_X5_read_b71 N nu S D = some z) : V X (Q2 X nu (ru z)) S.1 (Az nu S) D 71 [(0, .ref (bo X + pp 3))] [] := by
  unfold f_X5_read_b71 at h
  refine v_aload_n (pc := 71) O dX5_read_71 0 rfl ?_
  refine v_getR (pc := 72) (a := 3) O gf_X5_4 fl_X5_45 kq_3 dX5_read_72 ?_
  refine v_aload_n (pc := 75) O dX5_read_75 0 rfl ?_
  refine v_iconst (pc := 76) O dX5_read_76 ic_0 ?_
  rcases sb2_some h with ⟨p1, S3, D3, e2, rfl⟩ | ⟨p1, S3, D3, e2, h⟩
  · exact v_call2X (pc := 77) (a := 3) (As := [.int 0]) (rest := [rv (bo X) (dR D 3 4)]) (e := p1) (S' := S3) (D' := D3) O hT (c_X5_readStatements (nu := nu) hT.2.1 hm 12 e2 :) mw_X5_readStatements im_X5_readStatements se_X5_readStatements ml_X5_76 kq_3 (by decide) rfl rfl rfl (by decide) (by decide) (by simp [rv_cat, cat_i, cat_l, cat_r, cat_n, fmt_cat]) dX5_read_77 rfl
  · refine v_call2 (pc := 77) (a := 3) (As := [.int 0]) (rest := [rv (bo X) (dR D 3 4)]) (r := (some (rv (bo X) p1))) (S' := S3) (D' := D3) O hT (c_X5_readStatements (nu := nu) hT.2.1 hm 12 e2 :) mw_X5_readStatements im_X5_readStatements se_X5_readStatements ml_X5_76 kq_3 (by decide) rfl rfl rfl (by decide) (by decide) (by simp [rv_cat, cat_i, cat_l, cat_r, cat_n, fmt_cat]) dX5_read_77 rfl rfl ?_
    obtain ⟨a4, e5, h⟩ := bind_some h
    rw [e5]
    obtain ⟨c6, h⟩ := if_none h
    refine v_putR (pc := 80) (a := a4) (r := p1) O pf_X4_0 rfl fl_X5_80 (kt_X4 c6) dX5_read_80 ?_
    obtain rfl := Option.some.inj h
    exact v_vret2 (pc := 83) O dX5_read_83
def f_X5_read_b36 (N : Nat) (nu : Nat) : Nat → Int32 → Sr → Dat → Option (Sum Nat Unit × Sr × Dat)
  | 0, _, _, _ => none
  | g + 1, x2, S, D => if 240 ≤ x2 then (f_X5_read_b71 N nu S D) else (if (dI D 3 6) < 20 then (f_X5_read_b71 N nu S D) else (if 22 < (dI D 3 6) then (f_X5_read_b71 N nu S D) else (sb2 (f_X5_readDeclaration N nu S D) (fun p10 S12 D12 => (f_X5_read_b36 N nu g) (x2 + 1) S12 D12))))
set_option maxHeartbeats 4000000 in
theorem w_X5_read_b36 {X : Cx} {nu : Nat} {N : Nat} {z : Sum Nat Unit × Sr × Dat} (O : Ok X cX5_read RX5 none 1701 31773) (hm : wlm (xw X) = true) (hn : xn X = 3) (hT : T2 X) : ∀ (g : Nat) (x2 : Int32) (S : Sr) (D : Dat), f_X5_read_b36 N nu g x2 S D = some z → V X (Q2 X nu (ru z)) S.1 (Az nu S) D 36 [(0, .ref (bo X + pp 3)), (2, .int x2)] [] := by
  intro g
  induction g with
  | zero => intro x2 S D h; exact absurd h (by simp [f_X5_read_b36])
  | succ g ih =>
    intro x2 S D h
    rw [f_X5_read_b36] at h
    refine v_iload_n (pc := 36) O dX5_read_36 1 rfl ?_
    refine v_sipush (pc := 37) O dX5_read_37 sp_240 ?_
    refine v_icmpge (pc := 40) 71 O dX5_read_40 (by decide) (fun c7 => ?_) (fun c7 => ?_)
    · have h := (if_pos c7).symm.trans h
      refine v_sub [0] rfl ?_
      exact w_X5_read_b71 O hm hn hT S D h
    · have h := (if_neg c7).symm.trans h
      refine v_aload_n (pc := 43) O dX5_read_43 0 rfl ?_
      refine v_getI (pc := 44) (a := 3) O gf_X5_6 fl_X5_70 kq_3 dX5_read_44 ?_
      refine v_bipush (pc := 47) O dX5_read_47 bp_20 ?_
      refine v_icmplt (pc := 49) 71 O dX5_read_49 (by decide) (fun c8 => ?_) (fun c8 => ?_)
      · have h := (if_pos c8).symm.trans h
        refine v_sub [0] rfl ?_
        exact w_X5_read_b71 O hm hn hT S D h
      · have h := (if_neg c8).symm.trans h
        refine v_aload_n (pc := 52) O dX5_read_52 0 rfl ?_
        refine v_getI (pc := 53) (a := 3) O gf_X5_6 fl_X5_70 kq_3 dX5_read_53 ?_
        refine v_bipush (pc := 56) O dX5_read_56 bp_22 ?_
        refine v_icmpgt (pc := 58) 71 O dX5_read_58 (by decide) (fun c9 => ?_) (fun c9 => ?_)
        · have h := (if_pos c9).symm.trans h
          refine v_sub [0] rfl ?_
          exact w_X5_read_b71 O hm hn hT S D h
        · have h := (if_neg c9).symm.trans h
          refine v_aload_n (pc := 61) O dX5_read_61 0 rfl ?_
          rcases sb2_some h with ⟨p10, S12, D12, e11, rfl⟩ | ⟨p10, S12, D12, e11, h⟩
          · exact v_call2X (pc := 62) (a := 3) (As := []) (rest := []) (e := p10) (S' := S12) (D' := D12) O hT (c_X5_readDeclaration (nu := nu) hT.2.1 hm e11 :) mw_X5_readDeclaration im_X5_readDeclaration se_X5_readDeclaration ml_X5_73 kq_3 (by decide) rfl rfl rfl (by decide) (by decide) (Nat.le_of_ble_eq_true rfl) dX5_read_62 rfl
          · refine v_call2 (pc := 62) (a := 3) (As := []) (rest := []) (r := none) (S' := S12) (D' := D12) O hT (c_X5_readDeclaration (nu := nu) hT.2.1 hm e11 :) mw_X5_readDeclaration im_X5_readDeclaration se_X5_readDeclaration ml_X5_73 kq_3 (by decide) rfl rfl rfl (by decide) (by decide) (Nat.le_of_ble_eq_true rfl) dX5_read_62 rfl rfl ?_
            refine v_iinc (pc := 65) (lv' := [(2, .int (x2 + 1)), (0, .ref (bo X + pp 3))]) O dX5_read_65 1 rfl (congrArg (fun q => x2 + q) ic_1) (by rw [hn]; decide) rfl ?_
            refine v_goto (pc := 68) 36 O dX5_read_68 (by decide) ?_
            refine v_sub [1, 0] rfl ?_
            exact ih (x2 + 1) S12 D12 h
def f_X5_read (N : Nat) (nu : Nat) (x1 : Option Nat) (S : Sr) (D : Dat) : Option (Sum Nat Unit × Sr × Dat) :=
  ((dR (sR D 3 4 x1) 3 4)).bind (fun a13 => if a13 = 191 ∨ a13 = 196 then ((f_X4_empty N nu S.2.1 a13 (sR D 3 4 x1)).bind (fun p16 => (f_J7_fill_53178 N nu S.2.1 5 0 p16).bind (fun p18 => (f_X5_findTokens N (sI p18 3 5 0)).bind (fun p20 => (f_X5_goTo 0 p20).bind (fun p22 => f_X5_read_b36 N nu N 0 S p22))))) else none)
set_option maxHeartbeats 4000000 in
theorem w_X5_read {X : Cx} {nu : Nat} {N : Nat} {z : Sum Nat Unit × Sr × Dat} (O : Ok X cX5_read RX5 none 1701 31773) (hm : wlm (xw X) = true) (hn : xn X = 3) (hT : T2 X) (x1 : Option Nat) (S : Sr) (D : Dat) (h : f_X5_read N nu x1 S D = some z) : V X (Q2 X nu (ru z)) S.1 (Az nu S) D 0 [(0, .ref (bo X + pp 3)), (1, rv (bo X) x1)] [] := by
  unfold f_X5_read at h
  refine v_aload_n (pc := 0) O dX5_read_0 0 rfl ?_
  refine v_aload_nr (pc := 1) O dX5_read_1 1 rfl ?_
  refine v_putR (pc := 2) (a := 3) (r := x1) O pf_X5_4 rfl fl_X5_45 kq_3 dX5_read_2 ?_
  refine v_aload_n (pc := 5) O dX5_read_5 0 rfl ?_
  refine v_getR (pc := 6) (a := 3) O gf_X5_4 fl_X5_45 kq_3 dX5_read_6 ?_
  obtain ⟨a13, e14, h⟩ := bind_some h
  rw [e14]
  obtain ⟨c15, h⟩ := if_none h
  obtain ⟨p16, e17, h⟩ := bind_some h
  refine v_callV (pc := 9) (a := a13) (As := []) (rest := []) (r := none) (D' := p16) O (bb2 hT) (c_X4_empty hm c15 e17) mw_X4_empty im_X4_empty se_X4_empty ml_X5_49 (kt_X4 c15) (by decide) rfl rfl rfl (by decide) (by decide) (Nat.le_of_ble_eq_true rfl) dX5_read_9 rfl rfl ?_
  refine v_aload_n (pc := 12) O dX5_read_12 0 rfl ?_
  refine v_getK (pc := 13) (a := 3) O hm gf_X5_3 fl_X5_25 kq_3 lk_3_3 dX5_read_13 ?_
  refine v_iconst (pc := 16) O dX5_read_16 ic_0 ?_
  obtain ⟨p18, e19, h⟩ := bind_some h
  refine v_callS (pc := 17) (As := [.ref (bo X + pp 5), .int 0]) (rest := []) (r := none) (D' := p18) O (bb2 hT) (c_J7_fill_53178 hm e19) mw_J7_fill_53178 sm_J7_fill_53178 ml_X5_54 rfl (by decide) (by decide) (Nat.le_of_ble_eq_true rfl) dX5_read_17 rfl rfl ?_
  refine v_aload_n (pc := 20) O dX5_read_20 0 rfl ?_
  refine v_iconst (pc := 21) O dX5_read_21 ic_0 ?_
  refine v_putI (pc := 22) (a := 3) O pf_X5_5 fl_X5_60 kq_3 dX5_read_22 ?_
  refine v_aload_n (pc := 25) O dX5_read_25 0 rfl ?_
  obtain ⟨p20, e21, h⟩ := bind_some h
  refine v_callV (pc := 26) (a := 3) (As := []) (rest := []) (r := none) (D' := p20) O (bb2 hT) (c_X5_findTokens hm e21) mw_X5_findTokens im_X5_findTokens se_X5_findTokens ml_X5_63 kq_3 (by decide) rfl rfl rfl (by decide) (by decide) (Nat.le_of_ble_eq_true rfl) dX5_read_26 rfl rfl ?_
  refine v_aload_n (pc := 29) O dX5_read_29 0 rfl ?_
  refine v_iconst (pc := 30) O dX5_read_30 ic_0 ?_
  obtain ⟨p22, e23, h⟩ := bind_some h
  refine v_callV (pc := 31) (a := 3) (As := [.int 0]) (rest := []) (r := none) (D' := p22) O (bb2 hT) (c_X5_goTo hm e23) mw_X5_goTo im_X5_goTo se_X5_goTo ml_X5_66 kq_3 (by decide) rfl rfl rfl (by decide) (by decide) (Nat.le_of_ble_eq_true rfl) dX5_read_31 rfl rfl ?_
  refine v_iconst (pc := 34) O dX5_read_34 ic_0 ?_
  refine v_istore_n (pc := 35) (lv' := [(2, .int 0), (0, .ref (bo X + pp 3)), (1, rv (bo X) x1)]) O dX5_read_35 rfl (by rw [hn]; decide) (by simp [rv_cat, cat_i, cat_l, cat_r, cat_n]) ?_
  refine v_sub [1, 0] rfl ?_
  exact w_X5_read_b36 O hm hn hT N 0 S p22 h
theorem c_X5_read {l : Launch} {w : Wx} {nu : Nat} {N : Nat} (hl : l.stackTraces = false) (hm : wlm w = true) {x1 : Option Nat} {S : Sr} {D : Dat} {z : Sum Nat Unit × Sr × Dat} (h : f_X5_read N nu x1 S D = some z) : C2 l w yX5_read cX5_read 3 none 1701 31773 [.ref (wb w + pp 3), rv (wb w) x1] nu S D (ru z) :=
  C2.of hl (by decide) (by simp [lg_sl, rv_cat, cat_i, cat_l, cat_r, cat_n, fmt_cat]) (fun X e1 e2 e3 hT O _ _ => by
  subst e1
  subst e2
  have q : lv_args 0 [.ref (bo X + pp 3), rv (bo X) x1] = [(0, .ref (bo X + pp 3)), (1, rv (bo X) x1)] := by simp [lv_args, rv_cat, cat_i, cat_l, cat_r, cat_n, fmt_cat]
  show V X _ _ _ D 0 (lv_args 0 [.ref (bo X + pp 3), rv (bo X) x1]) []
  rw [q]
  exact w_X5_read O hm e3 hT x1 S D h)
