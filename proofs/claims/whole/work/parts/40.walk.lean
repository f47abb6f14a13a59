theorem cw_X3_start : Cond.code yX3_start cX3_start 2 none ∈ tb := tb_of 1554 (by decide +kernel) (by decide +kernel)
theorem mw_X3_start : MW yX3_start cX3_start 2 none 1 := ⟨cw_X3_start, ini_X3, by decide +kernel⟩
theorem im_X3_start : Cond.instanceMethod yX3_start ∈ tb := tb_of 1552 (by decide +kernel) (by decide +kernel)
theorem se_X3_start : Cond.selects (yX3_start).cls yX3_start yX3_start ∈ tb := tb_of 1553 (by decide +kernel) (by decide +kernel)
theorem ml_X11_252 : Cond.methodLink RX11 252 yX3_start ∈ tb := tb_of 1551 (by decide +kernel) (by decide +kernel)
theorem fl_X5_51 : Cond.fieldLink RX5 51 RX5 (TX5 5).2.1 (TX5 5).2.2.1 ∈ tb := tb_of 239 (by decide +kernel) (by decide +kernel)
theorem gf_X5_5 : FI 5 RX5 TX5 10 tyX5 5 0 := ⟨rfl, inb_X5, tyX5_ok, nmX5, by decide, by decide, rfl, rfl, rfl⟩
theorem pf_X5_5 : PI 5 RX5 TX5 10 tyX5 5 0 .int := ⟨gf_X5_5, rfl, rfl⟩
theorem fl_X5_19 : Cond.fieldLink RX5 19 RX5 (TX5 0).2.1 (TX5 0).2.2.1 ∈ tb := tb_of 234 (by decide +kernel) (by decide +kernel)
theorem gf_X5_0 : FI 5 RX5 TX5 10 tyX5 0 3 := ⟨rfl, inb_X5, tyX5_ok, nmX5, by decide, by decide, rfl, rfl, rfl⟩
theorem lk_3_0 : lks 3 0 = some 1 := by decide +kernel
theorem ml_X5_222 : Cond.methodLink RX5 222 yX2_has ∈ tb := tb_of 971 (by decide +kernel) (by decide +kernel)
theorem cw_X5_roleHere : Cond.code yX5_roleHere cX5_roleHere 1 (some .int) ∈ tb := tb_of 942 (by decide +kernel) (by decide +kernel)
theorem mw_X5_roleHere : MW yX5_roleHere cX5_roleHere 1 (some .int) 0 := ⟨cw_X5_roleHere, ini_X5, by decide +kernel⟩
theorem im_X5_roleHere : Cond.instanceMethod yX5_roleHere ∈ tb := tb_of 941 (by decide +kernel) (by decide +kernel)
theorem se_X5_roleHere : Cond.selects (yX5_roleHere).cls yX5_roleHere yX5_roleHere ∈ tb := tb_of 14 (by decide +kernel) (by decide +kernel)
theorem ml_X5_156 : Cond.methodLink RX5 156 yX5_roleHere ∈ tb := tb_of 939 (by decide +kernel) (by decide +kernel)
theorem cw_X5_setRole : Cond.code yX5_setRole cX5_setRole 3 none ∈ tb := tb_of 962 (by decide +kernel) (by decide +kernel)
theorem mw_X5_setRole : MW yX5_setRole cX5_setRole 3 none 2 := ⟨cw_X5_setRole, ini_X5, by decide +kernel⟩
theorem im_X5_setRole : Cond.instanceMethod yX5_setRole ∈ tb := tb_of 961 (by decide +kernel) (by decide +kernel)
theorem se_X5_setRole : Cond.selects (yX5_setRole).cls yX5_setRole yX5_setRole ∈ tb := tb_of 15 (by decide +kernel) (by decide +kernel)
theorem ml_X5_111 : Cond.methodLink RX5 111 yX5_setRole ∈ tb := tb_of 959 (by decide +kernel) (by decide +kernel)
theorem pf_X10_1 : PI 10 RX10 TX10 2 tyX10 1 2 (.object "FlowChain$Program") := ⟨gf_X10_1, rfl, rfl⟩
theorem fl_X10_19 : Cond.fieldLink RX10 19 RX4 (TX4 0).2.1 (TX4 0).2.2.1 ∈ tb := tb_of 446 (by decide +kernel) (by decide +kernel)
theorem cw_X9_accepts : Cond.code yX9_accepts cX9_accepts 3 (some .boolean) ∈ tb := tb_of 1301 (by decide +kernel) (by decide +kernel)
theorem mw_X9_accepts : MW yX9_accepts cX9_accepts 3 (some .boolean) 2 := ⟨cw_X9_accepts, ini_X9, by decide +kernel⟩
theorem im_X9_accepts : Cond.instanceMethod yX9_accepts ∈ tb := tb_of 1299 (by decide +kernel) (by decide +kernel)
theorem se_X9_accepts : Cond.selects (yX9_accepts).cls yX9_accepts yX9_accepts ∈ tb := tb_of 1300 (by decide +kernel) (by decide +kernel)
theorem ml_X11_209 : Cond.methodLink RX11 209 yX9_accepts ∈ tb := tb_of 1298 (by decide +kernel) (by decide +kernel)
theorem cw_X9_heights : Cond.code yX9_heights cX9_heights 1 (some .int) ∈ tb := tb_of 1471 (by decide +kernel) (by decide +kernel)
theorem mw_X9_heights : MW yX9_heights cX9_heights 1 (some .int) 0 := ⟨cw_X9_heights, ini_X9, by decide +kernel⟩
theorem im_X9_heights : Cond.instanceMethod yX9_heights ∈ tb := tb_of 1469 (by decide +kernel) (by decide +kernel)
theorem se_X9_heights : Cond.selects (yX9_heights).cls yX9_heights yX9_heights ∈ tb := tb_of 1470 (by decide +kernel) (by decide +kernel)
theorem ml_X11_220 : Cond.methodLink RX11 220 yX9_heights ∈ tb := tb_of 1468 (by decide +kernel) (by decide +kernel)
theorem cw_X9_place : Cond.code yX9_place cX9_place 1 (some .int) ∈ tb := tb_of 1463 (by decide +kernel) (by decide +kernel)
theorem mw_X9_place : MW yX9_place cX9_place 1 (some .int) 0 := ⟨cw_X9_place, ini_X9, by decide +kernel⟩
theorem im_X9_place : Cond.instanceMethod yX9_place ∈ tb := tb_of 1461 (by decide +kernel) (by decide +kernel)
theorem se_X9_place : Cond.selects (yX9_place).cls yX9_place yX9_place ∈ tb := tb_of 1462 (by decide +kernel) (by decide +kernel)
theorem ml_X11_217 : Cond.methodLink RX11 217 yX9_place ∈ tb := tb_of 1460 (by decide +kernel) (by decide +kernel)
theorem cw_X9_kind : Cond.code yX9_kind cX9_kind 1 (some .int) ∈ tb := tb_of 1467 (by decide +kernel) (by decide +kernel)
theorem mw_X9_kind : MW yX9_kind cX9_kind 1 (some .int) 0 := ⟨cw_X9_kind, ini_X9, by decide +kernel⟩
theorem im_X9_kind : Cond.instanceMethod yX9_kind ∈ tb := tb_of 1465 (by decide +kernel) (by decide +kernel)
theorem se_X9_kind : Cond.selects (yX9_kind).cls yX9_kind yX9_kind ∈ tb := tb_of 1466 (by decide +kernel) (by decide +kernel)
theorem ml_X11_218 : Cond.methodLink RX11 218 yX9_kind ∈ tb := tb_of 1464 (by decide +kernel) (by decide +kernel)
theorem cw_X3_goOver : Cond.code yX3_goOver cX3_goOver 4 none ∈ tb := tb_of 1559 (by decide +kernel) (by decide +kernel)
theorem mw_X3_goOver : MW yX3_goOver cX3_goOver 4 none 1 := ⟨cw_X3_goOver, ini_X3, by decide +kernel⟩
theorem im_X3_goOver : Cond.instanceMethod yX3_goOver ∈ tb := tb_of 1557 (by decide +kernel) (by decide +kernel)
theorem se_X3_goOver : Cond.selects (yX3_goOver).cls yX3_goOver yX3_goOver ∈ tb := tb_of 1558 (by decide +kernel) (by decide +kernel)
theorem ml_X11_255 : Cond.methodLink RX11 255 yX3_goOver ∈ tb := tb_of 1556 (by decide +kernel) (by decide +kernel)
theorem cw_X3_ending : Cond.code yX3_ending cX3_ending 1 (some .int) ∈ tb := tb_of 1625 (by decide +kernel) (by decide +kernel)
theorem mw_X3_ending : MW yX3_ending cX3_ending 1 (some .int) 0 := ⟨cw_X3_ending, ini_X3, by decide +kernel⟩
theorem im_X3_ending : Cond.instanceMethod yX3_ending ∈ tb := tb_of 1623 (by decide +kernel) (by decide +kernel)
theorem se_X3_ending : Cond.selects (yX3_ending).cls yX3_ending yX3_ending ∈ tb := tb_of 1624 (by decide +kernel) (by decide +kernel)
theorem ml_X11_259 : Cond.methodLink RX11 259 yX3_ending ∈ tb := tb_of 1622 (by decide +kernel) (by decide +kernel)
theorem cw_X5_advance : Cond.code yX5_advance cX5_advance 2 none ∈ tb := tb_of 804 (by decide +kernel) (by decide +kernel)
theorem mw_X5_advance : MW yX5_advance cX5_advance 2 none 0 := ⟨cw_X5_advance, ini_X5, by decide +kernel⟩
theorem im_X5_advance : Cond.instanceMethod yX5_advance ∈ tb := tb_of 803 (by decide +kernel) (by decide +kernel)
theorem se_X5_advance : Cond.selects (yX5_advance).cls yX5_advance yX5_advance ∈ tb := tb_of 6 (by decide +kernel) (by decide +kernel)
theorem ml_X5_57 : Cond.methodLink RX5 57 yX5_advance ∈ tb := tb_of 801 (by decide +kernel) (by decide +kernel)
theorem tw_X5_219_221 : TW RX5 219 221 "java/util/NoSuchElementException" := ⟨by decide +kernel, tb_of 943 (by decide +kernel) (by decide +kernel), tb_of 190 (by decide +kernel) (by decide +kernel), by decide +kernel, by decide +kernel, by decide +kernel⟩
theorem ml_X10_29 : Cond.methodLink RX10 29 yX3_finish ∈ tb := tb_of 1668 (by decide +kernel) (by decide +kernel)
theorem cw_X5_openWith : Cond.code yX5_openWith cX5_openWith 2 none ∈ tb := tb_of 989 (by decide +kernel) (by decide +kernel)
theorem mw_X5_openWith : MW yX5_openWith cX5_openWith 2 none 1 := ⟨cw_X5_openWith, ini_X5, by decide +kernel⟩
theorem im_X5_openWith : Cond.instanceMethod yX5_openWith ∈ tb := tb_of 988 (by decide +kernel) (by decide +kernel)
theorem se_X5_openWith : Cond.selects (yX5_openWith).cls yX5_openWith yX5_openWith ∈ tb := tb_of 20 (by decide +kernel) (by decide +kernel)
theorem ml_X5_114 : Cond.methodLink RX5 114 yX5_openWith ∈ tb := tb_of 986 (by decide +kernel) (by decide +kernel)
theorem cw_X5_readExpression : Cond.code yX5_readExpression cX5_readExpression 2 (some .int) ∈ tb := tb_of 1078 (by decide +kernel) (by decide +kernel)
theorem mw_X5_readExpression : MW yX5_readExpression cX5_readExpression 2 (some .int) 0 := ⟨cw_X5_readExpression, ini_X5, by decide +kernel⟩
theorem im_X5_readExpression : Cond.instanceMethod yX5_readExpression ∈ tb := tb_of 1077 (by decide +kernel) (by decide +kernel)
theorem se_X5_readExpression : Cond.selects (yX5_readExpression).cls yX5_readExpression yX5_readExpression ∈ tb := tb_of 25 (by decide +kernel) (by decide +kernel)
theorem ml_X5_168 : Cond.methodLink RX5 168 yX5_readExpression ∈ tb := tb_of 1075 (by decide +kernel) (by decide +kernel)
theorem cw_X5_closeWith : Cond.code yX5_closeWith cX5_closeWith 2 none ∈ tb := tb_of 1098 (by decide +kernel) (by decide +kernel)
theorem mw_X5_closeWith : MW yX5_closeWith cX5_closeWith 2 none 1 := ⟨cw_X5_closeWith, ini_X5, by decide +kernel⟩
theorem im_X5_closeWith : Cond.instanceMethod yX5_closeWith ∈ tb := tb_of 1097 (by decide +kernel) (by decide +kernel)
theorem se_X5_closeWith : Cond.selects (yX5_closeWith).cls yX5_closeWith yX5_closeWith ∈ tb := tb_of 29 (by decide +kernel) (by decide +kernel)
theorem ml_X5_117 : Cond.methodLink RX5 117 yX5_closeWith ∈ tb := tb_of 1095 (by decide +kernel) (by decide +kernel)
theorem cw_X5_takeName : Cond.code yX5_takeName cX5_takeName 3 (some .int) ∈ tb := tb_of 1102 (by decide +kernel) (by decide +kernel)
theorem mw_X5_takeName : MW yX5_takeName cX5_takeName 3 (some .int) 1 := ⟨cw_X5_takeName, ini_X5, by decide +kernel⟩
theorem im_X5_takeName : Cond.instanceMethod yX5_takeName ∈ tb := tb_of 1101 (by decide +kernel) (by decide +kernel)
theorem se_X5_takeName : Cond.selects (yX5_takeName).cls yX5_takeName yX5_takeName ∈ tb := tb_of 30 (by decide +kernel) (by decide +kernel)
theorem ml_X5_186 : Cond.methodLink RX5 186 yX5_takeName ∈ tb := tb_of 1099 (by decide +kernel) (by decide +kernel)
theorem cw_X4_add : Cond.code yX4_add cX4_add 3 none ∈ tb := tb_of 1094 (by decide +kernel) (by decide +kernel)
theorem mw_X4_add : MW yX4_add cX4_add 3 none 2 := ⟨cw_X4_add, ini_X4, by decide +kernel⟩
theorem im_X4_add : Cond.instanceMethod yX4_add ∈ tb := tb_of 1092 (by decide +kernel) (by decide +kernel)
theorem se_X4_add : Cond.selects (yX4_add).cls yX4_add yX4_add ∈ tb := tb_of 1093 (by decide +kernel) (by decide +kernel)
theorem ml_X5_207 : Cond.methodLink RX5 207 yX4_add ∈ tb := tb_of 1091 (by decide +kernel) (by decide +kernel)
theorem cw_X5_readIndex : Cond.code yX5_readIndex cX5_readIndex 1 none ∈ tb := tb_of 1106 (by decide +kernel) (by decide +kernel)
theorem mw_X5_readIndex : MW yX5_readIndex cX5_readIndex 1 none 0 := ⟨cw_X5_readIndex, ini_X5, by decide +kernel⟩
theorem im_X5_readIndex : Cond.instanceMethod yX5_readIndex ∈ tb := tb_of 1105 (by decide +kernel) (by decide +kernel)
theorem se_X5_readIndex : Cond.selects (yX5_readIndex).cls yX5_readIndex yX5_readIndex ∈ tb := tb_of 31 (by decide +kernel) (by decide +kernel)
theorem ml_X5_195 : Cond.methodLink RX5 195 yX5_readIndex ∈ tb := tb_of 1103 (by decide +kernel) (by decide +kernel)
theorem cw_X5_readFactor : Cond.code yX5_readFactor cX5_readFactor 2 none ∈ tb := tb_of 1090 (by decide +kernel) (by decide +kernel)
theorem mw_X5_readFactor : MW yX5_readFactor cX5_readFactor 2 none 0 := ⟨cw_X5_readFactor, ini_X5, by decide +kernel⟩
theorem im_X5_readFactor : Cond.instanceMethod yX5_readFactor ∈ tb := tb_of 1089 (by decide +kernel) (by decide +kernel)
theorem se_X5_readFactor : Cond.selects (yX5_readFactor).cls yX5_readFactor yX5_readFactor ∈ tb := tb_of 28 (by decide +kernel) (by decide +kernel)
theorem ml_X5_213 : Cond.methodLink RX5 213 yX5_readFactor ∈ tb := tb_of 1087 (by decide +kernel) (by decide +kernel)
def f_X11_verify_b20 (N : Nat) (nu : Nat) (K : Nat → Nat) (D : Dat) : Option (Sum Nat Int32 × Dat) :=
  some (.inl 1, D)
set_option maxHeartbeats 4000000 in
theorem w_X11_verify_b20 {X : Cx} {n nu c u : Nat} {K : Nat → Nat} {N : Nat} {z : Sum Nat Int32 × Dat} (O : Ok X cX11_verify RX11 (some .int) 7 159) (hm : wlm (xw X) = true) (hn : xn X = 1) (hz : Z0 X (Ax nu K c u)) (hT : T1 X (zi z)) (D : Dat) (h : f_X11_verify_b20 N nu K D = some z) : V X (Q1 X n (Ax nu K c u) (zi z)) n (Ax nu K c u) D 20 [] [] := by
  unfold f_X11_verify_b20 at h
  obtain rfl := Option.some.inj h
  exact v_throw (pc := 20) (e := 1) O hz hT rfl tw_X11_121_123 (by decide) (Nat.le_of_ble_eq_true rfl) dX11_verify_20 dX11_verify_23 dX11_verify_24 dX11_verify_27
def f_X11_verify (N : Nat) (nu : Nat) (K : Nat → Nat) (D : Dat) : Option (Sum Nat Int32 × Dat) :=
  (f_X2_isSealed D).bind (fun p1 => if p1.1 = 0 then (f_X11_verify_b20 N nu K p1.2) else (((dR p1.2 0 10)).bind (fun a4 => if a4 = 201 ∨ a4 = 204 then ((f_X0_size a4 p1.2).bind (fun p7 => if p7.1 = 0 then (f_X11_verify_b20 N nu K p7.2) else ((f_X9_accepts N nu K (dR p7.2 0 10) 190 p7.2).bind (fun p10 => if p10.1 &&& 1 = p10.1 then (if (dI (sI p10.2 0 13 p10.1) 0 13) = 0 then ((f_X9_place (sI p10.2 0 13 p10.1)).bind (fun p18 => (f_X9_kind p18.2).bind (fun p20 => (f_X11_tell p18.1 p20.1 p20.2).bind (fun p22 => some (.inl 2, p22))))) else ((f_X11_tell (-1) (-1) (sI p10.2 0 13 p10.1)).bind (fun p14 => (f_X9_heights p14).bind (fun p16 => some (.inr p16.1, p16.2))))) else none)))) else none)))
set_option maxHeartbeats 4000000 in
theorem w_X11_verify {X : Cx} {n nu c u : Nat} {K : Nat → Nat} {N : Nat} {z : Sum Nat Int32 × Dat} (O : Ok X cX11_verify RX11 (some .int) 7 159) (hm : wlm (xw X) = true) (hn : xn X = 1) (hz : Z0 X (Ax nu K c u)) (hT : T1 X (zi z)) (D : Dat) (h : f_X11_verify N nu K D = some z) : V X (Q1 X n (Ax nu K c u) (zi z)) n (Ax nu K c u) D 0 [(0, .ref (bo X + 0))] [] := by
  unfold f_X11_verify at h
  refine v_aload_n (pc := 0) O dX11_verify_0 0 rfl ?_
  refine v_getK (pc := 1) (a := 0) O hm gf_X11_0 fl_X11_23 kq_0 lk_0_0 dX11_verify_1 ?_
  obtain ⟨p1, e2, h⟩ := bind_some h
  refine v_callV (pc := 4) (a := 1) (As := []) (rest := []) (r := (some (.int p1.1))) (D' := p1.2) O (bb0 hz) (c_X2_isSealed hm e2) mw_X2_isSealed im_X2_isSealed se_X2_isSealed ml_X11_117 kq_1 (by decide) rfl rfl rfl (by decide) (by decide) (Nat.le_of_ble_eq_true rfl) dX11_verify_4 rfl rfl ?_
  refine v_ifeq (pc := 7) 20 O dX11_verify_7 (by decide) (fun c3 => ?_) (fun c3 => ?_)
  · have h := (if_pos c3).symm.trans h
    refine v_sub [] rfl ?_
    exact w_X11_verify_b20 O hm hn hz hT p1.2 h
  · have h := (if_neg c3).symm.trans h
    refine v_aload_n (pc := 10) O dX11_verify_10 0 rfl ?_
    refine v_getR (pc := 11) (a := 0) O gf_X11_10 fl_X11_96 kq_0 dX11_verify_11 ?_
    obtain ⟨a4, e5, h⟩ := bind_some h
    rw [e5]
    obtain ⟨c6, h⟩ := if_none h
    obtain ⟨p7, e8, h⟩ := bind_some h
    refine v_callV (pc := 14) (a := a4) (As := []) (rest := []) (r := (some (.int p7.1))) (D' := p7.2) O (bb0 hz) (c_X0_size hm c6 e8) mw_X0_size im_X0_size se_X0_size ml_X11_197 (kt_X0 c6) (by decide) rfl rfl rfl (by decide) (by decide) (Nat.le_of_ble_eq_true rfl) dX11_verify_14 rfl rfl ?_
    refine v_ifne (pc := 17) 28 O dX11_verify_17 (by decide) (fun c9 => ?_) (fun c9 => ?_)
    · have h := (if_neg c9).symm.trans h
      refine v_aload_n (pc := 28) O dX11_verify_28 0 rfl ?_
      refine v_aload_n (pc := 29) O dX11_verify_29 0 rfl ?_
      refine v_getK (pc := 30) (a := 0) O hm gf_X11_4 fl_X11_53 kq_0 lk_0_4 dX11_verify_30 ?_
      refine v_aload_n (pc := 33) O dX11_verify_33 0 rfl ?_
      refine v_getR (pc := 34) (a := 0) O gf_X11_10 fl_X11_96 kq_0 dX11_verify_34 ?_
      refine v_aload_n (pc := 37) O dX11_verify_37 0 rfl ?_
      refine v_getK (pc := 38) (a := 0) O hm gf_X11_7 fl_X11_73 kq_0 lk_0_7 dX11_verify_38 ?_
      obtain ⟨p10, e11, h⟩ := bind_some h
      refine v_callV (pc := 41) (a := 107) (As := [rv (bo X) (dR p7.2 0 10), .ref (bo X + 190)]) (rest := [.ref (bo X + 0)]) (r := (some (.int p10.1))) (D' := p10.2) O (bb0 hz) (c_X9_accepts hm e11) mw_X9_accepts im_X9_accepts se_X9_accepts ml_X11_209 kq_107 (by decide) rfl rfl rfl (by decide) (by decide) (Nat.le_of_ble_eq_true rfl) dX11_verify_41 rfl rfl ?_
      obtain ⟨c12, h⟩ := if_none h
      refine v_putZ (pc := 44) (a := 0) O pf_X11_13 fl_X11_213 kq_0 (congrArg Value.int c12) dX11_verify_44 ?_
      refine v_aload_n (pc := 47) O dX11_verify_47 0 rfl ?_
      refine v_getI (pc := 48) (a := 0) O gf_X11_13 fl_X11_213 kq_0 dX11_verify_48 ?_
      refine v_ifne (pc := 51) 80 O dX11_verify_51 (by decide) (fun c13 => ?_) (fun c13 => ?_)
      · have h := (if_neg c13).symm.trans h
        refine v_aload_n (pc := 80) O dX11_verify_80 0 rfl ?_
        refine v_iconst (pc := 81) O dX11_verify_81 ic_m1 ?_
        refine v_iconst (pc := 82) O dX11_verify_82 ic_m1 ?_
        obtain ⟨p14, e15, h⟩ := bind_some h
        refine v_callV (pc := 83) (a := 0) (As := [.int (-1), .int (-1)]) (rest := []) (r := none) (D' := p14) O (bb0 hz) (c_X11_tell hm e15) mw_X11_tell im_X11_tell se_X11_tell ml_X11_135 kq_0 (by decide) rfl rfl rfl (by decide) (by decide) (Nat.le_of_ble_eq_true rfl) dX11_verify_83 rfl rfl ?_
        refine v_aload_n (pc := 86) O dX11_verify_86 0 rfl ?_
        refine v_getK (pc := 87) (a := 0) O hm gf_X11_4 fl_X11_53 kq_0 lk_0_4 dX11_verify_87 ?_
        obtain ⟨p16, e17, h⟩ := bind_some h
        refine v_callV (pc := 90) (a := 107) (As := []) (rest := []) (r := (some (.int p16.1))) (D' := p16.2) O (bb0 hz) (c_X9_heights hm e17) mw_X9_heights im_X9_heights se_X9_heights ml_X11_220 kq_107 (by decide) rfl rfl rfl (by decide) (by decide) (Nat.le_of_ble_eq_true rfl) dX11_verify_90 rfl rfl ?_
        obtain rfl := Option.some.inj h
        exact v_r1 (v_iret (pc := 93) O hz dX11_verify_93)
      · have h := (if_pos c13).symm.trans h
        refine v_aload_n (pc := 54) O dX11_verify_54 0 rfl ?_
        refine v_aload_n (pc := 55) O dX11_verify_55 0 rfl ?_
        refine v_getK (pc := 56) (a := 0) O hm gf_X11_4 fl_X11_53 kq_0 lk_0_4 dX11_verify_56 ?_
        obtain ⟨p18, e19, h⟩ := bind_some h
        refine v_callV (pc := 59) (a := 107) (As := []) (rest := [.ref (bo X + 0)]) (r := (some (.int p18.1))) (D' := p18.2) O (bb0 hz) (c_X9_place hm e19) mw_X9_place im_X9_place se_X9_place ml_X11_217 kq_107 (by decide) rfl rfl rfl (by decide) (by decide) (Nat.le_of_ble_eq_true rfl) dX11_verify_59 rfl rfl ?_
        refine v_aload_n (pc := 62) O dX11_verify_62 0 rfl ?_
        refine v_getK (pc := 63) (a := 0) O hm gf_X11_4 fl_X11_53 kq_0 lk_0_4 dX11_verify_63 ?_
        obtain ⟨p20, e21, h⟩ := bind_some h
        refine v_callV (pc := 66) (a := 107) (As := []) (rest := [.int p18.1, .ref (bo X + 0)]) (r := (some (.int p20.1))) (D' := p20.2) O (bb0 hz) (c_X9_kind hm e21) mw_X9_kind im_X9_kind se_X9_kind ml_X11_218 kq_107 (by decide) rfl rfl rfl (by decide) (by decide) (Nat.le_of_ble_eq_true rfl) dX11_verify_66 rfl rfl ?_
        obtain ⟨p22, e23, h⟩ := bind_some h
        refine v_callV (pc := 69) (a := 0) (As := [.int p18.1, .int p20.1]) (rest := []) (r := none) (D' := p22) O (bb0 hz) (c_X11_tell hm e23) mw_X11_tell im_X11_tell se_X11_tell ml_X11_135 kq_0 (by decide) rfl rfl rfl (by decide) (by decide) (Nat.le_of_ble_eq_true rfl) dX11_verify_69 rfl rfl ?_
        obtain rfl := Option.some.inj h
        exact v_throw (pc := 72) (e := 2) O hz hT rfl tw_X11_138_140 (by decide) (Nat.le_of_ble_eq_true rfl) dX11_verify_72 dX11_verify_75 dX11_verify_76 dX11_verify_79
    · have h := (if_pos c9).symm.trans h
      refine v_sub [] rfl ?_
      exact w_X11_verify_b20 O hm hn hz hT p7.2 h
theorem c_X11_verify {l : Launch} {w : Wx} {n nu c u : Nat} {K : Nat → Nat} {N : Nat} (hl : l.stackTraces = false) (hm : wlm w = true) {D : Dat} {z : Sum Nat Int32 × Dat} (h : f_X11_verify N nu K D = some z) : C1 l w yX11_verify cX11_verify 1 (some .int) 7 159 [.ref (wb w + 0)] n (Ax nu K c u) D (zi z) :=
  C1.of hl (by decide) (Nat.le_of_ble_eq_true rfl) (fun X e1 e2 e3 hz hT O => by
  subst e1
  subst e2
  exact w_X11_verify O hm e3 hz hT  D h)
def f_X11_run_b12 (N : Nat) (nu : Nat) (K : Nat → Nat) (D : Dat) : Option (Sum Nat Int32 × Dat) :=
  some (.inl 0, D)
set_option maxHeartbeats 4000000 in
theorem w_X11_run_b12 {X : Cx} {n nu c u : Nat} {K : Nat → Nat} {N : Nat} {z : Sum Nat Int32 × Dat} (O : Ok X cX11_run RX11 (some .int) 6 133) (hm : wlm (xw X) = true) (hn : xn X = 2) (hz : Z0 X (Ax nu K c u)) (hT : T1 X (zi z)) (D : Dat) (h : f_X11_run_b12 N nu K D = some z) : V X (Q1 X n (Ax nu K c u) (zi z)) n (Ax nu K c u) D 12 [] [] := by
  unfold f_X11_run_b12 at h
  obtain rfl := Option.some.inj h
  exact v_throw (pc := 12) (e := 0) O hz hT rfl tw_X11_114_116 (by decide) (Nat.le_of_ble_eq_true rfl) dX11_run_12 dX11_run_15 dX11_run_16 dX11_run_19
def f_X11_run (N : Nat) (nu : Nat) (K : Nat → Nat) (x1 : Int32) (D : Dat) : Option (Sum Nat Int32 × Dat) :=
  if x1 < 1 then (f_X11_run_b12 N nu K D) else (if x1 ≤ 600 then (if (dI D 0 13) = 0 then (some (.inl 2, D)) else ((f_X3_start N nu K x1 D).bind (fun p4 => (f_X3_goOver N (dR p4 0 10) p4).bind (fun p6 => (f_X3_ending p6).bind (fun p8 => some (.inr p8.1, p8.2)))))) else (f_X11_run_b12 N nu K D))
set_option maxHeartbeats 4000000 in
theorem w_X11_run {X : Cx} {n nu c u : Nat} {K : Nat → Nat} {N : Nat} {z : Sum Nat Int32 × Dat} (O : Ok X cX11_run RX11 (some .int) 6 133) (hm : wlm (xw X) = true) (hn : xn X = 2) (hz : Z0 X (Ax nu K c u)) (hT : T1 X (zi z)) (x1 : Int32) (D : Dat) (h : f_X11_run N nu K x1 D = some z) : V X (Q1 X n (Ax nu K c u) (zi z)) n (Ax nu K c u) D 0 [(0, .ref (bo X + 0)), (1, .int x1)] [] := by
  unfold f_X11_run at h
  refine v_iload_n (pc := 0) O dX11_run_0 1 rfl ?_
  refine v_iconst (pc := 1) O dX11_run_1 ic_1 ?_
  refine v_icmplt (pc := 2) 12 O dX11_run_2 (by decide) (fun c1 => ?_) (fun c1 => ?_)
  · have h := (if_pos c1).symm.trans h
    refine v_sub [] rfl ?_
    exact w_X11_run_b12 O hm hn hz hT D h
  · have h := (if_neg c1).symm.trans h
    refine v_iload_n (pc := 5) O dX11_run_5 1 rfl ?_
    refine v_sipush (pc := 6) O dX11_run_6 sp_600 ?_
    refine v_icmple (pc := 9) 20 O dX11_run_9 (by decide) (fun c2 => ?_) (fun c2 => ?_)
    · have h := (if_pos c2).symm.trans h
      refine v_aload_n (pc := 20) O dX11_run_20 0 rfl ?_
      refine v_getI (pc := 21) (a := 0) O gf_X11_13 fl_X11_213 kq_0 dX11_run_21 ?_
      refine v_ifne (pc := 24) 35 O dX11_run_24 (by decide) (fun c3 => ?_) (fun c3 => ?_)
      · have h := (if_neg c3).symm.trans h
        refine v_aload_n (pc := 35) O dX11_run_35 0 rfl ?_
        refine v_getK (pc := 36) (a := 0) O hm gf_X11_5 fl_X11_60 kq_0 lk_0_5 dX11_run_36 ?_
        refine v_iload_n (pc := 39) O dX11_run_39 1 rfl ?_
        obtain ⟨p4, e5, h⟩ := bind_some h
        refine v_callV (pc := 40) (a := 181) (As := [.int x1]) (rest := []) (r := none) (D' := p4) O (bb0 hz) (c_X3_start hm e5) mw_X3_start im_X3_start se_X3_start ml_X11_252 kq_181 (by decide) rfl rfl rfl (by decide) (by decide) (Nat.le_of_ble_eq_true rfl) dX11_run_40 rfl rfl ?_
        refine v_aload_n (pc := 43) O dX11_run_43 0 rfl ?_
        refine v_getK (pc := 44) (a := 0) O hm gf_X11_5 fl_X11_60 kq_0 lk_0_5 dX11_run_44 ?_
        refine v_aload_n (pc := 47) O dX11_run_47 0 rfl ?_
        refine v_getR (pc := 48) (a := 0) O gf_X11_10 fl_X11_96 kq_0 dX11_run_48 ?_
        obtain ⟨p6, e7, h⟩ := bind_some h
        refine v_callV (pc := 51) (a := 181) (As := [rv (bo X) (dR p4 0 10)]) (rest := []) (r := none) (D' := p6) O (bb0 hz) (c_X3_goOver hm e7) mw_X3_goOver im_X3_goOver se_X3_goOver ml_X11_255 kq_181 (by decide) rfl rfl rfl (by decide) (by decide) (Nat.le_of_ble_eq_true rfl) dX11_run_51 rfl rfl ?_
        refine v_aload_n (pc := 54) O dX11_run_54 0 rfl ?_
        refine v_getK (pc := 55) (a := 0) O hm gf_X11_5 fl_X11_60 kq_0 lk_0_5 dX11_run_55 ?_
        obtain ⟨p8, e9, h⟩ := bind_some h
        refine v_callV (pc := 58) (a := 181) (As := []) (rest := []) (r := (some (.int p8.1))) (D' := p8.2) O (bb0 hz) (c_X3_ending hm e9) mw_X3_ending im_X3_ending se_X3_ending ml_X11_259 kq_181 (by decide) rfl rfl rfl (by decide) (by decide) (Nat.le_of_ble_eq_true rfl) dX11_run_58 rfl rfl ?_
        obtain rfl := Option.some.inj h
        exact v_r1 (v_iret (pc := 61) O hz dX11_run_61)
      · have h := (if_pos c3).symm.trans h
        obtain rfl := Option.some.inj h
        exact v_throw (pc := 27) (e := 2) O hz hT rfl tw_X11_138_140 (by decide) (Nat.le_of_ble_eq_true rfl) dX11_run_27 dX11_run_30 dX11_run_31 dX11_run_34
    · have h := (if_neg c2).symm.trans h
      refine v_sub [] rfl ?_
      exact w_X11_run_b12 O hm hn hz hT D h
theorem c_X11_run {l : Launch} {w : Wx} {n nu c u : Nat} {K : Nat → Nat} {N : Nat} (hl : l.stackTraces = false) (hm : wlm w = true) {x1 : Int32} {D : Dat} {z : Sum Nat Int32 × Dat} (h : f_X11_run N nu K x1 D = some z) : C1 l w yX11_run cX11_run 2 (some .int) 6 133 [.ref (wb w + 0), .int x1] n (Ax nu K c u) D (zi z) :=
  C1.of hl (by decide) (Nat.le_of_ble_eq_true rfl) (fun X e1 e2 e3 hz hT O => by
  subst e1
  subst e2
  exact w_X11_run O hm e3 hz hT x1 D h)
def f_X5_openWith_b17 (N : Nat) (nu : Nat) (S : Sr) (D : Dat) : Option (Sum Nat Unit × Sr × Dat) :=
  if 1 ≤ S.2.2.1 ∧ 6 ≤ S.2.2.2 then some (.inl 4, (S.1, S.2.1, S.2.2.1 - 1, S.2.2.2 - 6), D) else none
set_option maxHeartbeats 4000000 in
theorem w_X5_openWith_b17 {X : Cx} {nu : Nat} {N : Nat} {z : Sum Nat Unit × Sr × Dat} (O : Ok X cX5_openWith RX5 none 6 139) (hm : wlm (xw X) = true) (hn : xn X = 2) (hT : T2 X) (S : Sr) (D : Dat) (h : f_X5_openWith_b17 N nu S D = some z) : V X (Q2 X nu (ru z)) S.1 (Az nu S) D 17 [] [] := by
  unfold f_X5_openWith_b17 at h
  obtain ⟨c1, h⟩ := if_none h
  obtain rfl := Option.some.inj h
  exact v_throw2 (pc := 17) (e := 4) O hT c1 rfl tw_X5_219_221 (by decide) (Nat.le_of_ble_eq_true rfl) dX5_openWith_17 dX5_openWith_20 dX5_openWith_21 dX5_openWith_24
def f_X5_openWith (N : Nat) (nu : Nat) (x1 : Int32) (S : Sr) (D : Dat) : Option (Sum Nat Unit × Sr × Dat) :=
  if (dI D 3 6) = x1 then (if (dI D 3 5) < 8 then ((f_X5_advance N (sI D 3 5 ((dI D 3 5) + (1 : Int32)))).bind (fun p4 => some (.inr (), S, p4))) else (f_X5_openWith_b17 N nu S D)) else (f_X5_openWith_b17 N nu S D)
set_option maxHeartbeats 4000000 in
theorem w_X5_openWith {X : Cx} {nu : Nat} {N : Nat} {z : Sum Nat Unit × Sr × Dat} (O : Ok X cX5_openWith RX5 none 6 139) (hm : wlm (xw X) = true) (hn : xn X = 2) (hT : T2 X) (x1 : Int32) (S : Sr) (D : Dat) (h : f_X5_openWith N nu x1 S D = some z) : V X (Q2 X nu (ru z)) S.1 (Az nu S) D 0 [(0, .ref (bo X + 3)), (1, .int x1)] [] := by
  unfold f_X5_openWith at h
  refine v_aload_n (pc := 0) O dX5_openWith_0 0 rfl ?_
  refine v_getI (pc := 1) (a := 3) O gf_X5_6 fl_X5_120 kq_3 dX5_openWith_1 ?_
  refine v_iload_n (pc := 4) O dX5_openWith_4 1 rfl ?_
  refine v_icmpne (pc := 5) 17 O dX5_openWith_5 (by decide) (fun c2 => ?_) (fun c2 => ?_)
  · have h := (if_neg c2).symm.trans h
    refine v_sub [] rfl ?_
    exact w_X5_openWith_b17 O hm hn hT S D h
  · have h := (if_pos c2).symm.trans h
    refine v_aload_n (pc := 8) O dX5_openWith_8 0 rfl ?_
    refine v_getI (pc := 9) (a := 3) O gf_X5_5 fl_X5_51 kq_3 dX5_openWith_9 ?_
    refine v_bipush (pc := 12) O dX5_openWith_12 bp_8 ?_
    refine v_icmplt (pc := 14) 25 O dX5_openWith_14 (by decide) (fun c3 => ?_) (fun c3 => ?_)
    · have h := (if_pos c3).symm.trans h
      refine v_aload_n (pc := 25) O dX5_openWith_25 0 rfl ?_
      refine v_dup (pc := 26) O dX5_openWith_26 rfl ?_
      refine v_getI (pc := 27) (a := 3) O gf_X5_5 fl_X5_51 kq_3 dX5_openWith_27 ?_
      refine v_iconst (pc := 30) O dX5_openWith_30 ic_1 ?_
      refine v_iadd (pc := 31) O dX5_openWith_31 ?_
      refine v_putI (pc := 32) (a := 3) O pf_X5_5 fl_X5_51 kq_3 dX5_openWith_32 ?_
      refine v_aload_n (pc := 35) O dX5_openWith_35 0 rfl ?_
      obtain ⟨p4, e5, h⟩ := bind_some h
      refine v_callV (pc := 36) (a := 3) (As := []) (rest := []) (r := none) (D' := p4) O (bb2 hT) (c_X5_advance hm e5) mw_X5_advance im_X5_advance se_X5_advance ml_X5_57 kq_3 (by decide) rfl rfl rfl (by decide) (by decide) (Nat.le_of_ble_eq_true rfl) dX5_openWith_36 rfl rfl ?_
      obtain rfl := Option.some.inj h
      exact v_vret2 (pc := 39) O dX5_openWith_39
    · have h := (if_neg c3).symm.trans h
      refine v_sub [] rfl ?_
      exact w_X5_openWith_b17 O hm hn hT S D h
theorem c_X5_openWith {l : Launch} {w : Wx} {nu : Nat} {N : Nat} (hl : l.stackTraces = false) (hm : wlm w = true) {x1 : Int32} {S : Sr} {D : Dat} {z : Sum Nat Unit × Sr × Dat} (h : f_X5_openWith N nu x1 S D = some z) : C2 l w yX5_openWith cX5_openWith 2 none 6 139 [.ref (wb w + 3), .int x1] nu S D (ru z) :=
  C2.of hl (by decide) (Nat.le_of_ble_eq_true rfl) (fun X e1 e2 e3 hT O _ _ => by
  subst e1
  subst e2
  exact w_X5_openWith O hm e3 hT x1 S D h)
def f_X5_closeWith (N : Nat) (nu : Nat) (x1 : Int32) (S : Sr) (D : Dat) : Option (Sum Nat Unit × Sr × Dat) :=
  if (dI D 3 6) = x1 then ((f_X5_advance N (sI D 3 5 ((dI D 3 5) - (1 : Int32)))).bind (fun p2 => some (.inr (), S, p2))) else (if 1 ≤ S.2.2.1 ∧ 6 ≤ S.2.2.2 then some (.inl 4, (S.1, S.2.1, S.2.2.1 - 1, S.2.2.2 - 6), D) else none)
set_option maxHeartbeats 4000000 in
theorem w_X5_closeWith {X : Cx} {nu : Nat} {N : Nat} {z : Sum Nat Unit × Sr × Dat} (O : Ok X cX5_closeWith RX5 none 6 139) (hm : wlm (xw X) = true) (hn : xn X = 2) (hT : T2 X) (x1 : Int32) (S : Sr) (D : Dat) (h : f_X5_closeWith N nu x1 S D = some z) : V X (Q2 X nu (ru z)) S.1 (Az nu S) D 0 [(0, .ref (bo X + 3)), (1, .int x1)] [] := by
  unfold f_X5_closeWith at h
  refine v_aload_n (pc := 0) O dX5_closeWith_0 0 rfl ?_
  refine v_getI (pc := 1) (a := 3) O gf_X5_6 fl_X5_120 kq_3 dX5_closeWith_1 ?_
  refine v_iload_n (pc := 4) O dX5_closeWith_4 1 rfl ?_
  refine v_icmpeq (pc := 5) 16 O dX5_closeWith_5 (by decide) (fun c1 => ?_) (fun c1 => ?_)
  · have h := (if_pos c1).symm.trans h
    refine v_aload_n (pc := 16) O dX5_closeWith_16 0 rfl ?_
    refine v_dup (pc := 17) O dX5_closeWith_17 rfl ?_
    refine v_getI (pc := 18) (a := 3) O gf_X5_5 fl_X5_51 kq_3 dX5_closeWith_18 ?_
    refine v_iconst (pc := 21) O dX5_closeWith_21 ic_1 ?_
    refine v_isub (pc := 22) O dX5_closeWith_22 ?_
    refine v_putI (pc := 23) (a := 3) O pf_X5_5 fl_X5_51 kq_3 dX5_closeWith_23 ?_
    refine v_aload_n (pc := 26) O dX5_closeWith_26 0 rfl ?_
    obtain ⟨p2, e3, h⟩ := bind_some h
    refine v_callV (pc := 27) (a := 3) (As := []) (rest := []) (r := none) (D' := p2) O (bb2 hT) (c_X5_advance hm e3) mw_X5_advance im_X5_advance se_X5_advance ml_X5_57 kq_3 (by decide) rfl rfl rfl (by decide) (by decide) (Nat.le_of_ble_eq_true rfl) dX5_closeWith_27 rfl rfl ?_
    obtain rfl := Option.some.inj h
    exact v_vret2 (pc := 30) O dX5_closeWith_30
  · have h := (if_neg c1).symm.trans h
    obtain ⟨c4, h⟩ := if_none h
    obtain rfl := Option.some.inj h
    exact v_throw2 (pc := 8) (e := 4) O hT c4 rfl tw_X5_219_221 (by decide) (Nat.le_of_ble_eq_true rfl) dX5_closeWith_8 dX5_closeWith_11 dX5_closeWith_12 dX5_closeWith_15
theorem c_X5_closeWith {l : Launch} {w : Wx} {nu : Nat} {N : Nat} (hl : l.stackTraces = false) (hm : wlm w = true) {x1 : Int32} {S : Sr} {D : Dat} {z : Sum Nat Unit × Sr × Dat} (h : f_X5_closeWith N nu x1 S D = some z) : C2 l w yX5_closeWith cX5_closeWith 2 none 6 139 [.ref (wb w + 3), .int x1] nu S D (ru z) :=
  C2.of hl (by decide) (Nat.le_of_ble_eq_true rfl) (fun X e1 e2 e3 hT O _ _ => by
  subst e1
  subst e2
  exact w_X5_closeWith O hm e3 hT x1 S D h)
def f_X5_take (N : Nat) (nu : Nat) (x1 : Int32) (S : Sr) (D : Dat) : Option (Sum Nat Unit × Sr × Dat) :=
  if (dI D 3 6) = x1 then ((f_X5_advance N D).bind (fun p2 => some (.inr (), S, p2))) else (if 1 ≤ S.2.2.1 ∧ 6 ≤ S.2.2.2 then some (.inl 4, (S.1, S.2.1, S.2.2.1 - 1, S.2.2.2 - 6), D) else none)
set_option maxHeartbeats 4000000 in
theorem w_X5_take {X : Cx} {nu : Nat} {N : Nat} {z : Sum Nat Unit × Sr × Dat} (O : Ok X cX5_take RX5 none 6 139) (hm : wlm (xw X) = true) (hn : xn X = 2) (hT : T2 X) (x1 : Int32) (S : Sr) (D : Dat) (h : f_X5_take N nu x1 S D = some z) : V X (Q2 X nu (ru z)) S.1 (Az nu S) D 0 [(0, .ref (bo X + 3)), (1, .int x1)] [] := by
  unfold f_X5_take at h
  refine v_aload_n (pc := 0) O dX5_take_0 0 rfl ?_
  refine v_getI (pc := 1) (a := 3) O gf_X5_6 fl_X5_120 kq_3 dX5_take_1 ?_
  refine v_iload_n (pc := 4) O dX5_take_4 1 rfl ?_
  refine v_icmpeq (pc := 5) 16 O dX5_take_5 (by decide) (fun c1 => ?_) (fun c1 => ?_)
  · have h := (if_pos c1).symm.trans h
    refine v_aload_n (pc := 16) O dX5_take_16 0 rfl ?_
    obtain ⟨p2, e3, h⟩ := bind_some h
    refine v_callV (pc := 17) (a := 3) (As := []) (rest := []) (r := none) (D' := p2) O (bb2 hT) (c_X5_advance hm e3) mw_X5_advance im_X5_advance se_X5_advance ml_X5_57 kq_3 (by decide) rfl rfl rfl (by decide) (by decide) (Nat.le_of_ble_eq_true rfl) dX5_take_17 rfl rfl ?_
    obtain rfl := Option.some.inj h
    exact v_vret2 (pc := 20) O dX5_take_20
  · have h := (if_neg c1).symm.trans h
    obtain ⟨c4, h⟩ := if_none h
    obtain rfl := Option.some.inj h
    exact v_throw2 (pc := 8) (e := 4) O hT c4 rfl tw_X5_219_221 (by decide) (Nat.le_of_ble_eq_true rfl) dX5_take_8 dX5_take_11 dX5_take_12 dX5_take_15
theorem c_X5_take {l : Launch} {w : Wx} {nu : Nat} {N : Nat} (hl : l.stackTraces = false) (hm : wlm w = true) {x1 : Int32} {S : Sr} {D : Dat} {z : Sum Nat Unit × Sr × Dat} (h : f_X5_take N nu x1 S D = some z) : C2 l w yX5_take cX5_take 2 none 6 139 [.ref (wb w + 3), .int x1] nu S D (ru z) :=
  C2.of hl (by decide) (Nat.le_of_ble_eq_true rfl) (fun X e1 e2 e3 hT O _ _ => by
  subst e1
  subst e2
  exact w_X5_take O hm e3 hT x1 S D h)
def f_X5_takeLabel_b22 (N : Nat) (nu : Nat) (S : Sr) (D : Dat) : Option (Sum Nat Int32 × Sr × Dat) :=
  if 1 ≤ S.2.2.1 ∧ 6 ≤ S.2.2.2 then some (.inl 4, (S.1, S.2.1, S.2.2.1 - 1, S.2.2.2 - 6), D) else none
set_option maxHeartbeats 4000000 in
theorem w_X5_takeLabel_b22 {X : Cx} {nu : Nat} {N : Nat} {z : Sum Nat Int32 × Sr × Dat} (O : Ok X cX5_takeLabel RX5 (some .int) 6 139) (hm : wlm (xw X) = true) (hn : xn X = 2) (hT : T2 X) (S : Sr) (D : Dat) (h : f_X5_takeLabel_b22 N nu S D = some z) : V X (Q2 X nu (ri z)) S.1 (Az nu S) D 22 [] [] := by
  unfold f_X5_takeLabel_b22 at h
  obtain ⟨c1, h⟩ := if_none h
  obtain rfl := Option.some.inj h
  exact v_throw2 (pc := 22) (e := 4) O hT c1 rfl tw_X5_219_221 (by decide) (Nat.le_of_ble_eq_true rfl) dX5_takeLabel_22 dX5_takeLabel_25 dX5_takeLabel_26 dX5_takeLabel_29
def f_X5_takeLabel (N : Nat) (nu : Nat) (S : Sr) (D : Dat) : Option (Sum Nat Int32 × Sr × Dat) :=
  if (dI D 3 6) = 2 then ((f_X2_has (dI D 3 9) D).bind (fun p3 => if p3.1 = 0 then (f_X5_takeLabel_b22 N nu S p3.2) else ((f_X5_advance N p3.2).bind (fun p6 => some (.inr (dI p3.2 3 9), S, p6))))) else (f_X5_takeLabel_b22 N nu S D)
set_option maxHeartbeats 4000000 in
theorem w_X5_takeLabel {X : Cx} {nu : Nat} {N : Nat} {z : Sum Nat Int32 × Sr × Dat} (O : Ok X cX5_takeLabel RX5 (some .int) 6 139) (hm : wlm (xw X) = true) (hn : xn X = 2) (hT : T2 X) (S : Sr) (D : Dat) (h : f_X5_takeLabel N nu S D = some z) : V X (Q2 X nu (ri z)) S.1 (Az nu S) D 0 [(0, .ref (bo X + 3))] [] := by
  unfold f_X5_takeLabel at h
  refine v_aload_n (pc := 0) O dX5_takeLabel_0 0 rfl ?_
  refine v_getI (pc := 1) (a := 3) O gf_X5_6 fl_X5_120 kq_3 dX5_takeLabel_1 ?_
  refine v_iconst (pc := 4) O dX5_takeLabel_4 ic_2 ?_
  refine v_icmpne (pc := 5) 22 O dX5_takeLabel_5 (by decide) (fun c2 => ?_) (fun c2 => ?_)
  · have h := (if_neg c2).symm.trans h
    refine v_sub [] rfl ?_
    exact w_X5_takeLabel_b22 O hm hn hT S D h
  · have h := (if_pos c2).symm.trans h
    refine v_aload_n (pc := 8) O dX5_takeLabel_8 0 rfl ?_
    refine v_getK (pc := 9) (a := 3) O hm gf_X5_0 fl_X5_19 kq_3 lk_3_0 dX5_takeLabel_9 ?_
    refine v_aload_n (pc := 12) O dX5_takeLabel_12 0 rfl ?_
    refine v_getI (pc := 13) (a := 3) O gf_X5_9 fl_X5_216 kq_3 dX5_takeLabel_13 ?_
    obtain ⟨p3, e4, h⟩ := bind_some h
    refine v_callV (pc := 16) (a := 1) (As := [.int (dI D 3 9)]) (rest := []) (r := (some (.int p3.1))) (D' := p3.2) O (bb2 hT) (c_X2_has hm e4) mw_X2_has im_X2_has se_X2_has ml_X5_222 kq_1 (by decide) rfl rfl rfl (by decide) (by decide) (Nat.le_of_ble_eq_true rfl) dX5_takeLabel_16 rfl rfl ?_
    refine v_ifne (pc := 19) 30 O dX5_takeLabel_19 (by decide) (fun c5 => ?_) (fun c5 => ?_)
    · have h := (if_neg c5).symm.trans h
      refine v_aload_n (pc := 30) O dX5_takeLabel_30 0 rfl ?_
      refine v_getI (pc := 31) (a := 3) O gf_X5_9 fl_X5_216 kq_3 dX5_takeLabel_31 ?_
      refine v_istore_n (pc := 34) (lv' := [(1, .int (dI p3.2 3 9)), (0, .ref (bo X + 3))]) O dX5_takeLabel_34 rfl (by rw [hn]; decide) rfl ?_
      refine v_aload_n (pc := 35) O dX5_takeLabel_35 1 rfl ?_
      obtain ⟨p6, e7, h⟩ := bind_some h
      refine v_callV (pc := 36) (a := 3) (As := []) (rest := []) (r := none) (D' := p6) O (bb2 hT) (c_X5_advance hm e7) mw_X5_advance im_X5_advance se_X5_advance ml_X5_57 kq_3 (by decide) rfl rfl rfl (by decide) (by decide) (Nat.le_of_ble_eq_true rfl) dX5_takeLabel_36 rfl rfl ?_
      refine v_iload_n (pc := 39) O dX5_takeLabel_39 0 rfl ?_
      obtain rfl := Option.some.inj h
      exact v_iret2 (pc := 40) O dX5_takeLabel_40
    · have h := (if_pos c5).symm.trans h
      refine v_sub [] rfl ?_
      exact w_X5_takeLabel_b22 O hm hn hT S p3.2 h
theorem c_X5_takeLabel {l : Launch} {w : Wx} {nu : Nat} {N : Nat} (hl : l.stackTraces = false) (hm : wlm w = true) {S : Sr} {D : Dat} {z : Sum Nat Int32 × Sr × Dat} (h : f_X5_takeLabel N nu S D = some z) : C2 l w yX5_takeLabel cX5_takeLabel 2 (some .int) 6 139 [.ref (wb w + 3)] nu S D (ri z) :=
  C2.of hl (by decide) (Nat.le_of_ble_eq_true rfl) (fun X e1 e2 e3 hT O _ _ => by
  subst e1
  subst e2
  exact w_X5_takeLabel O hm e3 hT  S D h)
def f_X5_takeNewName (N : Nat) (nu : Nat) (x1 : Int32) (S : Sr) (D : Dat) : Option (Sum Nat Int32 × Sr × Dat) :=
  (f_X5_roleHere D).bind (fun p1 => if p1.1 = 0 then ((f_X5_setRole (dI p1.2 3 9) x1 p1.2).bind (fun p4 => (f_X5_advance N p4).bind (fun p6 => some (.inr (dI p1.2 3 9), S, p6)))) else (if 1 ≤ S.2.2.1 ∧ 6 ≤ S.2.2.2 then some (.inl 4, (S.1, S.2.1, S.2.2.1 - 1, S.2.2.2 - 6), p1.2) else none))
set_option maxHeartbeats 4000000 in
theorem w_X5_takeNewName {X : Cx} {nu : Nat} {N : Nat} {z : Sum Nat Int32 × Sr × Dat} (O : Ok X cX5_takeNewName RX5 (some .int) 6 139) (hm : wlm (xw X) = true) (hn : xn X = 3) (hT : T2 X) (x1 : Int32) (S : Sr) (D : Dat) (h : f_X5_takeNewName N nu x1 S D = some z) : V X (Q2 X nu (ri z)) S.1 (Az nu S) D 0 [(0, .ref (bo X + 3)), (1, .int x1)] [] := by
  unfold f_X5_takeNewName at h
  refine v_aload_n (pc := 0) O dX5_takeNewName_0 0 rfl ?_
  obtain ⟨p1, e2, h⟩ := bind_some h
  refine v_callV (pc := 1) (a := 3) (As := []) (rest := []) (r := (some (.int p1.1))) (D' := p1.2) O (bb2 hT) (c_X5_roleHere hm e2) mw_X5_roleHere im_X5_roleHere se_X5_roleHere ml_X5_156 kq_3 (by decide) rfl rfl rfl (by decide) (by decide) (Nat.le_of_ble_eq_true rfl) dX5_takeNewName_1 rfl rfl ?_
  refine v_ifeq (pc := 4) 15 O dX5_takeNewName_4 (by decide) (fun c3 => ?_) (fun c3 => ?_)
  · have h := (if_pos c3).symm.trans h
    refine v_aload_n (pc := 15) O dX5_takeNewName_15 0 rfl ?_
    refine v_getI (pc := 16) (a := 3) O gf_X5_9 fl_X5_216 kq_3 dX5_takeNewName_16 ?_
    refine v_istore_n (pc := 19) (lv' := [(2, .int (dI p1.2 3 9)), (0, .ref (bo X + 3)), (1, .int x1)]) O dX5_takeNewName_19 rfl (by rw [hn]; decide) rfl ?_
    refine v_aload_n (pc := 20) O dX5_takeNewName_20 1 rfl ?_
    refine v_iload_n (pc := 21) O dX5_takeNewName_21 0 rfl ?_
    refine v_iload_n (pc := 22) O dX5_takeNewName_22 2 rfl ?_
    obtain ⟨p4, e5, h⟩ := bind_some h
    refine v_callV (pc := 23) (a := 3) (As := [.int (dI p1.2 3 9), .int x1]) (rest := []) (r := none) (D' := p4) O (bb2 hT) (c_X5_setRole hm e5) mw_X5_setRole im_X5_setRole se_X5_setRole ml_X5_111 kq_3 (by decide) rfl rfl rfl (by decide) (by decide) (Nat.le_of_ble_eq_true rfl) dX5_takeNewName_23 rfl rfl ?_
    refine v_aload_n (pc := 26) O dX5_takeNewName_26 1 rfl ?_
    obtain ⟨p6, e7, h⟩ := bind_some h
    refine v_callV (pc := 27) (a := 3) (As := []) (rest := []) (r := none) (D' := p6) O (bb2 hT) (c_X5_advance hm e7) mw_X5_advance im_X5_advance se_X5_advance ml_X5_57 kq_3 (by decide) rfl rfl rfl (by decide) (by decide) (Nat.le_of_ble_eq_true rfl) dX5_takeNewName_27 rfl rfl ?_
    refine v_iload_n (pc := 30) O dX5_takeNewName_30 0 rfl ?_
    obtain rfl := Option.some.inj h
    exact v_iret2 (pc := 31) O dX5_takeNewName_31
  · have h := (if_neg c3).symm.trans h
    obtain ⟨c8, h⟩ := if_none h
    obtain rfl := Option.some.inj h
    exact v_throw2 (pc := 7) (e := 4) O hT c8 rfl tw_X5_219_221 (by decide) (Nat.le_of_ble_eq_true rfl) dX5_takeNewName_7 dX5_takeNewName_10 dX5_takeNewName_11 dX5_takeNewName_14
theorem c_X5_takeNewName {l : Launch} {w : Wx} {nu : Nat} {N : Nat} (hl : l.stackTraces = false) (hm : wlm w = true) {x1 : Int32} {S : Sr} {D : Dat} {z : Sum Nat Int32 × Sr × Dat} (h : f_X5_takeNewName N nu x1 S D = some z) : C2 l w yX5_takeNewName cX5_takeNewName 3 (some .int) 6 139 [.ref (wb w + 3), .int x1] nu S D (ri z) :=
  C2.of hl (by decide) (Nat.le_of_ble_eq_true rfl) (fun X e1 e2 e3 hT O _ _ => by
  subst e1
  subst e2
  exact w_X5_takeNewName O hm e3 hT x1 S D h)
def f_X5_takeName_b21 (N : Nat) (nu : Nat) (x1 : Int32) (S : Sr) (D : Dat) : Option (Sum Nat Int32 × Sr × Dat) :=
  (f_X5_roleHere D).bind (fun p1 => if p1.1 = x1 then ((f_X5_advance N p1.2).bind (fun p4 => some (.inr (dI p1.2 3 9), S, p4))) else (if 1 ≤ S.2.2.1 ∧ 6 ≤ S.2.2.2 then some (.inl 4, (S.1, S.2.1, S.2.2.1 - 1, S.2.2.2 - 6), p1.2) else none))
set_option maxHeartbeats 4000000 in
theorem w_X5_takeName_b21 {X : Cx} {nu : Nat} {N : Nat} {z : Sum Nat Int32 × Sr × Dat} (O : Ok X cX5_takeName RX5 (some .int) 6 139) (hm : wlm (xw X) = true) (hn : xn X = 3) (hT : T2 X) (x1 : Int32) (S : Sr) (D : Dat) (h : f_X5_takeName_b21 N nu x1 S D = some z) : V X (Q2 X nu (ri z)) S.1 (Az nu S) D 21 [(0, .ref (bo X + 3)), (1, .int x1)] [] := by
  unfold f_X5_takeName_b21 at h
  refine v_aload_n (pc := 21) O dX5_takeName_21 0 rfl ?_
  obtain ⟨p1, e2, h⟩ := bind_some h
  refine v_callV (pc := 22) (a := 3) (As := []) (rest := []) (r := (some (.int p1.1))) (D' := p1.2) O (bb2 hT) (c_X5_roleHere hm e2) mw_X5_roleHere im_X5_roleHere se_X5_roleHere ml_X5_156 kq_3 (by decide) rfl rfl rfl (by decide) (by decide) (Nat.le_of_ble_eq_true rfl) dX5_takeName_22 rfl rfl ?_
  refine v_iload_n (pc := 25) O dX5_takeName_25 1 rfl ?_
  refine v_icmpeq (pc := 26) 37 O dX5_takeName_26 (by decide) (fun c3 => ?_) (fun c3 => ?_)
  · have h := (if_pos c3).symm.trans h
    refine v_aload_n (pc := 37) O dX5_takeName_37 0 rfl ?_
    refine v_getI (pc := 38) (a := 3) O gf_X5_9 fl_X5_216 kq_3 dX5_takeName_38 ?_
    refine v_istore_n (pc := 41) (lv' := [(2, .int (dI p1.2 3 9)), (0, .ref (bo X + 3)), (1, .int x1)]) O dX5_takeName_41 rfl (by rw [hn]; decide) rfl ?_
    refine v_aload_n (pc := 42) O dX5_takeName_42 1 rfl ?_
    obtain ⟨p4, e5, h⟩ := bind_some h
    refine v_callV (pc := 43) (a := 3) (As := []) (rest := []) (r := none) (D' := p4) O (bb2 hT) (c_X5_advance hm e5) mw_X5_advance im_X5_advance se_X5_advance ml_X5_57 kq_3 (by decide) rfl rfl rfl (by decide) (by decide) (Nat.le_of_ble_eq_true rfl) dX5_takeName_43 rfl rfl ?_
    refine v_iload_n (pc := 46) O dX5_takeName_46 0 rfl ?_
    obtain rfl := Option.some.inj h
    exact v_iret2 (pc := 47) O dX5_takeName_47
  · have h := (if_neg c3).symm.trans h
    obtain ⟨c6, h⟩ := if_none h
    obtain rfl := Option.some.inj h
    exact v_throw2 (pc := 29) (e := 4) O hT c6 rfl tw_X5_219_221 (by decide) (Nat.le_of_ble_eq_true rfl) dX5_takeName_29 dX5_takeName_32 dX5_takeName_33 dX5_takeName_36
def f_X5_takeName (N : Nat) (nu : Nat) (x1 : Int32) (S : Sr) (D : Dat) : Option (Sum Nat Int32 × Sr × Dat) :=
  if x1 = 1 then ((f_X5_roleHere D).bind (fun p8 => if p8.1 = 0 then ((f_X5_setRole (dI p8.2 3 9) 1 p8.2).bind (fun p11 => f_X5_takeName_b21 N nu x1 S p11)) else (f_X5_takeName_b21 N nu x1 S p8.2))) else (f_X5_takeName_b21 N nu x1 S D)
set_option maxHeartbeats 4000000 in
theorem w_X5_takeName {X : Cx} {nu : Nat} {N : Nat} {z : Sum Nat Int32 × Sr × Dat} (O : Ok X cX5_takeName RX5 (some .int) 6 139) (hm : wlm (xw X) = true) (hn : xn X = 3) (hT : T2 X) (x1 : Int32) (S : Sr) (D : Dat) (h : f_X5_takeName N nu x1 S D = some z) : V X (Q2 X nu (ri z)) S.1 (Az nu S) D 0 [(0, .ref (bo X + 3)), (1, .int x1)] [] := by
  unfold f_X5_takeName at h
  refine v_iload_n (pc := 0) O dX5_takeName_0 1 rfl ?_
  refine v_iconst (pc := 1) O dX5_takeName_1 ic_1 ?_
  refine v_icmpne (pc := 2) 21 O dX5_takeName_2 (by decide) (fun c7 => ?_) (fun c7 => ?_)
  · have h := (if_neg c7).symm.trans h
    refine v_sub [0, 1] rfl ?_
    exact w_X5_takeName_b21 O hm hn hT x1 S D h
  · have h := (if_pos c7).symm.trans h
    refine v_aload_n (pc := 5) O dX5_takeName_5 0 rfl ?_
    obtain ⟨p8, e9, h⟩ := bind_some h
    refine v_callV (pc := 6) (a := 3) (As := []) (rest := []) (r := (some (.int p8.1))) (D' := p8.2) O (bb2 hT) (c_X5_roleHere hm e9) mw_X5_roleHere im_X5_roleHere se_X5_roleHere ml_X5_156 kq_3 (by decide) rfl rfl rfl (by decide) (by decide) (Nat.le_of_ble_eq_true rfl) dX5_takeName_6 rfl rfl ?_
    refine v_ifne (pc := 9) 21 O dX5_takeName_9 (by decide) (fun c10 => ?_) (fun c10 => ?_)
    · have h := (if_neg c10).symm.trans h
      refine v_sub [0, 1] rfl ?_
      exact w_X5_takeName_b21 O hm hn hT x1 S p8.2 h
    · have h := (if_pos c10).symm.trans h
      refine v_aload_n (pc := 12) O dX5_takeName_12 0 rfl ?_
      refine v_aload_n (pc := 13) O dX5_takeName_13 0 rfl ?_
      refine v_getI (pc := 14) (a := 3) O gf_X5_9 fl_X5_216 kq_3 dX5_takeName_14 ?_
      refine v_iconst (pc := 17) O dX5_takeName_17 ic_1 ?_
      obtain ⟨p11, e12, h⟩ := bind_some h
      refine v_callV (pc := 18) (a := 3) (As := [.int (dI p8.2 3 9), .int 1]) (rest := []) (r := none) (D' := p11) O (bb2 hT) (c_X5_setRole hm e12) mw_X5_setRole im_X5_setRole se_X5_setRole ml_X5_111 kq_3 (by decide) rfl rfl rfl (by decide) (by decide) (Nat.le_of_ble_eq_true rfl) dX5_takeName_18 rfl rfl ?_
      refine v_sub [0, 1] rfl ?_
      exact w_X5_takeName_b21 O hm hn hT x1 S p11 h
theorem c_X5_takeName {l : Launch} {w : Wx} {nu : Nat} {N : Nat} (hl : l.stackTraces = false) (hm : wlm w = true) {x1 : Int32} {S : Sr} {D : Dat} {z : Sum Nat Int32 × Sr × Dat} (h : f_X5_takeName N nu x1 S D = some z) : C2 l w yX5_takeName cX5_takeName 3 (some .int) 6 139 [.ref (wb w + 3), .int x1] nu S D (ri z) :=
  C2.of hl (by decide) (Nat.le_of_ble_eq_true rfl) (fun X e1 e2 e3 hT O _ _ => by
  subst e1
  subst e2
  exact w_X5_takeName O hm e3 hT x1 S D h)
def f_X10_goOver (N : Nat) (nu : Nat) (K : Nat → Nat) (x1 : Option Nat) (D : Dat) : Option (Dat) :=
  ((dR (sR D 189 1 x1) 189 1)).bind (fun a1 => if a1 = 191 ∨ a1 = 196 then ((f_X10_goThrough N nu K 50 (dR (sR D 189 1 x1) a1 0) 0 (sR D 189 1 x1)).bind (fun p4 => (f_X3_finish p4).bind (fun p6 => some p6))) else none)
set_option maxHeartbeats 4000000 in
theorem w_X10_goOver {X : Cx} {n nu c u : Nat} {K : Nat → Nat} {N : Nat} {z : Dat} (O : Ok X cX10_goOver RX10 none 351 7673) (hm : wlm (xw X) = true) (hn : xn X = 2) (hz : Z0 X (Ax nu K c u)) (x1 : Option Nat) (D : Dat) (h : f_X10_goOver N nu K x1 D = some z) : V X (Q0 X n (Ax nu K c u) none z) n (Ax nu K c u) D 0 [(0, .ref (bo X + 189)), (1, rv (bo X) x1)] [] := by
  unfold f_X10_goOver at h
  refine v_aload_n (pc := 0) O dX10_goOver_0 0 rfl ?_
  refine v_aload_nr (pc := 1) O dX10_goOver_1 1 rfl ?_
  refine v_putR (pc := 2) (a := 189) (r := x1) O pf_X10_1 rfl fl_X10_15 kq_189 dX10_goOver_2 ?_
  refine v_aload_n (pc := 5) O dX10_goOver_5 0 rfl ?_
  refine v_aload_n (pc := 6) O dX10_goOver_6 0 rfl ?_
  refine v_getR (pc := 7) (a := 189) O gf_X10_1 fl_X10_15 kq_189 dX10_goOver_7 ?_
  obtain ⟨a1, e2, h⟩ := bind_some h
  rw [e2]
  obtain ⟨c3, h⟩ := if_none h
  refine v_getR (pc := 10) (a := a1) O gf_X4_0 fl_X10_19 (kt_X4 c3) dX10_goOver_10 ?_
  refine v_iconst (pc := 13) O dX10_goOver_13 ic_0 ?_
  obtain ⟨p4, e5, h⟩ := bind_some h
  refine v_callV (pc := 14) (a := 189) (As := [rv (bo X) (dR (sR D 189 1 x1) a1 0), .int 0]) (rest := []) (r := none) (D' := p4) O (bb0 hz) (c_X10_goThrough hm 50 e5) mw_X10_goThrough im_X10_goThrough se_X10_goThrough ml_X10_25 kq_189 (by decide) rfl rfl rfl (by decide) (by decide) (Nat.le_of_ble_eq_true rfl) dX10_goOver_14 rfl rfl ?_
  refine v_aload_n (pc := 17) O dX10_goOver_17 0 rfl ?_
  refine v_getK (pc := 18) (a := 189) O hm gf_X10_0 fl_X10_9 kq_189 lk_189_0 dX10_goOver_18 ?_
  obtain ⟨p6, e7, h⟩ := bind_some h
  refine v_callV (pc := 21) (a := 181) (As := []) (rest := []) (r := none) (D' := p6) O (bb0 hz) (c_X3_finish hm e7) mw_X3_finish im_X3_finish se_X3_finish ml_X10_29 kq_181 (by decide) rfl rfl rfl (by decide) (by decide) (Nat.le_of_ble_eq_true rfl) dX10_goOver_21 rfl rfl ?_
  obtain rfl := Option.some.inj h
  exact v_ret (pc := 24) O hz dX10_goOver_24
theorem c_X10_goOver {l : Launch} {w : Wx} {n nu c u : Nat} {K : Nat → Nat} {N : Nat} (hm : wlm w = true) {x1 : Option Nat} {D : Dat} {z : Dat} (h : f_X10_goOver N nu K x1 D = some z) : C0 l w yX10_goOver cX10_goOver 2 none 351 7673 [.ref (wb w + 189), rv (wb w) x1] n (Ax nu K c u) D none z :=
  C0.of (by decide) (by simp [lg_sl, rv_cat, cat_i, cat_l, cat_r, cat_n, fmt_cat]) (fun X e1 e2 e3 hz O => by
  subst e1
  subst e2
  have q : lv_args 0 [.ref (bo X + 189), rv (bo X) x1] = [(0, .ref (bo X + 189)), (1, rv (bo X) x1)] := by simp [lv_args, rv_cat, cat_i, cat_l, cat_r, cat_n, fmt_cat]
  show V X _ n _ D 0 (lv_args 0 [.ref (bo X + 189), rv (bo X) x1]) []
  rw [q]
  exact w_X10_goOver O hm e3 hz x1 D h)
def f_X5_readIndex (rec : Sr → Dat → Option (Sum Nat Int32 × Sr × Dat)) (N : Nat) (nu : Nat) (S : Sr) (D : Dat) : Option (Sum Nat Unit × Sr × Dat) :=
  sb2 (f_X5_openWith N nu 91 S D) (fun p1 S3 D3 => sb2 (rec S3 D3) (fun p4 S6 D6 => sb2 (f_X5_closeWith N nu 93 S6 D6) (fun p7 S9 D9 => some (.inr (), S9, D9))))
set_option maxHeartbeats 4000000 in
theorem w_X5_readIndex {X : Cx} {nu : Nat} {rec : Sr → Dat → Option (Sum Nat Int32 × Sr × Dat)} {N : Nat} {fr lc : Nat} {z : Sum Nat Unit × Sr × Dat} (O : Ok X cX5_readIndex RX5 none (fr + 7) (lc + 160)) (hm : wlm (xw X) = true) (hn : xn X = 1) (hT : T2 X) (hR : ∀ {S : Sr} {D : Dat} {z : Sum Nat Int32 × Sr × Dat}, rec  S D = some z → C2 (xl X) (xw X) yX5_readExpression cX5_readExpression 2 (some .int) fr lc [.ref (wb (xw X) + 3)] nu S D (ri z)) (S : Sr) (D : Dat) (h : f_X5_readIndex rec N nu S D = some z) : V X (Q2 X nu (ru z)) S.1 (Az nu S) D 0 [(0, .ref (bo X + 3))] [] := by
  unfold f_X5_readIndex at h
  refine v_aload_n (pc := 0) O dX5_readIndex_0 0 rfl ?_
  refine v_bipush (pc := 1) O dX5_readIndex_1 bp_91 ?_
  rcases sb2_some h with ⟨p1, S3, D3, e2, rfl⟩ | ⟨p1, S3, D3, e2, h⟩
  · exact v_call2X (pc := 3) (a := 3) (As := [.int 91]) (rest := []) (e := p1) (S' := S3) (D' := D3) O hT (c_X5_openWith (nu := nu) hT.2.1 hm e2 :) mw_X5_openWith im_X5_openWith se_X5_openWith ml_X5_114 kq_3 (by decide) rfl rfl rfl (by omega) (by omega) (Nat.le_of_ble_eq_true rfl) dX5_readIndex_3 rfl
  · refine v_call2 (pc := 3) (a := 3) (As := [.int 91]) (rest := []) (r := none) (S' := S3) (D' := D3) O hT (c_X5_openWith (nu := nu) hT.2.1 hm e2 :) mw_X5_openWith im_X5_openWith se_X5_openWith ml_X5_114 kq_3 (by decide) rfl rfl rfl (by omega) (by omega) (Nat.le_of_ble_eq_true rfl) dX5_readIndex_3 rfl rfl ?_
    refine v_aload_n (pc := 6) O dX5_readIndex_6 0 rfl ?_
    rcases sb2_some h with ⟨p4, S6, D6, e5, rfl⟩ | ⟨p4, S6, D6, e5, h⟩
    · exact v_call2X (pc := 7) (a := 3) (As := []) (rest := []) (e := p4) (S' := S6) (D' := D6) O hT (hR e5 :) mw_X5_readExpression im_X5_readExpression se_X5_readExpression ml_X5_168 kq_3 (by decide) rfl rfl rfl (by omega) (by omega) (Nat.le_of_ble_eq_true rfl) dX5_readIndex_7 rfl
    · refine v_call2 (pc := 7) (a := 3) (As := []) (rest := []) (r := (some (.int p4))) (S' := S6) (D' := D6) O hT (hR e5 :) mw_X5_readExpression im_X5_readExpression se_X5_readExpression ml_X5_168 kq_3 (by decide) rfl rfl rfl (by omega) (by omega) (Nat.le_of_ble_eq_true rfl) dX5_readIndex_7 rfl rfl ?_
      refine v_pop (pc := 10) O dX5_readIndex_10 rfl ?_
      refine v_aload_n (pc := 11) O dX5_readIndex_11 0 rfl ?_
      refine v_bipush (pc := 12) O dX5_readIndex_12 bp_93 ?_
      rcases sb2_some h with ⟨p7, S9, D9, e8, rfl⟩ | ⟨p7, S9, D9, e8, h⟩
      · exact v_call2X (pc := 14) (a := 3) (As := [.int 93]) (rest := []) (e := p7) (S' := S9) (D' := D9) O hT (c_X5_closeWith (nu := nu) hT.2.1 hm e8 :) mw_X5_closeWith im_X5_closeWith se_X5_closeWith ml_X5_117 kq_3 (by decide) rfl rfl rfl (by omega) (by omega) (Nat.le_of_ble_eq_true rfl) dX5_readIndex_14 rfl
      · refine v_call2 (pc := 14) (a := 3) (As := [.int 93]) (rest := []) (r := none) (S' := S9) (D' := D9) O hT (c_X5_closeWith (nu := nu) hT.2.1 hm e8 :) mw_X5_closeWith im_X5_closeWith se_X5_closeWith ml_X5_117 kq_3 (by decide) rfl rfl rfl (by omega) (by omega) (Nat.le_of_ble_eq_true rfl) dX5_readIndex_14 rfl rfl ?_
        obtain rfl := Option.some.inj h
        exact v_vret2 (pc := 17) O dX5_readIndex_17
theorem c_X5_readIndex {l : Launch} {w : Wx} {nu : Nat} {rec : Sr → Dat → Option (Sum Nat Int32 × Sr × Dat)} {N : Nat} {fr lc : Nat} (hl : l.stackTraces = false) (hm : wlm w = true) (hR : ∀ {S : Sr} {D : Dat} {z : Sum Nat Int32 × Sr × Dat}, rec  S D = some z → C2 l w yX5_readExpression cX5_readExpression 2 (some .int) fr lc [.ref (wb w + 3)] nu S D (ri z)) {S : Sr} {D : Dat} {z : Sum Nat Unit × Sr × Dat} (h : f_X5_readIndex rec N nu S D = some z) : C2 l w yX5_readIndex cX5_readIndex 1 none (fr + 7) (lc + 160) [.ref (wb w + 3)] nu S D (ru z) :=
  C2.of hl (by decide) (Nat.le_of_ble_eq_true rfl) (fun X e1 e2 e3 hT O _ _ => by
  subst e1
  subst e2
  exact w_X5_readIndex O hm e3 hT hR  S D h)
def f_X5_readFactor_b99 (rec : Sr → Dat → Option (Sum Nat Int32 × Sr × Dat)) (N : Nat) (nu : Nat) (S : Sr) (D : Dat) : Option (Sum Nat Unit × Sr × Dat) :=
  some (.inr (), S, D)
set_option maxHeartbeats 4000000 in
theorem w_X5_readFactor_b99 {X : Cx} {nu : Nat} {rec : Sr → Dat → Option (Sum Nat Int32 × Sr × Dat)} {N : Nat} {fr lc : Nat} {z : Sum Nat Unit × Sr × Dat} (O : Ok X cX5_readFactor RX5 none (fr + 8) (lc + 180)) (hm : wlm (xw X) = true) (hn : xn X = 2) (hT : T2 X) (hR : ∀ {S : Sr} {D : Dat} {z : Sum Nat Int32 × Sr × Dat}, rec  S D = some z → C2 (xl X) (xw X) yX5_readExpression cX5_readExpression 2 (some .int) fr lc [.ref (wb (xw X) + 3)] nu S D (ri z)) (S : Sr) (D : Dat) (h : f_X5_readFactor_b99 rec N nu S D = some z) : V X (Q2 X nu (ru z)) S.1 (Az nu S) D 99 [] [] := by
  unfold f_X5_readFactor_b99 at h
  obtain rfl := Option.some.inj h
  exact v_vret2 (pc := 99) O dX5_readFactor_99
def f_X5_readFactor (rec : Sr → Dat → Option (Sum Nat Int32 × Sr × Dat)) (N : Nat) (nu : Nat) (S : Sr) (D : Dat) : Option (Sum Nat Unit × Sr × Dat) :=
  if (dI D 3 6) = 2 then (((dR D 3 4)).bind (fun a34 => if a34 = 191 ∨ a34 = 196 then ((f_X4_add a34 0 (dI D 3 9) D).bind (fun p37 => (f_X5_advance N p37).bind (fun p39 => f_X5_readFactor_b99 rec N nu S p39))) else none)) else (if (dI D 3 6) = 40 then (sb2 (f_X5_openWith N nu 40 S D) (fun p25 S27 D27 => sb2 (rec S27 D27) (fun p28 S30 D30 => sb2 (f_X5_closeWith N nu 41 S30 D30) (fun p31 S33 D33 => f_X5_readFactor_b99 rec N nu S33 D33)))) else ((f_X5_roleHere D).bind (fun p3 => if p3.1 = 2 then (sb2 (f_X5_takeName N nu 2 S p3.2) (fun p14 S16 D16 => sb2 (f_X5_readIndex rec N nu S16 D16) (fun p17 S19 D19 => ((dR D19 3 4)).bind (fun a20 => if a20 = 191 ∨ a20 = 196 then ((f_X4_add a20 3 p14 D19).bind (fun p23 => f_X5_readFactor_b99 rec N nu S19 p23)) else none)))) else (sb2 (f_X5_takeName N nu 1 S p3.2) (fun p6 S8 D8 => ((dR p3.2 3 4)).bind (fun a9 => if a9 = 191 ∨ a9 = 196 then ((f_X4_add a9 1 p6 D8).bind (fun p12 => f_X5_readFactor_b99 rec N nu S8 p12)) else none))))))
set_option maxHeartbeats 4000000 in
theorem w_X5_readFactor {X : Cx} {nu : Nat} {rec : Sr → Dat → Option (Sum Nat Int32 × Sr × Dat)} {N : Nat} {fr lc : Nat} {z : Sum Nat Unit × Sr × Dat} (O : Ok X cX5_readFactor RX5 none (fr + 8) (lc + 180)) (hm : wlm (xw X) = true) (hn : xn X = 2) (hT : T2 X) (hR : ∀ {S : Sr} {D : Dat} {z : Sum Nat Int32 × Sr × Dat}, rec  S D = some z → C2 (xl X) (xw X) yX5_readExpression cX5_readExpression 2 (some .int) fr lc [.ref (wb (xw X) + 3)] nu S D (ri z)) (S : Sr) (D : Dat) (h : f_X5_readFactor rec N nu S D = some z) : V X (Q2 X nu (ru z)) S.1 (Az nu S) D 0 [(0, .ref (bo X + 3))] [] := by
  unfold f_X5_readFactor at h
  refine v_aload_n (pc := 0) O dX5_readFactor_0 0 rfl ?_
  refine v_getI (pc := 1) (a := 3) O gf_X5_6 fl_X5_120 kq_3 dX5_readFactor_1 ?_
  refine v_iconst (pc := 4) O dX5_readFactor_4 ic_2 ?_
  refine v_icmpne (pc := 5) 27 O dX5_readFactor_5 (by decide) (fun c1 => ?_) (fun c1 => ?_)
  · have h := (if_neg c1).symm.trans h
    refine v_aload_n (pc := 27) O dX5_readFactor_27 0 rfl ?_
    refine v_getI (pc := 28) (a := 3) O gf_X5_6 fl_X5_120 kq_3 dX5_readFactor_28 ?_
    refine v_bipush (pc := 31) O dX5_readFactor_31 bp_40 ?_
    refine v_icmpne (pc := 33) 56 O dX5_readFactor_33 (by decide) (fun c2 => ?_) (fun c2 => ?_)
    · have h := (if_neg c2).symm.trans h
      refine v_aload_n (pc := 56) O dX5_readFactor_56 0 rfl ?_
      obtain ⟨p3, e4, h⟩ := bind_some h
      refine v_callV (pc := 57) (a := 3) (As := []) (rest := []) (r := (some (.int p3.1))) (D' := p3.2) O (bb2 hT) (c_X5_roleHere hm e4) mw_X5_roleHere im_X5_roleHere se_X5_roleHere ml_X5_156 kq_3 (by decide) rfl rfl rfl (by omega) (by omega) (Nat.le_of_ble_eq_true rfl) dX5_readFactor_57 rfl rfl ?_
      refine v_iconst (pc := 60) O dX5_readFactor_60 ic_2 ?_
      refine v_icmpne (pc := 61) 86 O dX5_readFactor_61 (by decide) (fun c5 => ?_) (fun c5 => ?_)
      · have h := (if_neg c5).symm.trans h
        refine v_aload_n (pc := 86) O dX5_readFactor_86 0 rfl ?_
        refine v_getR (pc := 87) (a := 3) O gf_X5_4 fl_X5_36 kq_3 dX5_readFactor_87 ?_
        refine v_iconst (pc := 90) O dX5_readFactor_90 ic_1 ?_
        refine v_aload_n (pc := 91) O dX5_readFactor_91 0 rfl ?_
        refine v_iconst (pc := 92) O dX5_readFactor_92 ic_1 ?_
        rcases sb2_some h with ⟨p6, S8, D8, e7, rfl⟩ | ⟨p6, S8, D8, e7, h⟩
        · exact v_call2X (pc := 93) (a := 3) (As := [.int 1]) (rest := [.int 1, rv (bo X) (dR p3.2 3 4)]) (e := p6) (S' := S8) (D' := D8) O hT (c_X5_takeName (nu := nu) hT.2.1 hm e7 :) mw_X5_takeName im_X5_takeName se_X5_takeName ml_X5_186 kq_3 (by decide) rfl rfl rfl (by omega) (by omega) (by simp [rv_cat, cat_i, cat_l, cat_r, cat_n, fmt_cat]) dX5_readFactor_93 rfl
        · refine v_call2 (pc := 93) (a := 3) (As := [.int 1]) (rest := [.int 1, rv (bo X) (dR p3.2 3 4)]) (r := (some (.int p6))) (S' := S8) (D' := D8) O hT (c_X5_takeName (nu := nu) hT.2.1 hm e7 :) mw_X5_takeName im_X5_takeName se_X5_takeName ml_X5_186 kq_3 (by decide) rfl rfl rfl (by omega) (by omega) (by simp [rv_cat, cat_i, cat_l, cat_r, cat_n, fmt_cat]) dX5_readFactor_93 rfl rfl ?_
          obtain ⟨a9, e10, h⟩ := bind_some h
          rw [e10]
          obtain ⟨c11, h⟩ := if_none h
          obtain ⟨p12, e13, h⟩ := bind_some h
          refine v_callV (pc := 96) (a := a9) (As := [.int 1, .int p6]) (rest := []) (r := none) (D' := p12) O (bb2 hT) (c_X4_add hm c11 e13) mw_X4_add im_X4_add se_X4_add ml_X5_207 (kt_X4 c11) (by decide) rfl rfl rfl (by omega) (by omega) (Nat.le_of_ble_eq_true rfl) dX5_readFactor_96 rfl rfl ?_
          refine v_sub [] rfl ?_
          exact w_X5_readFactor_b99 O hm hn hT hR S8 p12 h
      · have h := (if_pos c5).symm.trans h
        refine v_aload_n (pc := 64) O dX5_readFactor_64 0 rfl ?_
        refine v_iconst (pc := 65) O dX5_readFactor_65 ic_2 ?_
        rcases sb2_some h with ⟨p14, S16, D16, e15, rfl⟩ | ⟨p14, S16, D16, e15, h⟩
        · exact v_call2X (pc := 66) (a := 3) (As := [.int 2]) (rest := []) (e := p14) (S' := S16) (D' := D16) O hT (c_X5_takeName (nu := nu) hT.2.1 hm e15 :) mw_X5_takeName im_X5_takeName se_X5_takeName ml_X5_186 kq_3 (by decide) rfl rfl rfl (by omega) (by omega) (Nat.le_of_ble_eq_true rfl) dX5_readFactor_66 rfl
        · refine v_call2 (pc := 66) (a := 3) (As := [.int 2]) (rest := []) (r := (some (.int p14))) (S' := S16) (D' := D16) O hT (c_X5_takeName (nu := nu) hT.2.1 hm e15 :) mw_X5_takeName im_X5_takeName se_X5_takeName ml_X5_186 kq_3 (by decide) rfl rfl rfl (by omega) (by omega) (Nat.le_of_ble_eq_true rfl) dX5_readFactor_66 rfl rfl ?_
          refine v_istore_n (pc := 69) (lv' := [(1, .int p14), (0, .ref (bo X + 3))]) O dX5_readFactor_69 rfl (by rw [hn]; decide) rfl ?_
          refine v_aload_n (pc := 70) O dX5_readFactor_70 1 rfl ?_
          rcases sb2_some h with ⟨p17, S19, D19, e18, rfl⟩ | ⟨p17, S19, D19, e18, h⟩
          · exact v_call2X (pc := 71) (a := 3) (As := []) (rest := []) (e := p17) (S' := S19) (D' := D19) O hT (c_X5_readIndex (nu := nu) hT.2.1 hm hR e18 :) mw_X5_readIndex im_X5_readIndex se_X5_readIndex ml_X5_195 kq_3 (by decide) rfl rfl rfl (by omega) (by omega) (Nat.le_of_ble_eq_true rfl) dX5_readFactor_71 rfl
          · refine v_call2 (pc := 71) (a := 3) (As := []) (rest := []) (r := none) (S' := S19) (D' := D19) O hT (c_X5_readIndex (nu := nu) hT.2.1 hm hR e18 :) mw_X5_readIndex im_X5_readIndex se_X5_readIndex ml_X5_195 kq_3 (by decide) rfl rfl rfl (by omega) (by omega) (Nat.le_of_ble_eq_true rfl) dX5_readFactor_71 rfl rfl ?_
            refine v_aload_n (pc := 74) O dX5_readFactor_74 1 rfl ?_
            refine v_getR (pc := 75) (a := 3) O gf_X5_4 fl_X5_36 kq_3 dX5_readFactor_75 ?_
            refine v_iconst (pc := 78) O dX5_readFactor_78 ic_3 ?_
            refine v_iload_n (pc := 79) O dX5_readFactor_79 0 rfl ?_
            obtain ⟨a20, e21, h⟩ := bind_some h
            rw [e21]
            obtain ⟨c22, h⟩ := if_none h
            obtain ⟨p23, e24, h⟩ := bind_some h
            refine v_callV (pc := 80) (a := a20) (As := [.int 3, .int p14]) (rest := []) (r := none) (D' := p23) O (bb2 hT) (c_X4_add hm c22 e24) mw_X4_add im_X4_add se_X4_add ml_X5_207 (kt_X4 c22) (by decide) rfl rfl rfl (by omega) (by omega) (Nat.le_of_ble_eq_true rfl) dX5_readFactor_80 rfl rfl ?_
            refine v_goto (pc := 83) 99 O dX5_readFactor_83 (by decide) ?_
            refine v_sub [] rfl ?_
            exact w_X5_readFactor_b99 O hm hn hT hR S19 p23 h
    · have h := (if_pos c2).symm.trans h
      refine v_aload_n (pc := 36) O dX5_readFactor_36 0 rfl ?_
      refine v_bipush (pc := 37) O dX5_readFactor_37 bp_40 ?_
      rcases sb2_some h with ⟨p25, S27, D27, e26, rfl⟩ | ⟨p25, S27, D27, e26, h⟩
      · exact v_call2X (pc := 39) (a := 3) (As := [.int 40]) (rest := []) (e := p25) (S' := S27) (D' := D27) O hT (c_X5_openWith (nu := nu) hT.2.1 hm e26 :) mw_X5_openWith im_X5_openWith se_X5_openWith ml_X5_114 kq_3 (by decide) rfl rfl rfl (by omega) (by omega) (Nat.le_of_ble_eq_true rfl) dX5_readFactor_39 rfl
      · refine v_call2 (pc := 39) (a := 3) (As := [.int 40]) (rest := []) (r := none) (S' := S27) (D' := D27) O hT (c_X5_openWith (nu := nu) hT.2.1 hm e26 :) mw_X5_openWith im_X5_openWith se_X5_openWith ml_X5_114 kq_3 (by decide) rfl rfl rfl (by omega) (by omega) (Nat.le_of_ble_eq_true rfl) dX5_readFactor_39 rfl rfl ?_
        refine v_aload_n (pc := 42) O dX5_readFactor_42 0 rfl ?_
        rcases sb2_some h with ⟨p28, S30, D30, e29, rfl⟩ | ⟨p28, S30, D30, e29, h⟩
        · exact v_call2X (pc := 43) (a := 3) (As := []) (rest := []) (e := p28) (S' := S30) (D' := D30) O hT (hR e29 :) mw_X5_readExpression im_X5_readExpression se_X5_readExpression ml_X5_168 kq_3 (by decide) rfl rfl rfl (by omega) (by omega) (Nat.le_of_ble_eq_true rfl) dX5_readFactor_43 rfl
        · refine v_call2 (pc := 43) (a := 3) (As := []) (rest := []) (r := (some (.int p28))) (S' := S30) (D' := D30) O hT (hR e29 :) mw_X5_readExpression im_X5_readExpression se_X5_readExpression ml_X5_168 kq_3 (by decide) rfl rfl rfl (by omega) (by omega) (Nat.le_of_ble_eq_true rfl) dX5_readFactor_43 rfl rfl ?_
          refine v_pop (pc := 46) O dX5_readFactor_46 rfl ?_
          refine v_aload_n (pc := 47) O dX5_readFactor_47 0 rfl ?_
          refine v_bipush (pc := 48) O dX5_readFactor_48 bp_41 ?_
          rcases sb2_some h with ⟨p31, S33, D33, e32, rfl⟩ | ⟨p31, S33, D33, e32, h⟩
          · exact v_call2X (pc := 50) (a := 3) (As := [.int 41]) (rest := []) (e := p31) (S' := S33) (D' := D33) O hT (c_X5_closeWith (nu := nu) hT.2.1 hm e32 :) mw_X5_closeWith im_X5_closeWith se_X5_closeWith ml_X5_117 kq_3 (by decide) rfl rfl rfl (by omega) (by omega) (Nat.le_of_ble_eq_true rfl) dX5_readFactor_50 rfl
          · refine v_call2 (pc := 50) (a := 3) (As := [.int 41]) (rest := []) (r := none) (S' := S33) (D' := D33) O hT (c_X5_closeWith (nu := nu) hT.2.1 hm e32 :) mw_X5_closeWith im_X5_closeWith se_X5_closeWith ml_X5_117 kq_3 (by decide) rfl rfl rfl (by omega) (by omega) (Nat.le_of_ble_eq_true rfl) dX5_readFactor_50 rfl rfl ?_
            refine v_goto (pc := 53) 99 O dX5_readFactor_53 (by decide) ?_
            refine v_sub [] rfl ?_
            exact w_X5_readFactor_b99 O hm hn hT hR S33 D33 h
  · have h := (if_pos c1).symm.trans h
    refine v_aload_n (pc := 8) O dX5_readFactor_8 0 rfl ?_
    refine v_getR (pc := 9) (a := 3) O gf_X5_4 fl_X5_36 kq_3 dX5_readFactor_9 ?_
    refine v_iconst (pc := 12) O dX5_readFactor_12 ic_0 ?_
    refine v_aload_n (pc := 13) O dX5_readFactor_13 0 rfl ?_
    refine v_getI (pc := 14) (a := 3) O gf_X5_9 fl_X5_216 kq_3 dX5_readFactor_14 ?_
    obtain ⟨a34, e35, h⟩ := bind_some h
    rw [e35]
    obtain ⟨c36, h⟩ := if_none h
    obtain ⟨p37, e38, h⟩ := bind_some h
    refine v_callV (pc := 17) (a := a34) (As := [.int 0, .int (dI D 3 9)]) (rest := []) (r := none) (D' := p37) O (bb2 hT) (c_X4_add hm c36 e38) mw_X4_add im_X4_add se_X4_add ml_X5_207 (kt_X4 c36) (by decide) rfl rfl rfl (by omega) (by omega) (Nat.le_of_ble_eq_true rfl) dX5_readFactor_17 rfl rfl ?_
    refine v_aload_n (pc := 20) O dX5_readFactor_20 0 rfl ?_
    obtain ⟨p39, e40, h⟩ := bind_some h
    refine v_callV (pc := 21) (a := 3) (As := []) (rest := []) (r := none) (D' := p39) O (bb2 hT) (c_X5_advance hm e40) mw_X5_advance im_X5_advance se_X5_advance ml_X5_57 kq_3 (by decide) rfl rfl rfl (by omega) (by omega) (Nat.le_of_ble_eq_true rfl) dX5_readFactor_21 rfl rfl ?_
    refine v_goto (pc := 24) 99 O dX5_readFactor_24 (by decide) ?_
    refine v_sub [] rfl ?_
    exact w_X5_readFactor_b99 O hm hn hT hR S p39 h
theorem c_X5_readFactor {l : Launch} {w : Wx} {nu : Nat} {rec : Sr → Dat → Option (Sum Nat Int32 × Sr × Dat)} {N : Nat} {fr lc : Nat} (hl : l.stackTraces = false) (hm : wlm w = true) (hR : ∀ {S : Sr} {D : Dat} {z : Sum Nat Int32 × Sr × Dat}, rec  S D = some z → C2 l w yX5_readExpression cX5_readExpression 2 (some .int) fr lc [.ref (wb w + 3)] nu S D (ri z)) {S : Sr} {D : Dat} {z : Sum Nat Unit × Sr × Dat} (h : f_X5_readFactor rec N nu S D = some z) : C2 l w yX5_readFactor cX5_readFactor 2 none (fr + 8) (lc + 180) [.ref (wb w + 3)] nu S D (ru z) :=
  C2.of hl (by decide) (Nat.le_of_ble_eq_true rfl) (fun X e1 e2 e3 hT O _ _ => by
  subst e1
  subst e2
  exact w_X5_readFactor O hm e3 hT hR  S D h)
def f_X5_readProduct_b47 (rec : Sr → Dat → Option (Sum Nat Int32 × Sr × Dat)) (N : Nat) (nu : Nat) (rec_6 : Int32 → Sr → Dat → Option (Sum Nat Unit × Sr × Dat)) (x1 : Int32) (s0 : Int32) (S : Sr) (D : Dat) : Option (Sum Nat Unit × Sr × Dat) :=
  (f_X5_advance N D).bind (fun p1 => sb2 (f_X5_readFactor rec N nu S p1) (fun p3 S5 D5 => ((dR D5 3 4)).bind (fun a6 => if a6 = 191 ∨ a6 = 196 then ((f_X4_add a6 s0 0 D5).bind (fun p9 => rec_6 (x1 + 1) S5 p9)) else none)))
set_option maxHeartbeats 4000000 in
theorem w_X5_readProduct_b47 {X : Cx} {nu : Nat} {rec : Sr → Dat → Option (Sum Nat Int32 × Sr × Dat)} {N : Nat} {fr lc : Nat} {rec_6 : Int32 → Sr → Dat → Option (Sum Nat Unit × Sr × Dat)} {z : Sum Nat Unit × Sr × Dat} (O : Ok X cX5_readProduct RX5 none (fr + 9) (lc + 201)) (hm : wlm (xw X) = true) (hn : xn X = 3) (hT : T2 X) (hR : ∀ {S : Sr} {D : Dat} {z : Sum Nat Int32 × Sr × Dat}, rec  S D = some z → C2 (xl X) (xw X) yX5_readExpression cX5_readExpression 2 (some .int) fr lc [.ref (wb (xw X) + 3)] nu S D (ri z)) (hrec_6 : ∀ (x1 : Int32) (S : Sr) (D : Dat), rec_6 x1 S D = some z → V X (Q2 X nu (ru z)) S.1 (Az nu S) D 6 [(0, .ref (bo X + 3)), (1, .int x1)] []) (x1 : Int32) (s0 : Int32) (S : Sr) (D : Dat) (h : f_X5_readProduct_b47 rec N nu rec_6 x1 s0 S D = some z) : V X (Q2 X nu (ru z)) S.1 (Az nu S) D 47 [(0, .ref (bo X + 3)), (1, .int x1)] [.int s0] := by
  unfold f_X5_readProduct_b47 at h
  refine v_istore_n (pc := 47) (lv' := [(2, .int s0), (0, .ref (bo X + 3)), (1, .int x1)]) O dX5_readProduct_47 rfl (by rw [hn]; decide) rfl ?_
  refine v_aload_n (pc := 48) O dX5_readProduct_48 1 rfl ?_
  obtain ⟨p1, e2, h⟩ := bind_some h
  refine v_callV (pc := 49) (a := 3) (As := []) (rest := []) (r := none) (D' := p1) O (bb2 hT) (c_X5_advance hm e2) mw_X5_advance im_X5_advance se_X5_advance ml_X5_57 kq_3 (by decide) rfl rfl rfl (by omega) (by omega) (Nat.le_of_ble_eq_true rfl) dX5_readProduct_49 rfl rfl ?_
  refine v_aload_n (pc := 52) O dX5_readProduct_52 1 rfl ?_
  rcases sb2_some h with ⟨p3, S5, D5, e4, rfl⟩ | ⟨p3, S5, D5, e4, h⟩
  · exact v_call2X (pc := 53) (a := 3) (As := []) (rest := []) (e := p3) (S' := S5) (D' := D5) O hT (c_X5_readFactor (nu := nu) hT.2.1 hm hR e4 :) mw_X5_readFactor im_X5_readFactor se_X5_readFactor ml_X5_213 kq_3 (by decide) rfl rfl rfl (by omega) (by omega) (Nat.le_of_ble_eq_true rfl) dX5_readProduct_53 rfl
  · refine v_call2 (pc := 53) (a := 3) (As := []) (rest := []) (r := none) (S' := S5) (D' := D5) O hT (c_X5_readFactor (nu := nu) hT.2.1 hm hR e4 :) mw_X5_readFactor im_X5_readFactor se_X5_readFactor ml_X5_213 kq_3 (by decide) rfl rfl rfl (by omega) (by omega) (Nat.le_of_ble_eq_true rfl) dX5_readProduct_53 rfl rfl ?_
    refine v_aload_n (pc := 56) O dX5_readProduct_56 1 rfl ?_
    refine v_getR (pc := 57) (a := 3) O gf_X5_4 fl_X5_36 kq_3 dX5_readProduct_57 ?_
    refine v_iload_n (pc := 60) O dX5_readProduct_60 0 rfl ?_
    refine v_iconst (pc := 61) O dX5_readProduct_61 ic_0 ?_
    obtain ⟨a6, e7, h⟩ := bind_some h
    rw [e7]
    obtain ⟨c8, h⟩ := if_none h
    obtain ⟨p9, e10, h⟩ := bind_some h
    refine v_callV (pc := 62) (a := a6) (As := [.int s0, .int 0]) (rest := []) (r := none) (D' := p9) O (bb2 hT) (c_X4_add hm c8 e10) mw_X4_add im_X4_add se_X4_add ml_X5_207 (kt_X4 c8) (by decide) rfl rfl rfl (by omega) (by omega) (Nat.le_of_ble_eq_true rfl) dX5_readProduct_62 rfl rfl ?_
    refine v_iinc (pc := 65) (lv' := [(1, .int (x1 + 1)), (2, .int s0), (0, .ref (bo X + 3))]) O dX5_readProduct_65 2 rfl (congrArg (fun q => x1 + q) ic_1) (by rw [hn]; decide) rfl ?_
    refine v_goto (pc := 68) 6 O dX5_readProduct_68 (by decide) ?_
    refine v_sub [2, 0] rfl ?_
    exact hrec_6 (x1 + 1) S5 p9 h
def f_X5_readProduct_b31 (rec : Sr → Dat → Option (Sum Nat Int32 × Sr × Dat)) (N : Nat) (nu : Nat) (rec_6 : Int32 → Sr → Dat → Option (Sum Nat Unit × Sr × Dat)) (x1 : Int32) (S : Sr) (D : Dat) : Option (Sum Nat Unit × Sr × Dat) :=
  if (dI D 3 6) = 42 then (f_X5_readProduct_b47 rec N nu rec_6 x1 7 S D) else (f_X5_readProduct_b47 rec N nu rec_6 x1 8 S D)
set_option maxHeartbeats 4000000 in
theorem w_X5_readProduct_b31 {X : Cx} {nu : Nat} {rec : Sr → Dat → Option (Sum Nat Int32 × Sr × Dat)} {N : Nat} {fr lc : Nat} {rec_6 : Int32 → Sr → Dat → Option (Sum Nat Unit × Sr × Dat)} {z : Sum Nat Unit × Sr × Dat} (O : Ok X cX5_readProduct RX5 none (fr + 9) (lc + 201)) (hm : wlm (xw X) = true) (hn : xn X = 3) (hT : T2 X) (hR : ∀ {S : Sr} {D : Dat} {z : Sum Nat Int32 × Sr × Dat}, rec  S D = some z → C2 (xl X) (xw X) yX5_readExpression cX5_readExpression 2 (some .int) fr lc [.ref (wb (xw X) + 3)] nu S D (ri z)) (hrec_6 : ∀ (x1 : Int32) (S : Sr) (D : Dat), rec_6 x1 S D = some z → V X (Q2 X nu (ru z)) S.1 (Az nu S) D 6 [(0, .ref (bo X + 3)), (1, .int x1)] []) (x1 : Int32) (S : Sr) (D : Dat) (h : f_X5_readProduct_b31 rec N nu rec_6 x1 S D = some z) : V X (Q2 X nu (ru z)) S.1 (Az nu S) D 31 [(0, .ref (bo X + 3)), (1, .int x1)] [] := by
  unfold f_X5_readProduct_b31 at h
  refine v_aload_n (pc := 31) O dX5_readProduct_31 0 rfl ?_
  refine v_getI (pc := 32) (a := 3) O gf_X5_6 fl_X5_120 kq_3 dX5_readProduct_32 ?_
  refine v_bipush (pc := 35) O dX5_readProduct_35 bp_42 ?_
  refine v_icmpne (pc := 37) 45 O dX5_readProduct_37 (by decide) (fun c11 => ?_) (fun c11 => ?_)
  · have h := (if_neg c11).symm.trans h
    refine v_bipush (pc := 45) O dX5_readProduct_45 bp_8 ?_
    refine v_sub [0, 1] rfl ?_
    exact w_X5_readProduct_b47 O hm hn hT hR hrec_6 x1 8 S D h
  · have h := (if_pos c11).symm.trans h
    refine v_bipush (pc := 40) O dX5_readProduct_40 bp_7 ?_
    refine v_goto (pc := 42) 47 O dX5_readProduct_42 (by decide) ?_
    refine v_sub [0, 1] rfl ?_
    exact w_X5_readProduct_b47 O hm hn hT hR hrec_6 x1 7 S D h
def f_X5_readProduct_b71 (rec : Sr → Dat → Option (Sum Nat Int32 × Sr × Dat)) (N : Nat) (nu : Nat) (S : Sr) (D : Dat) : Option (Sum Nat Unit × Sr × Dat) :=
  some (.inr (), S, D)
set_option maxHeartbeats 4000000 in
theorem w_X5_readProduct_b71 {X : Cx} {nu : Nat} {rec : Sr → Dat → Option (Sum Nat Int32 × Sr × Dat)} {N : Nat} {fr lc : Nat} {z : Sum Nat Unit × Sr × Dat} (O : Ok X cX5_readProduct RX5 none (fr + 9) (lc + 201)) (hm : wlm (xw X) = true) (hn : xn X = 3) (hT : T2 X) (hR : ∀ {S : Sr} {D : Dat} {z : Sum Nat Int32 × Sr × Dat}, rec  S D = some z → C2 (xl X) (xw X) yX5_readExpression cX5_readExpression 2 (some .int) fr lc [.ref (wb (xw X) + 3)] nu S D (ri z)) (S : Sr) (D : Dat) (h : f_X5_readProduct_b71 rec N nu S D = some z) : V X (Q2 X nu (ru z)) S.1 (Az nu S) D 71 [] [] := by
  unfold f_X5_readProduct_b71 at h
  obtain rfl := Option.some.inj h
  exact v_vret2 (pc := 71) O dX5_readProduct_71
def f_X5_readProduct_b6 (rec : Sr → Dat → Option (Sum Nat Int32 × Sr × Dat)) (N : Nat) (nu : Nat) : Nat → Int32 → Sr → Dat → Option (Sum Nat Unit × Sr × Dat)
  | 0, _, _, _ => none
  | g + 1, x1, S, D => if 240 ≤ x1 then (f_X5_readProduct_b71 rec N nu S D) else (if (dI D 3 6) = 42 then (f_X5_readProduct_b31 rec N nu (f_X5_readProduct_b6 rec N nu g) x1 S D) else (if (dI D 3 6) = 47 then (f_X5_readProduct_b31 rec N nu (f_X5_readProduct_b6 rec N nu g) x1 S D) else (f_X5_readProduct_b71 rec N nu S D)))
set_option maxHeartbeats 4000000 in
theorem w_X5_readProduct_b6 {X : Cx} {nu : Nat} {rec : Sr → Dat → Option (Sum Nat Int32 × Sr × Dat)} {N : Nat} {fr lc : Nat} {z : Sum Nat Unit × Sr × Dat} (O : Ok X cX5_readProduct RX5 none (fr + 9) (lc + 201)) (hm : wlm (xw X) = true) (hn : xn X = 3) (hT : T2 X) (hR : ∀ {S : Sr} {D : Dat} {z : Sum Nat Int32 × Sr × Dat}, rec  S D = some z → C2 (xl X) (xw X) yX5_readExpression cX5_readExpression 2 (some .int) fr lc [.ref (wb (xw X) + 3)] nu S D (ri z)) : ∀ (g : Nat) (x1 : Int32) (S : Sr) (D : Dat), f_X5_readProduct_b6 rec N nu g x1 S D = some z → V X (Q2 X nu (ru z)) S.1 (Az nu S) D 6 [(0, .ref (bo X + 3)), (1, .int x1)] [] := by
  intro g
  induction g with
  | zero => intro x1 S D h; exact absurd h (by simp [f_X5_readProduct_b6])
  | succ g ih =>
    intro x1 S D h
    rw [f_X5_readProduct_b6] at h
    refine v_iload_n (pc := 6) O dX5_readProduct_6 1 rfl ?_
    refine v_sipush (pc := 7) O dX5_readProduct_7 sp_240 ?_
    refine v_icmpge (pc := 10) 71 O dX5_readProduct_10 (by decide) (fun c12 => ?_) (fun c12 => ?_)
    · have h := (if_pos c12).symm.trans h
      refine v_sub [] rfl ?_
      exact w_X5_readProduct_b71 O hm hn hT hR S D h
    · have h := (if_neg c12).symm.trans h
      refine v_aload_n (pc := 13) O dX5_readProduct_13 0 rfl ?_
      refine v_getI (pc := 14) (a := 3) O gf_X5_6 fl_X5_120 kq_3 dX5_readProduct_14 ?_
      refine v_bipush (pc := 17) O dX5_readProduct_17 bp_42 ?_
      refine v_icmpeq (pc := 19) 31 O dX5_readProduct_19 (by decide) (fun c13 => ?_) (fun c13 => ?_)
      · have h := (if_pos c13).symm.trans h
        refine v_sub [0, 1] rfl ?_
        exact w_X5_readProduct_b31 O hm hn hT hR ih x1 S D h
      · have h := (if_neg c13).symm.trans h
        refine v_aload_n (pc := 22) O dX5_readProduct_22 0 rfl ?_
        refine v_getI (pc := 23) (a := 3) O gf_X5_6 fl_X5_120 kq_3 dX5_readProduct_23 ?_
        refine v_bipush (pc := 26) O dX5_readProduct_26 bp_47 ?_
        refine v_icmpne (pc := 28) 71 O dX5_readProduct_28 (by decide) (fun c14 => ?_) (fun c14 => ?_)
        · have h := (if_neg c14).symm.trans h
          refine v_sub [] rfl ?_
          exact w_X5_readProduct_b71 O hm hn hT hR S D h
        · have h := (if_pos c14).symm.trans h
          refine v_sub [0, 1] rfl ?_
          exact w_X5_readProduct_b31 O hm hn hT hR ih x1 S D h
def f_X5_readProduct (rec : Sr → Dat → Option (Sum Nat Int32 × Sr × Dat)) (N : Nat) (nu : Nat) (S : Sr) (D : Dat) : Option (Sum Nat Unit × Sr × Dat) :=
  sb2 (f_X5_readFactor rec N nu S D) (fun p15 S17 D17 => f_X5_readProduct_b6 rec N nu N 0 S17 D17)
set_option maxHeartbeats 4000000 in
theorem w_X5_readProduct {X : Cx} {nu : Nat} {rec : Sr → Dat → Option (Sum Nat Int32 × Sr × Dat)} {N : Nat} {fr lc : Nat} {z : Sum Nat Unit × Sr × Dat} (O : Ok X cX5_readProduct RX5 none (fr + 9) (lc + 201)) (hm : wlm (xw X) = true) (hn : xn X = 3) (hT : T2 X) (hR : ∀ {S : Sr} {D : Dat} {z : Sum Nat Int32 × Sr × Dat}, rec  S D = some z → C2 (xl X) (xw X) yX5_readExpression cX5_readExpression 2 (some .int) fr lc [.ref (wb (xw X) + 3)] nu S D (ri z)) (S : Sr) (D : Dat) (h : f_X5_readProduct rec N nu S D = some z) : V X (Q2 X nu (ru z)) S.1 (Az nu S) D 0 [(0, .ref (bo X + 3))] [] := by
  unfold f_X5_readProduct at h
  refine v_aload_n (pc := 0) O dX5_readProduct_0 0 rfl ?_
  rcases sb2_some h with ⟨p15, S17, D17, e16, rfl⟩ | ⟨p15, S17, D17, e16, h⟩
  · exact v_call2X (pc := 1) (a := 3) (As := []) (rest := []) (e := p15) (S' := S17) (D' := D17) O hT (c_X5_readFactor (nu := nu) hT.2.1 hm hR e16 :) mw_X5_readFactor im_X5_readFactor se_X5_readFactor ml_X5_213 kq_3 (by decide) rfl rfl rfl (by omega) (by omega) (Nat.le_of_ble_eq_true rfl) dX5_readProduct_1 rfl
  · refine v_call2 (pc := 1) (a := 3) (As := []) (rest := []) (r := none) (S' := S17) (D' := D17) O hT (c_X5_readFactor (nu := nu) hT.2.1 hm hR e16 :) mw_X5_readFactor im_X5_readFactor se_X5_readFactor ml_X5_213 kq_3 (by decide) rfl rfl rfl (by omega) (by omega) (Nat.le_of_ble_eq_true rfl) dX5_readProduct_1 rfl rfl ?_
    refine v_iconst (pc := 4) O dX5_readProduct_4 ic_0 ?_
    refine v_istore_n (pc := 5) (lv' := [(1, .int 0), (0, .ref (bo X + 3))]) O dX5_readProduct_5 rfl (by rw [hn]; decide) rfl ?_
    refine v_sub [1, 0] rfl ?_
    exact w_X5_readProduct_b6 O hm hn hT hR N 0 S17 D17 h
theorem c_X5_readProduct {l : Launch} {w : Wx} {nu : Nat} {rec : Sr → Dat → Option (Sum Nat Int32 × Sr × Dat)} {N : Nat} {fr lc : Nat} (hl : l.stackTraces = false) (hm : wlm w = true) (hR : ∀ {S : Sr} {D : Dat} {z : Sum Nat Int32 × Sr × Dat}, rec  S D = some z → C2 l w yX5_readExpression cX5_readExpression 2 (some .int) fr lc [.ref (wb w + 3)] nu S D (ri z)) {S : Sr} {D : Dat} {z : Sum Nat Unit × Sr × Dat} (h : f_X5_readProduct rec N nu S D = some z) : C2 l w yX5_readProduct cX5_readProduct 3 none (fr + 9) (lc + 201) [.ref (wb w + 3)] nu S D (ru z) :=
  C2.of hl (by decide) (Nat.le_of_ble_eq_true rfl) (fun X e1 e2 e3 hT O _ _ => by
  subst e1
  subst e2
  exact w_X5_readProduct O hm e3 hT hR  S D h)
