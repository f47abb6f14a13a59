theorem cw_X3_start : Cond.code yX3_start cX3_start 2 none ∈ tb := tb_of 1554 (by decide +kernel) (by decide +kernel)
theorem mw_X3_start : MW yX3_start cX3_start 2 none 1 := ⟨cw_X3_start, ini_X3, by decide +kernel⟩
theorem im_X3_start : Cond.instanceMethod yX3_start ∈ tb := tb_of 1552 (by decide +kernel) (by decide +kernel)
theorem se_X3_start : Cond.selects (yX3_start).cls yX3_start yX3_start ∈ tb := tb_of 1553 (by decide +kernel) (by decide +kernel)
theorem ml_X11_252 : Cond.methodLink RX11 252 yX3_start ∈ tb := tb_of 1551 (by decide +kernel) (by decide +kernel)
theorem fl_X11_69 : Cond.fieldLink RX11 69 RX11 (TX11 6).2.1 (TX11 6).2.2.1 ∈ tb := tb_of 491 (by decide +kernel) (by decide +kernel)
theorem gf_X11_6 : FI 11 RX11 TX11 16 tyX11 6 3 := ⟨rfl, inb_X11, tyX11_ok, nmX11, by decide, by decide, rfl, rfl, rfl⟩
theorem lk_0_6 : lks 0 6 = some 189 := by decide +kernel
theorem pf_X10_1 : PI 10 RX10 TX10 2 tyX10 1 2 (.object "FlowChain$Program") := ⟨gf_X10_1, rfl, rfl⟩
theorem fl_X10_19 : Cond.fieldLink RX10 19 RX4 (TX4 0).2.1 (TX4 0).2.2.1 ∈ tb := tb_of 446 (by decide +kernel) (by decide +kernel)
theorem cw_X9_accepts : Cond.code yX9_accepts cX9_accepts 3 (some .boolean) ∈ tb := tb_of 1301 (by decide +kernel) (by decide +kernel)
theorem mw_X9_accepts : MW yX9_accepts cX9_accepts 3 (some .boolean) 2 := ⟨cw_X9_accepts, ini_X9, by decide +kernel⟩
theorem im_X9_accepts : Cond.instanceMethod yX9_accepts ∈ tb := tb_of 1299 (by decide +kernel) (by decide +kernel)
theorem se_X9_accepts : Cond.selects (yX9_accepts).cls yX9_accepts yX9_accepts ∈ tb := tb_of 1300 (by decide +kernel) (by decide +kernel)
theorem ml_X11_209 : Cond.methodLink RX11 209 yX9_accepts ∈ tb := tb_of 1298 (by decide +kernel) (by decide +kernel)
theorem cw_X9_heights : Cond.code yX9_heights cX9_heights 1 (some .int) ∈ tb := tb_of 1471 (by decide +kernel) (by decide +kernel)
theorem mw_X9_heights : MW yX9_heights cX9_heights 1 (some .int) 0 := ⟨cw_X9_heights, ini_X9, by decide +kernel⟩
theorem im_X9_heights : Cond.instanceMethod yX9_heights ∈ tb := tb_of 1469 (by decide +kernel) (by decide +kernel)
theorem se_X9_heights : Cond.selects (yX9_heights).cls yX9_heights yX9_heights ∈ tb := tb_of 1470 (by decide +kernel) (by decide +kernel)
theorem ml_X11_220 : Cond.methodLink RX11 220 yX9_heights ∈ tb := tb_of 1468 (by decide +kernel) (by decide +kernel)
theorem cw_X9_place : Cond.code yX9_place cX9_place 1 (some .int) ∈ tb := tb_of 1463 (by decide +kernel) (by decide +kernel)
theorem mw_X9_place : MW yX9_place cX9_place 1 (some .int) 0 := ⟨cw_X9_place, ini_X9, by decide +kernel⟩
theorem im_X9_place : Cond.instanceMethod yX9_place ∈ tb := tb_of 1461 (by decide +kernel) (by decide +kernel)
theorem se_X9_place : Cond.selects (yX9_place).cls yX9_place yX9_place ∈ tb := tb_of 1462 (by decide +kernel) (by decide +kernel)
theorem ml_X11_217 : Cond.methodLink RX11 217 yX9_place ∈ tb := tb_of 1460 (by decide +kernel) (by decide +kernel)
theorem cw_X9_kind : Cond.code yX9_kind cX9_kind 1 (some .int) ∈ tb := tb_of 1467 (by decide +kernel) (by decide +kernel)
theorem mw_X9_kind : MW yX9_kind cX9_kind 1 (some .int) 0 := ⟨cw_X9_kind, ini_X9, by decide +kernel⟩
theorem im_X9_kind : Cond.instanceMethod yX9_kind ∈ tb := tb_of 1465 (by decide +kernel) (by decide +kernel)
theorem se_X9_kind : Cond.selects (yX9_kind).cls yX9_kind yX9_kind ∈ tb := tb_of 1466 (by decide +kernel) (by decide +kernel)
theorem ml_X11_218 : Cond.methodLink RX11 218 yX9_kind ∈ tb := tb_of 1464 (by decide +kernel) (by decide +kernel)
theorem cw_X3_goOver : Cond.code yX3_goOver cX3_goOver 4 none ∈ tb := tb_of 1559 (by decide +kernel) (by decide +kernel)
theorem mw_X3_goOver : MW yX3_goOver cX3_goOver 4 none 1 := ⟨cw_X3_goOver, ini_X3, by decide +kernel⟩
theorem im_X3_goOver : Cond.instanceMethod yX3_goOver ∈ tb := tb_of 1557 (by decide +kernel) (by decide +kernel)
theorem se_X3_goOver : Cond.selects (yX3_goOver).cls yX3_goOver yX3_goOver ∈ tb := tb_of 1558 (by decide +kernel) (by decide +kernel)
theorem ml_X11_255 : Cond.methodLink RX11 255 yX3_goOver ∈ tb := tb_of 1556 (by decide +kernel) (by decide +kernel)
theorem cw_X3_ending : Cond.code yX3_ending cX3_ending 1 (some .int) ∈ tb := tb_of 1625 (by decide +kernel) (by decide +kernel)
theorem mw_X3_ending : MW yX3_ending cX3_ending 1 (some .int) 0 := ⟨cw_X3_ending, ini_X3, by decide +kernel⟩
theorem im_X3_ending : Cond.instanceMethod yX3_ending ∈ tb := tb_of 1623 (by decide +kernel) (by decide +kernel)
theorem se_X3_ending : Cond.selects (yX3_ending).cls yX3_ending yX3_ending ∈ tb := tb_of 1624 (by decide +kernel) (by decide +kernel)
theorem ml_X11_259 : Cond.methodLink RX11 259 yX3_ending ∈ tb := tb_of 1622 (by decide +kernel) (by decide +kernel)
theorem ml_X10_29 : Cond.methodLink RX10 29 yX3_finish ∈ tb := tb_of 1668 (by decide +kernel) (by decide +kernel)
theorem cw_X10_goOver : Cond.code yX10_goOver cX10_goOver 2 none ∈ tb := tb_of 1636 (by decide +kernel) (by decide +kernel)
theorem mw_X10_goOver : MW yX10_goOver cX10_goOver 2 none 1 := ⟨cw_X10_goOver, ini_X10, by decide +kernel⟩
theorem im_X10_goOver : Cond.instanceMethod yX10_goOver ∈ tb := tb_of 1634 (by decide +kernel) (by decide +kernel)
theorem se_X10_goOver : Cond.selects (yX10_goOver).cls yX10_goOver yX10_goOver ∈ tb := tb_of 1635 (by decide +kernel) (by decide +kernel)
theorem ml_X11_265 : Cond.methodLink RX11 265 yX10_goOver ∈ tb := tb_of 1633 (by decide +kernel) (by decide +kernel)
def f_X11_verify_b20 (N : Nat) (nu : Nat) (K : Nat → Nat) (D : Dat) : Option (Sum Nat Int32 × Dat) :=
  some (.inl 1, D)
set_option maxHeartbeats 4000000 in
theorem w_X11_verify_b20 {X : Cx} {n nu c u : Nat} {K : Nat → Nat} {N : Nat} {z : Sum Nat Int32 × Dat} (O : Ok X cX11_verify RX11 (some .int) 7 159) (hm : wlm (xw X) = true) (hn : xn X = 1) (hz : Z0 X (Ax nu K c u)) (hT : T1 X (zi z)) (D : Dat) (h : f_X11_verify_b20 N nu K D = some z) : V X (Q1 X n (Ax nu K c u) (zi z)) n (Ax nu K c u) D 20 [] [] := by
  unfold f_X11_verify_b20 at h
  obtain rfl := Option.some.inj h
  exact v_throw (pc := 20) (e := 1) O hz hT rfl tw_X11_121_123 (by decide) (Nat.le_of_ble_eq_true rfl) dX11_verify_20 dX11_verify_23 dX11_verify_24 dX11_verify_27
def f_X11_verify (N : Nat) (nu : Nat) (K : Nat → Nat) (D : Dat) : Option (Sum Nat Int32 × Dat) :=
  (f_X2_isSealed D).bind (fun p1 => if p1.1 = 0 then (f_X11_verify_b20 N nu K p1.2) else (((dR p1.2 0 10)).bind (fun a4 => if a4 = 201 ∨ a4 = 204 then ((f_X0_size a4 p1.2).bind (fun p7 => if p7.1 = 0 then (f_X11_verify_b20 N nu K p7.2) else ((f_X9_accepts N nu K (dR p7.2 0 10) 190 p7.2).bind (fun p10 => if p10.1 &&& 1 = p10.1 then (if (dI (sI p10.2 0 13 p10.1) 0 13) = 0 then ((f_X9_place (sI p10.2 0 13 p10.1)).bind (fun p18 => (f_X9_kind p18.2).bind (fun p20 => (f_X11_tell p18.1 p20.1 p20.2).bind (fun p22 => some (.inl 2, p22))))) else ((f_X11_tell (-1) (-1) (sI p10.2 0 13 p10.1)).bind (fun p14 => (f_X9_heights p14).bind (fun p16 => some (.inr p16.1, p16.2))))) else none)))) else none)))
set_option maxHeartbeats 4000000 in
theorem w_X11_verify {X : Cx} {n nu c u : Nat} {K : Nat → Nat} {N : Nat} {z : Sum Nat Int32 × Dat} (O : Ok X cX11_verify RX11 (some .int) 7 159) (hm : wlm (xw X) = true) (hn : xn X = 1) (hz : Z0 X (Ax nu K c u)) (hT : T1 X (zi z)) (D : Dat) (h : f_X11_verify N nu K D = some z) : V X (Q1 X n (Ax nu K c u) (zi z)) n (Ax nu K c u) D 0 [(0, .ref (bo X + 0))] [] := by
  unfold f_X11_verify at h
  refine v_aload_n (pc := 0) O dX11_verify_0 0 rfl ?_
  refine v_getK (pc := 1) (a := 0) O hm gf_X11_0 fl_X11_23 kq_0 lk_0_0 dX11_verify_1 ?_
  obtain ⟨p1, e2, h⟩ := bind_some h
  refine v_callV (pc := 4) (a := 1) (As := []) (rest := []) (r := (some (.int p1.1))) (D' := p1.2) O (bb0 hz) (c_X2_isSealed hm e2) mw_X2_isSealed im_X2_isSealed se_X2_isSealed ml_X11_117 kq_1 (by decide) rfl rfl rfl (by decide) (by decide) (Nat.le_of_ble_eq_true rfl) dX11_verify_4 rfl rfl ?_
  refine v_ifeq (pc := 7) 20 O dX11_verify_7 (by decide) (fun c3 => ?_) (fun c3 => ?_)
  · have h := (if_pos c3).symm.trans h
    refine v_sub [] rfl ?_
    exact w_X11_verify_b20 O hm hn hz hT p1.2 h
  · have h := (if_neg c3).symm.trans h
    refine v_aload_n (pc := 10) O dX11_verify_10 0 rfl ?_
    refine v_getR (pc := 11) (a := 0) O gf_X11_10 fl_X11_96 kq_0 dX11_verify_11 ?_
    obtain ⟨a4, e5, h⟩ := bind_some h
    rw [e5]
    obtain ⟨c6, h⟩ := if_none h
    obtain ⟨p7, e8, h⟩ := bind_some h
    refine v_callV (pc := 14) (a := a4) (As := []) (rest := []) (r := (some (.int p7.1))) (D' := p7.2) O (bb0 hz) (c_X0_size hm c6 e8) mw_X0_size im_X0_size se_X0_size ml_X11_197 (kt_X0 c6) (by decide) rfl rfl rfl (by decide) (by decide) (Nat.le_of_ble_eq_true rfl) dX11_verify_14 rfl rfl ?_
    refine v_ifne (pc := 17) 28 O dX11_verify_17 (by decide) (fun c9 => ?_) (fun c9 => ?_)
    · have h := (if_neg c9).symm.trans h
      refine v_aload_n (pc := 28) O dX11_verify_28 0 rfl ?_
      refine v_aload_n (pc := 29) O dX11_verify_29 0 rfl ?_
      refine v_getK (pc := 30) (a := 0) O hm gf_X11_4 fl_X11_53 kq_0 lk_0_4 dX11_verify_30 ?_
      refine v_aload_n (pc := 33) O dX11_verify_33 0 rfl ?_
      refine v_getR (pc := 34) (a := 0) O gf_X11_10 fl_X11_96 kq_0 dX11_verify_34 ?_
      refine v_aload_n (pc := 37) O dX11_verify_37 0 rfl ?_
      refine v_getK (pc := 38) (a := 0) O hm gf_X11_7 fl_X11_73 kq_0 lk_0_7 dX11_verify_38 ?_
      obtain ⟨p10, e11, h⟩ := bind_some h
      refine v_callV (pc := 41) (a := 107) (As := [rv (bo X) (dR p7.2 0 10), .ref (bo X + 190)]) (rest := [.ref (bo X + 0)]) (r := (some (.int p10.1))) (D' := p10.2) O (bb0 hz) (c_X9_accepts hm e11) mw_X9_accepts im_X9_accepts se_X9_accepts ml_X11_209 kq_107 (by decide) rfl rfl rfl (by decide) (by decide) (Nat.le_of_ble_eq_true rfl) dX11_verify_41 rfl rfl ?_
      obtain ⟨c12, h⟩ := if_none h
      refine v_putZ (pc := 44) (a := 0) O pf_X11_13 fl_X11_213 kq_0 (congrArg Value.int c12) dX11_verify_44 ?_
      refine v_aload_n (pc := 47) O dX11_verify_47 0 rfl ?_
      refine v_getI (pc := 48) (a := 0) O gf_X11_13 fl_X11_213 kq_0 dX11_verify_48 ?_
      refine v_ifne (pc := 51) 80 O dX11_verify_51 (by decide) (fun c13 => ?_) (fun c13 => ?_)
      · have h := (if_neg c13).symm.trans h
        refine v_aload_n (pc := 80) O dX11_verify_80 0 rfl ?_
        refine v_iconst (pc := 81) O dX11_verify_81 ic_m1 ?_
        refine v_iconst (pc := 82) O dX11_verify_82 ic_m1 ?_
        obtain ⟨p14, e15, h⟩ := bind_some h
        refine v_callV (pc := 83) (a := 0) (As := [.int (-1), .int (-1)]) (rest := []) (r := none) (D' := p14) O (bb0 hz) (c_X11_tell hm e15) mw_X11_tell im_X11_tell se_X11_tell ml_X11_135 kq_0 (by decide) rfl rfl rfl (by decide) (by decide) (Nat.le_of_ble_eq_true rfl) dX11_verify_83 rfl rfl ?_
        refine v_aload_n (pc := 86) O dX11_verify_86 0 rfl ?_
        refine v_getK (pc := 87) (a := 0) O hm gf_X11_4 fl_X11_53 kq_0 lk_0_4 dX11_verify_87 ?_
        obtain ⟨p16, e17, h⟩ := bind_some h
        refine v_callV (pc := 90) (a := 107) (As := []) (rest := []) (r := (some (.int p16.1))) (D' := p16.2) O (bb0 hz) (c_X9_heights hm e17) mw_X9_heights im_X9_heights se_X9_heights ml_X11_220 kq_107 (by decide) rfl rfl rfl (by decide) (by decide) (Nat.le_of_ble_eq_true rfl) dX11_verify_90 rfl rfl ?_
        obtain rfl := Option.some.inj h
        exact v_r1 (v_iret (pc := 93) O hz dX11_verify_93)
      · have h := (if_pos c13).symm.trans h
        refine v_aload_n (pc := 54) O dX11_verify_54 0 rfl ?_
        refine v_aload_n (pc := 55) O dX11_verify_55 0 rfl ?_
        refine v_getK (pc := 56) (a := 0) O hm gf_X11_4 fl_X11_53 kq_0 lk_0_4 dX11_verify_56 ?_
        obtain ⟨p18, e19, h⟩ := bind_some h
        refine v_callV (pc := 59) (a := 107) (As := []) (rest := [.ref (bo X + 0)]) (r := (some (.int p18.1))) (D' := p18.2) O (bb0 hz) (c_X9_place hm e19) mw_X9_place im_X9_place se_X9_place ml_X11_217 kq_107 (by decide) rfl rfl rfl (by decide) (by decide) (Nat.le_of_ble_eq_true rfl) dX11_verify_59 rfl rfl ?_
        refine v_aload_n (pc := 62) O dX11_verify_62 0 rfl ?_
        refine v_getK (pc := 63) (a := 0) O hm gf_X11_4 fl_X11_53 kq_0 lk_0_4 dX11_verify_63 ?_
        obtain ⟨p20, e21, h⟩ := bind_some h
        refine v_callV (pc := 66) (a := 107) (As := []) (rest := [.int p18.1, .ref (bo X + 0)]) (r := (some (.int p20.1))) (D' := p20.2) O (bb0 hz) (c_X9_kind hm e21) mw_X9_kind im_X9_kind se_X9_kind ml_X11_218 kq_107 (by decide) rfl rfl rfl (by decide) (by decide) (Nat.le_of_ble_eq_true rfl) dX11_verify_66 rfl rfl ?_
        obtain ⟨p22, e23, h⟩ := bind_some h
        refine v_callV (pc := 69) (a := 0) (As := [.int p18.1, .int p20.1]) (rest := []) (r := none) (D' := p22) O (bb0 hz) (c_X11_tell hm e23) mw_X11_tell im_X11_tell se_X11_tell ml_X11_135 kq_0 (by decide) rfl rfl rfl (by decide) (by decide) (Nat.le_of_ble_eq_true rfl) dX11_verify_69 rfl rfl ?_
        obtain rfl := Option.some.inj h
        exact v_throw (pc := 72) (e := 2) O hz hT rfl tw_X11_138_140 (by decide) (Nat.le_of_ble_eq_true rfl) dX11_verify_72 dX11_verify_75 dX11_verify_76 dX11_verify_79
    · have h := (if_pos c9).symm.trans h
      refine v_sub [] rfl ?_
      exact w_X11_verify_b20 O hm hn hz hT p7.2 h
theorem c_X11_verify {l : Launch} {w : Wx} {n nu c u : Nat} {K : Nat → Nat} {N : Nat} (hl : l.stackTraces = false) (hm : wlm w = true) {D : Dat} {z : Sum Nat Int32 × Dat} (h : f_X11_verify N nu K D = some z) : C1 l w yX11_verify cX11_verify 1 (some .int) 7 159 [.ref (wb w + 0)] n (Ax nu K c u) D (zi z) :=
  C1.of hl (by decide) (Nat.le_of_ble_eq_true rfl) (fun X e1 e2 e3 hz hT O => by
  subst e1
  subst e2
  exact w_X11_verify O hm e3 hz hT  D h)
def f_X11_run_b12 (N : Nat) (nu : Nat) (K : Nat → Nat) (D : Dat) : Option (Sum Nat Int32 × Dat) :=
  some (.inl 0, D)
set_option maxHeartbeats 4000000 in
theorem w_X11_run_b12 {X : Cx} {n nu c u : Nat} {K : Nat → Nat} {N : Nat} {z : Sum Nat Int32 × Dat} (O : Ok X cX11_run RX11 (some .int) 6 133) (hm : wlm (xw X) = true) (hn : xn X = 2) (hz : Z0 X (Ax nu K c u)) (hT : T1 X (zi z)) (D : Dat) (h : f_X11_run_b12 N nu K D = some z) : V X (Q1 X n (Ax nu K c u) (zi z)) n (Ax nu K c u) D 12 [] [] := by
  unfold f_X11_run_b12 at h
  obtain rfl := Option.some.inj h
  exact v_throw (pc := 12) (e := 0) O hz hT rfl tw_X11_114_116 (by decide) (Nat.le_of_ble_eq_true rfl) dX11_run_12 dX11_run_15 dX11_run_16 dX11_run_19
def f_X11_run (N : Nat) (nu : Nat) (K : Nat → Nat) (x1 : Int32) (D : Dat) : Option (Sum Nat Int32 × Dat) :=
  if x1 < 1 then (f_X11_run_b12 N nu K D) else (if x1 ≤ 600 then (if (dI D 0 13) = 0 then (some (.inl 2, D)) else ((f_X3_start N nu K x1 D).bind (fun p4 => (f_X3_goOver N (dR p4 0 10) p4).bind (fun p6 => (f_X3_ending p6).bind (fun p8 => some (.inr p8.1, p8.2)))))) else (f_X11_run_b12 N nu K D))
set_option maxHeartbeats 4000000 in
theorem w_X11_run {X : Cx} {n nu c u : Nat} {K : Nat → Nat} {N : Nat} {z : Sum Nat Int32 × Dat} (O : Ok X cX11_run RX11 (some .int) 6 133) (hm : wlm (xw X) = true) (hn : xn X = 2) (hz : Z0 X (Ax nu K c u)) (hT : T1 X (zi z)) (x1 : Int32) (D : Dat) (h : f_X11_run N nu K x1 D = some z) : V X (Q1 X n (Ax nu K c u) (zi z)) n (Ax nu K c u) D 0 [(0, .ref (bo X + 0)), (1, .int x1)] [] := by
  unfold f_X11_run at h
  refine v_iload_n (pc := 0) O dX11_run_0 1 rfl ?_
  refine v_iconst (pc := 1) O dX11_run_1 ic_1 ?_
  refine v_icmplt (pc := 2) 12 O dX11_run_2 (by decide) (fun c1 => ?_) (fun c1 => ?_)
  · have h := (if_pos c1).symm.trans h
    refine v_sub [] rfl ?_
    exact w_X11_run_b12 O hm hn hz hT D h
  · have h := (if_neg c1).symm.trans h
    refine v_iload_n (pc := 5) O dX11_run_5 1 rfl ?_
    refine v_sipush (pc := 6) O dX11_run_6 sp_600 ?_
    refine v_icmple (pc := 9) 20 O dX11_run_9 (by decide) (fun c2 => ?_) (fun c2 => ?_)
    · have h := (if_pos c2).symm.trans h
      refine v_aload_n (pc := 20) O dX11_run_20 0 rfl ?_
      refine v_getI (pc := 21) (a := 0) O gf_X11_13 fl_X11_213 kq_0 dX11_run_21 ?_
      refine v_ifne (pc := 24) 35 O dX11_run_24 (by decide) (fun c3 => ?_) (fun c3 => ?_)
      · have h := (if_neg c3).symm.trans h
        refine v_aload_n (pc := 35) O dX11_run_35 0 rfl ?_
        refine v_getK (pc := 36) (a := 0) O hm gf_X11_5 fl_X11_60 kq_0 lk_0_5 dX11_run_36 ?_
        refine v_iload_n (pc := 39) O dX11_run_39 1 rfl ?_
        obtain ⟨p4, e5, h⟩ := bind_some h
        refine v_callV (pc := 40) (a := 181) (As := [.int x1]) (rest := []) (r := none) (D' := p4) O (bb0 hz) (c_X3_start hm e5) mw_X3_start im_X3_start se_X3_start ml_X11_252 kq_181 (by decide) rfl rfl rfl (by decide) (by decide) (Nat.le_of_ble_eq_true rfl) dX11_run_40 rfl rfl ?_
        refine v_aload_n (pc := 43) O dX11_run_43 0 rfl ?_
        refine v_getK (pc := 44) (a := 0) O hm gf_X11_5 fl_X11_60 kq_0 lk_0_5 dX11_run_44 ?_
        refine v_aload_n (pc := 47) O dX11_run_47 0 rfl ?_
        refine v_getR (pc := 48) (a := 0) O gf_X11_10 fl_X11_96 kq_0 dX11_run_48 ?_
        obtain ⟨p6, e7, h⟩ := bind_some h
        refine v_callV (pc := 51) (a := 181) (As := [rv (bo X) (dR p4 0 10)]) (rest := []) (r := none) (D' := p6) O (bb0 hz) (c_X3_goOver hm e7) mw_X3_goOver im_X3_goOver se_X3_goOver ml_X11_255 kq_181 (by decide) rfl rfl rfl (by decide) (by decide) (Nat.le_of_ble_eq_true rfl) dX11_run_51 rfl rfl ?_
        refine v_aload_n (pc := 54) O dX11_run_54 0 rfl ?_
        refine v_getK (pc := 55) (a := 0) O hm gf_X11_5 fl_X11_60 kq_0 lk_0_5 dX11_run_55 ?_
        obtain ⟨p8, e9, h⟩ := bind_some h
        refine v_callV (pc := 58) (a := 181) (As := []) (rest := []) (r := (some (.int p8.1))) (D' := p8.2) O (bb0 hz) (c_X3_ending hm e9) mw_X3_ending im_X3_ending se_X3_ending ml_X11_259 kq_181 (by decide) rfl rfl rfl (by decide) (by decide) (Nat.le_of_ble_eq_true rfl) dX11_run_58 rfl rfl ?_
        obtain rfl := Option.some.inj h
        exact v_r1 (v_iret (pc := 61) O hz dX11_run_61)
      · have h := (if_pos c3).symm.trans h
        obtain rfl := Option.some.inj h
        exact v_throw (pc := 27) (e := 2) O hz hT rfl tw_X11_138_140 (by decide) (Nat.le_of_ble_eq_true rfl) dX11_run_27 dX11_run_30 dX11_run_31 dX11_run_34
    · have h := (if_neg c2).symm.trans h
      refine v_sub [] rfl ?_
      exact w_X11_run_b12 O hm hn hz hT D h
theorem c_X11_run {l : Launch} {w : Wx} {n nu c u : Nat} {K : Nat → Nat} {N : Nat} (hl : l.stackTraces = false) (hm : wlm w = true) {x1 : Int32} {D : Dat} {z : Sum Nat Int32 × Dat} (h : f_X11_run N nu K x1 D = some z) : C1 l w yX11_run cX11_run 2 (some .int) 6 133 [.ref (wb w + 0), .int x1] n (Ax nu K c u) D (zi z) :=
  C1.of hl (by decide) (Nat.le_of_ble_eq_true rfl) (fun X e1 e2 e3 hz hT O => by
  subst e1
  subst e2
  exact w_X11_run O hm e3 hz hT x1 D h)
def f_X10_goOver (N : Nat) (nu : Nat) (K : Nat → Nat) (x1 : Option Nat) (D : Dat) : Option (Dat) :=
  ((dR (sR D 189 1 x1) 189 1)).bind (fun a1 => if a1 = 191 ∨ a1 = 196 then ((f_X10_goThrough N nu K 50 (dR (sR D 189 1 x1) a1 0) 0 (sR D 189 1 x1)).bind (fun p4 => (f_X3_finish p4).bind (fun p6 => some p6))) else none)
set_option maxHeartbeats 4000000 in
theorem w_X10_goOver {X : Cx} {n nu c u : Nat} {K : Nat → Nat} {N : Nat} {z : Dat} (O : Ok X cX10_goOver RX10 none 351 7673) (hm : wlm (xw X) = true) (hn : xn X = 2) (hz : Z0 X (Ax nu K c u)) (x1 : Option Nat) (D : Dat) (h : f_X10_goOver N nu K x1 D = some z) : V X (Q0 X n (Ax nu K c u) none z) n (Ax nu K c u) D 0 [(0, .ref (bo X + 189)), (1, rv (bo X) x1)] [] := by
  unfold f_X10_goOver at h
  refine v_aload_n (pc := 0) O dX10_goOver_0 0 rfl ?_
  refine v_aload_nr (pc := 1) O dX10_goOver_1 1 rfl ?_
  refine v_putR (pc := 2) (a := 189) (r := x1) O pf_X10_1 rfl fl_X10_15 kq_189 dX10_goOver_2 ?_
  refine v_aload_n (pc := 5) O dX10_goOver_5 0 rfl ?_
  refine v_aload_n (pc := 6) O dX10_goOver_6 0 rfl ?_
  refine v_getR (pc := 7) (a := 189) O gf_X10_1 fl_X10_15 kq_189 dX10_goOver_7 ?_
  obtain ⟨a1, e2, h⟩ := bind_some h
  rw [e2]
  obtain ⟨c3, h⟩ := if_none h
  refine v_getR (pc := 10) (a := a1) O gf_X4_0 fl_X10_19 (kt_X4 c3) dX10_goOver_10 ?_
  refine v_iconst (pc := 13) O dX10_goOver_13 ic_0 ?_
  obtain ⟨p4, e5, h⟩ := bind_some h
  refine v_callV (pc := 14) (a := 189) (As := [rv (bo X) (dR (sR D 189 1 x1) a1 0), .int 0]) (rest := []) (r := none) (D' := p4) O (bb0 hz) (c_X10_goThrough hm 50 e5) mw_X10_goThrough im_X10_goThrough se_X10_goThrough ml_X10_25 kq_189 (by decide) rfl rfl rfl (by decide) (by decide) (Nat.le_of_ble_eq_true rfl) dX10_goOver_14 rfl rfl ?_
  refine v_aload_n (pc := 17) O dX10_goOver_17 0 rfl ?_
  refine v_getK (pc := 18) (a := 189) O hm gf_X10_0 fl_X10_9 kq_189 lk_189_0 dX10_goOver_18 ?_
  obtain ⟨p6, e7, h⟩ := bind_some h
  refine v_callV (pc := 21) (a := 181) (As := []) (rest := []) (r := none) (D' := p6) O (bb0 hz) (c_X3_finish hm e7) mw_X3_finish im_X3_finish se_X3_finish ml_X10_29 kq_181 (by decide) rfl rfl rfl (by decide) (by decide) (Nat.le_of_ble_eq_true rfl) dX10_goOver_21 rfl rfl ?_
  obtain rfl := Option.some.inj h
  exact v_ret (pc := 24) O hz dX10_goOver_24
theorem c_X10_goOver {l : Launch} {w : Wx} {n nu c u : Nat} {K : Nat → Nat} {N : Nat} (hm : wlm w = true) {x1 : Option Nat} {D : Dat} {z : Dat} (h : f_X10_goOver N nu K x1 D = some z) : C0 l w yX10_goOver cX10_goOver 2 none 351 7673 [.ref (wb w + 189), rv (wb w) x1] n (Ax nu K c u) D none z :=
  C0.of (by decide) (by simp [lg_sl, rv_cat, cat_i, cat_l, cat_r, cat_n]) (fun X e1 e2 e3 hz O => by
  subst e1
  subst e2
  have q : lv_args 0 [.ref (bo X + 189), rv (bo X) x1] = [(0, .ref (bo X + 189)), (1, rv (bo X) x1)] := by simp [lv_args, rv_cat, cat_i, cat_l, cat_r, cat_n]
  show V X _ n _ D 0 (lv_args 0 [.ref (bo X + 189), rv (bo X) x1]) []
  rw [q]
  exact w_X10_goOver O hm e3 hz x1 D h)
def f_X11_walk_b12 (N : Nat) (nu : Nat) (K : Nat → Nat) (D : Dat) : Option (Sum Nat Int32 × Dat) :=
  some (.inl 0, D)
set_option maxHeartbeats 4000000 in
theorem w_X11_walk_b12 {X : Cx} {n nu c u : Nat} {K : Nat → Nat} {N : Nat} {z : Sum Nat Int32 × Dat} (O : Ok X cX11_walk RX11 (some .int) 352 7694) (hm : wlm (xw X) = true) (hn : xn X = 2) (hz : Z0 X (Ax nu K c u)) (hT : T1 X (zi z)) (D : Dat) (h : f_X11_walk_b12 N nu K D = some z) : V X (Q1 X n (Ax nu K c u) (zi z)) n (Ax nu K c u) D 12 [] [] := by
  unfold f_X11_walk_b12 at h
  obtain rfl := Option.some.inj h
  exact v_throw (pc := 12) (e := 0) O hz hT rfl tw_X11_114_116 (by decide) (Nat.le_of_ble_eq_true rfl) dX11_walk_12 dX11_walk_15 dX11_walk_16 dX11_walk_19
def f_X11_walk (N : Nat) (nu : Nat) (K : Nat → Nat) (x1 : Int32) (D : Dat) : Option (Sum Nat Int32 × Dat) :=
  if x1 < 1 then (f_X11_walk_b12 N nu K D) else (if x1 ≤ 600 then (if (dI D 0 12) = 0 then (some (.inl 2, D)) else ((f_X3_start N nu K x1 D).bind (fun p4 => (f_X10_goOver N nu K (dR p4 0 8) p4).bind (fun p6 => (f_X3_ending p6).bind (fun p8 => some (.inr p8.1, p8.2)))))) else (f_X11_walk_b12 N nu K D))
set_option maxHeartbeats 4000000 in
theorem w_X11_walk {X : Cx} {n nu c u : Nat} {K : Nat → Nat} {N : Nat} {z : Sum Nat Int32 × Dat} (O : Ok X cX11_walk RX11 (some .int) 352 7694) (hm : wlm (xw X) = true) (hn : xn X = 2) (hz : Z0 X (Ax nu K c u)) (hT : T1 X (zi z)) (x1 : Int32) (D : Dat) (h : f_X11_walk N nu K x1 D = some z) : V X (Q1 X n (Ax nu K c u) (zi z)) n (Ax nu K c u) D 0 [(0, .ref (bo X + 0)), (1, .int x1)] [] := by
  unfold f_X11_walk at h
  refine v_iload_n (pc := 0) O dX11_walk_0 1 rfl ?_
  refine v_iconst (pc := 1) O dX11_walk_1 ic_1 ?_
  refine v_icmplt (pc := 2) 12 O dX11_walk_2 (by decide) (fun c1 => ?_) (fun c1 => ?_)
  · have h := (if_pos c1).symm.trans h
    refine v_sub [] rfl ?_
    exact w_X11_walk_b12 O hm hn hz hT D h
  · have h := (if_neg c1).symm.trans h
    refine v_iload_n (pc := 5) O dX11_walk_5 1 rfl ?_
    refine v_sipush (pc := 6) O dX11_walk_6 sp_600 ?_
    refine v_icmple (pc := 9) 20 O dX11_walk_9 (by decide) (fun c2 => ?_) (fun c2 => ?_)
    · have h := (if_pos c2).symm.trans h
      refine v_aload_n (pc := 20) O dX11_walk_20 0 rfl ?_
      refine v_getI (pc := 21) (a := 0) O gf_X11_12 fl_X11_262 kq_0 dX11_walk_21 ?_
      refine v_ifne (pc := 24) 35 O dX11_walk_24 (by decide) (fun c3 => ?_) (fun c3 => ?_)
      · have h := (if_neg c3).symm.trans h
        refine v_aload_n (pc := 35) O dX11_walk_35 0 rfl ?_
        refine v_getK (pc := 36) (a := 0) O hm gf_X11_5 fl_X11_60 kq_0 lk_0_5 dX11_walk_36 ?_
        refine v_iload_n (pc := 39) O dX11_walk_39 1 rfl ?_
        obtain ⟨p4, e5, h⟩ := bind_some h
        refine v_callV (pc := 40) (a := 181) (As := [.int x1]) (rest := []) (r := none) (D' := p4) O (bb0 hz) (c_X3_start hm e5) mw_X3_start im_X3_start se_X3_start ml_X11_252 kq_181 (by decide) rfl rfl rfl (by decide) (by decide) (Nat.le_of_ble_eq_true rfl) dX11_walk_40 rfl rfl ?_
        refine v_aload_n (pc := 43) O dX11_walk_43 0 rfl ?_
        refine v_getK (pc := 44) (a := 0) O hm gf_X11_6 fl_X11_69 kq_0 lk_0_6 dX11_walk_44 ?_
        refine v_aload_n (pc := 47) O dX11_walk_47 0 rfl ?_
        refine v_getR (pc := 48) (a := 0) O gf_X11_8 fl_X11_86 kq_0 dX11_walk_48 ?_
        obtain ⟨p6, e7, h⟩ := bind_some h
        refine v_callV (pc := 51) (a := 189) (As := [rv (bo X) (dR p4 0 8)]) (rest := []) (r := none) (D' := p6) O (bb0 hz) (c_X10_goOver hm e7) mw_X10_goOver im_X10_goOver se_X10_goOver ml_X11_265 kq_189 (by decide) rfl rfl rfl (by decide) (by decide) (Nat.le_of_ble_eq_true rfl) dX11_walk_51 rfl rfl ?_
        refine v_aload_n (pc := 54) O dX11_walk_54 0 rfl ?_
        refine v_getK (pc := 55) (a := 0) O hm gf_X11_5 fl_X11_60 kq_0 lk_0_5 dX11_walk_55 ?_
        obtain ⟨p8, e9, h⟩ := bind_some h
        refine v_callV (pc := 58) (a := 181) (As := []) (rest := []) (r := (some (.int p8.1))) (D' := p8.2) O (bb0 hz) (c_X3_ending hm e9) mw_X3_ending im_X3_ending se_X3_ending ml_X11_259 kq_181 (by decide) rfl rfl rfl (by decide) (by decide) (Nat.le_of_ble_eq_true rfl) dX11_walk_58 rfl rfl ?_
        obtain rfl := Option.some.inj h
        exact v_r1 (v_iret (pc := 61) O hz dX11_walk_61)
      · have h := (if_pos c3).symm.trans h
        obtain rfl := Option.some.inj h
        exact v_throw (pc := 27) (e := 2) O hz hT rfl tw_X11_138_140 (by decide) (Nat.le_of_ble_eq_true rfl) dX11_walk_27 dX11_walk_30 dX11_walk_31 dX11_walk_34
    · have h := (if_neg c2).symm.trans h
      refine v_sub [] rfl ?_
      exact w_X11_walk_b12 O hm hn hz hT D h
theorem c_X11_walk {l : Launch} {w : Wx} {n nu c u : Nat} {K : Nat → Nat} {N : Nat} (hl : l.stackTraces = false) (hm : wlm w = true) {x1 : Int32} {D : Dat} {z : Sum Nat Int32 × Dat} (h : f_X11_walk N nu K x1 D = some z) : C1 l w yX11_walk cX11_walk 2 (some .int) 352 7694 [.ref (wb w + 0), .int x1] n (Ax nu K c u) D (zi z) :=
  C1.of hl (by decide) (Nat.le_of_ble_eq_true rfl) (fun X e1 e2 e3 hz hT O => by
  subst e1
  subst e2
  exact w_X11_walk O hm e3 hz hT x1 D h)
