theorem cw_X3_burns : Cond.code yX3_burns cX3_burns 1 (some .boolean) ∈ tb := tb_of 1565 (by decide +kernel) (by decide +kernel)
theorem mw_X3_burns : MW yX3_burns cX3_burns 1 (some .boolean) 0 := ⟨cw_X3_burns, ini_X3, by decide +kernel⟩
theorem im_X3_burns : Cond.instanceMethod yX3_burns ∈ tb := tb_of 1563 (by decide +kernel) (by decide +kernel)
theorem se_X3_burns : Cond.selects (yX3_burns).cls yX3_burns yX3_burns ∈ tb := tb_of 1564 (by decide +kernel) (by decide +kernel)
theorem pf_X8_0 : PI 8 RX8 TX8 3 tyX8 0 2 (.object "FlowChain$Program") := ⟨gf_X8_0, rfl, rfl⟩
theorem pf_X8_1 : PI 8 RX8 TX8 3 tyX8 1 2 (.object "FlowChain$Code") := ⟨gf_X8_1, rfl, rfl⟩
theorem ml_X8_19 : Cond.methodLink RX8 19 yX0_empty ∈ tb := tb_of 1223 (by decide +kernel) (by decide +kernel)
theorem fl_X8_28 : Cond.fieldLink RX8 28 RX4 (TX4 0).2.1 (TX4 0).2.2.1 ∈ tb := tb_of 456 (by decide +kernel) (by decide +kernel)
theorem cw_J0_indexOf_0f7a4 : Cond.code yJ0_indexOf_0f7a4 cJ0_indexOf_0f7a4 2 (some .int) ∈ tb := tb_of 903 (by decide +kernel) (by decide +kernel)
theorem mw_J0_indexOf_0f7a4 : MW yJ0_indexOf_0f7a4 cJ0_indexOf_0f7a4 2 (some .int) 1 := ⟨cw_J0_indexOf_0f7a4, ini_J0, by decide +kernel⟩
theorem im_J0_indexOf_0f7a4 : Cond.instanceMethod yJ0_indexOf_0f7a4 ∈ tb := tb_of 901 (by decide +kernel) (by decide +kernel)
theorem se_J0_indexOf_0f7a4 : Cond.selects (yJ0_indexOf_0f7a4).cls yJ0_indexOf_0f7a4 yJ0_indexOf_0f7a4 ∈ tb := tb_of 902 (by decide +kernel) (by decide +kernel)
theorem ml_X5_114 : Cond.methodLink RX5 114 yJ0_indexOf_0f7a4 ∈ tb := tb_of 900 (by decide +kernel) (by decide +kernel)
theorem ini_X10 : Cond.initialized RX10 ∈ tb := tb_of 169 (by decide +kernel) (by decide +kernel)
theorem cw_X10_reckon : Cond.code yX10_reckon cX10_reckon 3 none ∈ tb := tb_of 1645 (by decide +kernel) (by decide +kernel)
theorem mw_X10_reckon : MW yX10_reckon cX10_reckon 3 none 1 := ⟨cw_X10_reckon, ini_X10, by decide +kernel⟩
theorem im_X10_reckon : Cond.instanceMethod yX10_reckon ∈ tb := tb_of 1644 (by decide +kernel) (by decide +kernel)
theorem se_X10_reckon : Cond.selects (yX10_reckon).cls yX10_reckon yX10_reckon ∈ tb := tb_of 80 (by decide +kernel) (by decide +kernel)
theorem ml_X10_67 : Cond.methodLink RX10 67 yX10_reckon ∈ tb := tb_of 1642 (by decide +kernel) (by decide +kernel)
theorem ml_X10_77 : Cond.methodLink RX10 77 yX3_pop ∈ tb := tb_of 1649 (by decide +kernel) (by decide +kernel)
theorem fl_X10_84 : Cond.fieldLink RX10 84 RX7 (TX7 7).2.1 (TX7 7).2.2.1 ∈ tb := tb_of 1054 (by decide +kernel) (by decide +kernel)
theorem fl_X10_81 : Cond.fieldLink RX10 81 RX7 (TX7 6).2.1 (TX7 6).2.2.1 ∈ tb := tb_of 1052 (by decide +kernel) (by decide +kernel)
theorem cw_X10_goThrough : Cond.code yX10_goThrough cX10_goThrough 4 none ∈ tb := tb_of 1635 (by decide +kernel) (by decide +kernel)
theorem mw_X10_goThrough : MW yX10_goThrough cX10_goThrough 4 none 2 := ⟨cw_X10_goThrough, ini_X10, by decide +kernel⟩
theorem im_X10_goThrough : Cond.instanceMethod yX10_goThrough ∈ tb := tb_of 1634 (by decide +kernel) (by decide +kernel)
theorem se_X10_goThrough : Cond.selects (yX10_goThrough).cls yX10_goThrough yX10_goThrough ∈ tb := tb_of 78 (by decide +kernel) (by decide +kernel)
theorem ml_X10_25 : Cond.methodLink RX10 25 yX10_goThrough ∈ tb := tb_of 1632 (by decide +kernel) (by decide +kernel)
theorem cw_X5_kindOfWord : Cond.code yX5_kindOfWord cX5_kindOfWord 3 (some .int) ∈ tb := tb_of 837 (by decide +kernel) (by decide +kernel)
theorem mw_X5_kindOfWord : MW yX5_kindOfWord cX5_kindOfWord 3 (some .int) 2 := ⟨cw_X5_kindOfWord, ini_X5, by decide +kernel⟩
theorem im_X5_kindOfWord : Cond.instanceMethod yX5_kindOfWord ∈ tb := tb_of 836 (by decide +kernel) (by decide +kernel)
theorem se_X5_kindOfWord : Cond.selects (yX5_kindOfWord).cls yX5_kindOfWord yX5_kindOfWord ∈ tb := tb_of 12 (by decide +kernel) (by decide +kernel)
theorem ml_X5_109 : Cond.methodLink RX5 109 yX5_kindOfWord ∈ tb := tb_of 834 (by decide +kernel) (by decide +kernel)
theorem fl_X10_41 : Cond.fieldLink RX10 41 RX7 (TX7 0).2.1 (TX7 0).2.2.1 ∈ tb := tb_of 1028 (by decide +kernel) (by decide +kernel)
theorem fl_X10_53 : Cond.fieldLink RX10 53 RX7 (TX7 2).2.1 (TX7 2).2.2.1 ∈ tb := tb_of 1034 (by decide +kernel) (by decide +kernel)
theorem fl_X10_70 : Cond.fieldLink RX10 70 RX7 (TX7 3).2.1 (TX7 3).2.2.1 ∈ tb := tb_of 1038 (by decide +kernel) (by decide +kernel)
theorem cw_X10_isTrue : Cond.code yX10_isTrue cX10_isTrue 2 (some .boolean) ∈ tb := tb_of 1657 (by decide +kernel) (by decide +kernel)
theorem mw_X10_isTrue : MW yX10_isTrue cX10_isTrue 2 (some .boolean) 1 := ⟨cw_X10_isTrue, ini_X10, by decide +kernel⟩
theorem im_X10_isTrue : Cond.instanceMethod yX10_isTrue ∈ tb := tb_of 1656 (by decide +kernel) (by decide +kernel)
theorem se_X10_isTrue : Cond.selects (yX10_isTrue).cls yX10_isTrue yX10_isTrue ∈ tb := tb_of 82 (by decide +kernel) (by decide +kernel)
theorem ml_X10_87 : Cond.methodLink RX10 87 yX10_isTrue ∈ tb := tb_of 1654 (by decide +kernel) (by decide +kernel)
theorem ml_X10_38 : Cond.methodLink RX10 38 yX3_burns ∈ tb := tb_of 1637 (by decide +kernel) (by decide +kernel)
theorem cw_X10_goOverIf : Cond.code yX10_goOverIf cX10_goOverIf 3 none ∈ tb := tb_of 1641 (by decide +kernel) (by decide +kernel)
theorem mw_X10_goOverIf : MW yX10_goOverIf cX10_goOverIf 3 none 2 := ⟨cw_X10_goOverIf, ini_X10, by decide +kernel⟩
theorem im_X10_goOverIf : Cond.instanceMethod yX10_goOverIf ∈ tb := tb_of 1640 (by decide +kernel) (by decide +kernel)
theorem se_X10_goOverIf : Cond.selects (yX10_goOverIf).cls yX10_goOverIf yX10_goOverIf ∈ tb := tb_of 79 (by decide +kernel) (by decide +kernel)
theorem ml_X10_47 : Cond.methodLink RX10 47 yX10_goOverIf ∈ tb := tb_of 1638 (by decide +kernel) (by decide +kernel)
theorem cw_X10_goOverWhile : Cond.code yX10_goOverWhile cX10_goOverWhile 4 none ∈ tb := tb_of 1653 (by decide +kernel) (by decide +kernel)
theorem mw_X10_goOverWhile : MW yX10_goOverWhile cX10_goOverWhile 4 none 2 := ⟨cw_X10_goOverWhile, ini_X10, by decide +kernel⟩
theorem im_X10_goOverWhile : Cond.instanceMethod yX10_goOverWhile ∈ tb := tb_of 1652 (by decide +kernel) (by decide +kernel)
theorem se_X10_goOverWhile : Cond.selects (yX10_goOverWhile).cls yX10_goOverWhile yX10_goOverWhile ∈ tb := tb_of 81 (by decide +kernel) (by decide +kernel)
theorem ml_X10_50 : Cond.methodLink RX10 50 yX10_goOverWhile ∈ tb := tb_of 1650 (by decide +kernel) (by decide +kernel)
theorem ml_X10_56 : Cond.methodLink RX10 56 yX4_proc ∈ tb := tb_of 1658 (by decide +kernel) (by decide +kernel)
theorem cw_X10_goOverPlain : Cond.code yX10_goOverPlain cX10_goOverPlain 2 none ∈ tb := tb_of 1662 (by decide +kernel) (by decide +kernel)
theorem mw_X10_goOverPlain : MW yX10_goOverPlain cX10_goOverPlain 2 none 1 := ⟨cw_X10_goOverPlain, ini_X10, by decide +kernel⟩
theorem im_X10_goOverPlain : Cond.instanceMethod yX10_goOverPlain ∈ tb := tb_of 1661 (by decide +kernel) (by decide +kernel)
theorem se_X10_goOverPlain : Cond.selects (yX10_goOverPlain).cls yX10_goOverPlain yX10_goOverPlain ∈ tb := tb_of 83 (by decide +kernel) (by decide +kernel)
theorem ml_X10_60 : Cond.methodLink RX10 60 yX10_goOverPlain ∈ tb := tb_of 1659 (by decide +kernel) (by decide +kernel)
theorem fl_X10_64 : Cond.fieldLink RX10 64 RX7 (TX7 9).2.1 (TX7 9).2.2.1 ∈ tb := tb_of 1061 (by decide +kernel) (by decide +kernel)
def f_X5_kindOf_b21 (N : Nat) (s0 : Int32) (D : Dat) : Option (Int32 × Dat) :=
  some (s0, D)
set_option maxHeartbeats 4000000 in
theorem w_X5_kindOf_b21 {X : Cx} {n nu c u : Nat} {K : Nat → Nat} {N : Nat} {z : Int32 × Dat} (O : Ok X cX5_kindOf RX5 (some .int) 6 132) (hm : wlm (xw X) = true) (hn : xn X = 3) (hz : Z0 X (Ax nu K c u)) (s0 : Int32) (D : Dat) (h : f_X5_kindOf_b21 N s0 D = some z) : V X (Q0 X n (Ax nu K c u) (some (.int z.1)) z.2) n (Ax nu K c u) D 21 [] [.int s0] := by
  unfold f_X5_kindOf_b21 at h
  obtain rfl := Option.some.inj h
  exact v_iret (pc := 21) O hz dX5_kindOf_21
def f_X5_kindOf_b47 (N : Nat) (s0 : Int32) (D : Dat) : Option (Int32 × Dat) :=
  some (s0, D)
set_option maxHeartbeats 4000000 in
theorem w_X5_kindOf_b47 {X : Cx} {n nu c u : Nat} {K : Nat → Nat} {N : Nat} {z : Int32 × Dat} (O : Ok X cX5_kindOf RX5 (some .int) 6 132) (hm : wlm (xw X) = true) (hn : xn X = 3) (hz : Z0 X (Ax nu K c u)) (s0 : Int32) (D : Dat) (h : f_X5_kindOf_b47 N s0 D = some z) : V X (Q0 X n (Ax nu K c u) (some (.int z.1)) z.2) n (Ax nu K c u) D 47 [] [.int s0] := by
  unfold f_X5_kindOf_b47 at h
  obtain rfl := Option.some.inj h
  exact v_iret (pc := 47) O hz dX5_kindOf_47
def f_X5_kindOf_b72 (N : Nat) (s0 : Int32) (D : Dat) : Option (Int32 × Dat) :=
  some (s0, D)
set_option maxHeartbeats 4000000 in
theorem w_X5_kindOf_b72 {X : Cx} {n nu c u : Nat} {K : Nat → Nat} {N : Nat} {z : Int32 × Dat} (O : Ok X cX5_kindOf RX5 (some .int) 6 132) (hm : wlm (xw X) = true) (hn : xn X = 3) (hz : Z0 X (Ax nu K c u)) (s0 : Int32) (D : Dat) (h : f_X5_kindOf_b72 N s0 D = some z) : V X (Q0 X n (Ax nu K c u) (some (.int z.1)) z.2) n (Ax nu K c u) D 72 [] [.int s0] := by
  unfold f_X5_kindOf_b72 at h
  obtain rfl := Option.some.inj h
  exact v_iret (pc := 72) O hz dX5_kindOf_72
def f_X5_kindOf (N : Nat) (x1 : Int32) (x2 : Int32) (D : Dat) : Option (Int32 × Dat) :=
  (f_X5_isDigit x1 D).bind (fun p1 => if p1.1 = 0 then ((f_X5_isLetter x1 p1.2).bind (fun p4 => if p4.1 = 0 then (if x1 < 0 ∨ 240 ≤ (x1).toNatClampNeg then none else ((f_J0_indexOf_0f7a4 N 9 (dI p4.2 4 (x1).toNatClampNeg) p4.2).bind (fun p8 => if p8.1 < 0 then (f_X5_kindOf_b72 N 3 p8.2) else (if x1 < 0 ∨ 240 ≤ (x1).toNatClampNeg then none else (f_X5_kindOf_b72 N (dI p8.2 4 (x1).toNatClampNeg) p8.2))))) else (if (x2 - x1) = 1 then (f_X5_kindOf_b47 N 1 p4.2) else ((f_X5_kindOfWord N x1 x2 p4.2).bind (fun p13 => f_X5_kindOf_b47 N p13.1 p13.2))))) else (if (x2 - x1) ≤ 9 then (f_X5_kindOf_b21 N 2 p1.2) else (f_X5_kindOf_b21 N 3 p1.2)))
set_option maxHeartbeats 4000000 in
theorem w_X5_kindOf {X : Cx} {n nu c u : Nat} {K : Nat → Nat} {N : Nat} {z : Int32 × Dat} (O : Ok X cX5_kindOf RX5 (some .int) 6 132) (hm : wlm (xw X) = true) (hn : xn X = 3) (hz : Z0 X (Ax nu K c u)) (x1 : Int32) (x2 : Int32) (D : Dat) (h : f_X5_kindOf N x1 x2 D = some z) : V X (Q0 X n (Ax nu K c u) (some (.int z.1)) z.2) n (Ax nu K c u) D 0 [(0, .ref (bo X + pp 3)), (1, .int x1), (2, .int x2)] [] := by
  unfold f_X5_kindOf at h
  refine v_aload_n (pc := 0) O dX5_kindOf_0 0 rfl ?_
  refine v_iload_n (pc := 1) O dX5_kindOf_1 1 rfl ?_
  obtain ⟨p1, e2, h⟩ := bind_some h
  refine v_callV (pc := 2) (a := 3) (As := [.int x1]) (rest := []) (r := (some (.int p1.1))) (D' := p1.2) O (bb0 hz) (c_X5_isDigit hm e2) mw_X5_isDigit im_X5_isDigit se_X5_isDigit ml_X5_99 kq_3 (by decide) rfl rfl rfl (by decide) (by decide) (Nat.le_of_ble_eq_true rfl) dX5_kindOf_2 rfl rfl ?_
  refine v_ifeq (pc := 5) 22 O dX5_kindOf_5 (by decide) (fun c3 => ?_) (fun c3 => ?_)
  · have h := (if_pos c3).symm.trans h
    refine v_aload_n (pc := 22) O dX5_kindOf_22 0 rfl ?_
    refine v_iload_n (pc := 23) O dX5_kindOf_23 1 rfl ?_
    obtain ⟨p4, e5, h⟩ := bind_some h
    refine v_callV (pc := 24) (a := 3) (As := [.int x1]) (rest := []) (r := (some (.int p4.1))) (D' := p4.2) O (bb0 hz) (c_X5_isLetter hm e5) mw_X5_isLetter im_X5_isLetter se_X5_isLetter ml_X5_95 kq_3 (by decide) rfl rfl rfl (by decide) (by decide) (Nat.le_of_ble_eq_true rfl) dX5_kindOf_24 rfl rfl ?_
    refine v_ifeq (pc := 27) 48 O dX5_kindOf_27 (by decide) (fun c6 => ?_) (fun c6 => ?_)
    · have h := (if_pos c6).symm.trans h
      refine v_ldcS (pc := 48) O 9 (by decide) rfl dX5_kindOf_48 ?_
      refine v_aload_n (pc := 50) O dX5_kindOf_50 0 rfl ?_
      refine v_getK (pc := 51) (a := 3) O hm gf_X5_1 fl_X5_9 kq_3 lk_3_1 dX5_kindOf_51 ?_
      refine v_iload_n (pc := 54) O dX5_kindOf_54 1 rfl ?_
      obtain ⟨c7, h⟩ := or_none h
      refine v_cald (pc := 55) (a := 4) O kq_4 (inq lq_4 c7) dX5_kindOf_55 ?_
      obtain ⟨p8, e9, h⟩ := bind_some h
      refine v_callT (pc := 56) (i := 9) (As := [.int (dI p4.2 4 (x1).toNatClampNeg)]) (rest := []) (r := (some (.int p8.1))) (D' := p8.2) O (bb0 hz) (by decide) (c_J0_indexOf_0f7a4 hm (by decide) e9) mw_J0_indexOf_0f7a4 im_J0_indexOf_0f7a4 se_J0_indexOf_0f7a4 ml_X5_114 rfl rfl (by decide) (by decide) (Nat.le_of_ble_eq_true rfl) dX5_kindOf_56 rfl rfl ?_
      refine v_iflt (pc := 59) 71 O dX5_kindOf_59 (by decide) (fun c10 => ?_) (fun c10 => ?_)
      · have h := (if_pos c10).symm.trans h
        refine v_iconst (pc := 71) O dX5_kindOf_71 ic_3 ?_
        refine v_sub [] rfl ?_
        exact w_X5_kindOf_b72 O hm hn hz 3 p8.2 h
      · have h := (if_neg c10).symm.trans h
        refine v_aload_n (pc := 62) O dX5_kindOf_62 0 rfl ?_
        refine v_getK (pc := 63) (a := 3) O hm gf_X5_1 fl_X5_9 kq_3 lk_3_1 dX5_kindOf_63 ?_
        refine v_iload_n (pc := 66) O dX5_kindOf_66 1 rfl ?_
        obtain ⟨c11, h⟩ := or_none h
        refine v_cald (pc := 67) (a := 4) O kq_4 (inq lq_4 c11) dX5_kindOf_67 ?_
        refine v_goto (pc := 68) 72 O dX5_kindOf_68 (by decide) ?_
        refine v_sub [] rfl ?_
        exact w_X5_kindOf_b72 O hm hn hz (dI p8.2 4 (x1).toNatClampNeg) p8.2 h
    · have h := (if_neg c6).symm.trans h
      refine v_iload_n (pc := 30) O dX5_kindOf_30 2 rfl ?_
      refine v_iload_n (pc := 31) O dX5_kindOf_31 1 rfl ?_
      refine v_isub (pc := 32) O dX5_kindOf_32 ?_
      refine v_iconst (pc := 33) O dX5_kindOf_33 ic_1 ?_
      refine v_icmpne (pc := 34) 41 O dX5_kindOf_34 (by decide) (fun c12 => ?_) (fun c12 => ?_)
      · have h := (if_neg c12).symm.trans h
        refine v_aload_n (pc := 41) O dX5_kindOf_41 0 rfl ?_
        refine v_iload_n (pc := 42) O dX5_kindOf_42 1 rfl ?_
        refine v_iload_n (pc := 43) O dX5_kindOf_43 2 rfl ?_
        obtain ⟨p13, e14, h⟩ := bind_some h
        refine v_callV (pc := 44) (a := 3) (As := [.int x1, .int x2]) (rest := []) (r := (some (.int p13.1))) (D' := p13.2) O (bb0 hz) (c_X5_kindOfWord hm e14) mw_X5_kindOfWord im_X5_kindOfWord se_X5_kindOfWord ml_X5_109 kq_3 (by decide) rfl rfl rfl (by decide) (by decide) (Nat.le_of_ble_eq_true rfl) dX5_kindOf_44 rfl rfl ?_
        refine v_sub [] rfl ?_
        exact w_X5_kindOf_b47 O hm hn hz p13.1 p13.2 h
      · have h := (if_pos c12).symm.trans h
        refine v_iconst (pc := 37) O dX5_kindOf_37 ic_1 ?_
        refine v_goto (pc := 38) 47 O dX5_kindOf_38 (by decide) ?_
        refine v_sub [] rfl ?_
        exact w_X5_kindOf_b47 O hm hn hz 1 p4.2 h
  · have h := (if_neg c3).symm.trans h
    refine v_iload_n (pc := 8) O dX5_kindOf_8 2 rfl ?_
    refine v_iload_n (pc := 9) O dX5_kindOf_9 1 rfl ?_
    refine v_isub (pc := 10) O dX5_kindOf_10 ?_
    refine v_bipush (pc := 11) O dX5_kindOf_11 bp_9 ?_
    refine v_icmple (pc := 13) 20 O dX5_kindOf_13 (by decide) (fun c15 => ?_) (fun c15 => ?_)
    · have h := (if_pos c15).symm.trans h
      refine v_iconst (pc := 20) O dX5_kindOf_20 ic_2 ?_
      refine v_sub [] rfl ?_
      exact w_X5_kindOf_b21 O hm hn hz 2 p1.2 h
    · have h := (if_neg c15).symm.trans h
      refine v_iconst (pc := 16) O dX5_kindOf_16 ic_3 ?_
      refine v_goto (pc := 17) 21 O dX5_kindOf_17 (by decide) ?_
      refine v_sub [] rfl ?_
      exact w_X5_kindOf_b21 O hm hn hz 3 p1.2 h
theorem c_X5_kindOf {l : Launch} {w : Wx} {n nu c u : Nat} {K : Nat → Nat} {N : Nat} (hm : wlm w = true) {x1 : Int32} {x2 : Int32} {D : Dat} {z : Int32 × Dat} (h : f_X5_kindOf N x1 x2 D = some z) : C0 l w yX5_kindOf cX5_kindOf 3 (some .int) 6 132 [.ref (wb w + pp 3), .int x1, .int x2] n (Ax nu K c u) D (some (.int z.1)) z.2 :=
  C0.of (by decide) (Nat.le_of_ble_eq_true rfl) (fun X e1 e2 e3 hz O => by
  subst e1
  subst e2
  exact w_X5_kindOf O hm e3 hz x1 x2 D h)
def f_X8_fits_b53 (N : Nat) (nu : Nat) (K : Nat → Nat) (s0 : Int32) (D : Dat) : Option (Int32 × Dat) :=
  if s0 &&& 1 = s0 then some (s0, D) else none
set_option maxHeartbeats 4000000 in
theorem w_X8_fits_b53 {X : Cx} {n nu c u : Nat} {K : Nat → Nat} {N : Nat} {z : Int32 × Dat} (O : Ok X cX8_fits RX8 (some .boolean) 201 4523) (hm : wlm (xw X) = true) (hn : xn X = 3) (hz : Z0 X (Ax nu K c u)) (s0 : Int32) (D : Dat) (h : f_X8_fits_b53 N nu K s0 D = some z) : V X (Q0 X n (Ax nu K c u) (some (.int z.1)) z.2) n (Ax nu K c u) D 53 [] [.int s0] := by
  unfold f_X8_fits_b53 at h
  obtain ⟨c1, h⟩ := if_none h
  obtain rfl := Option.some.inj h
  exact v_zret (pc := 53) O hz (congrArg Value.int c1) dX8_fits_53
def f_X8_fits (N : Nat) (nu : Nat) (K : Nat → Nat) (x1 : Option Nat) (x2 : Option Nat) (D : Dat) : Option (Int32 × Dat) :=
  ((dR (sR (sR D 106 0 x1) 106 1 x2) 106 1)).bind (fun a2 => if a2 = 201 ∨ a2 = 204 then ((f_X0_empty a2 (sR (sR D 106 0 x1) 106 1 x2)).bind (fun p5 => ((dR (sI p5 106 2 0) 106 0)).bind (fun a7 => if a7 = 191 ∨ a7 = 196 then ((f_X8_goThrough N nu K 50 (dR (sI p5 106 2 0) a7 0) 0 (sI p5 106 2 0)).bind (fun p10 => (f_X8_emit 15 0 p10).bind (fun p12 => if (dI p12 106 2) = 0 then (f_X8_fits_b53 N nu K 1 p12) else (f_X8_fits_b53 N nu K 0 p12)))) else none))) else none)
set_option maxHeartbeats 4000000 in
theorem w_X8_fits {X : Cx} {n nu c u : Nat} {K : Nat → Nat} {N : Nat} {z : Int32 × Dat} (O : Ok X cX8_fits RX8 (some .boolean) 201 4523) (hm : wlm (xw X) = true) (hn : xn X = 3) (hz : Z0 X (Ax nu K c u)) (x1 : Option Nat) (x2 : Option Nat) (D : Dat) (h : f_X8_fits N nu K x1 x2 D = some z) : V X (Q0 X n (Ax nu K c u) (some (.int z.1)) z.2) n (Ax nu K c u) D 0 [(0, .ref (bo X + pp 106)), (1, rv (bo X) x1), (2, rv (bo X) x2)] [] := by
  unfold f_X8_fits at h
  refine v_aload_n (pc := 0) O dX8_fits_0 0 rfl ?_
  refine v_aload_nr (pc := 1) O dX8_fits_1 1 rfl ?_
  refine v_putR (pc := 2) (a := 106) (r := x1) O pf_X8_0 rfl fl_X8_9 kq_106 dX8_fits_2 ?_
  refine v_aload_n (pc := 5) O dX8_fits_5 0 rfl ?_
  refine v_aload_nr (pc := 6) O dX8_fits_6 2 rfl ?_
  refine v_putR (pc := 7) (a := 106) (r := x2) O pf_X8_1 rfl fl_X8_15 kq_106 dX8_fits_7 ?_
  refine v_aload_n (pc := 10) O dX8_fits_10 0 rfl ?_
  refine v_getR (pc := 11) (a := 106) O gf_X8_1 fl_X8_15 kq_106 dX8_fits_11 ?_
  obtain ⟨a2, e3, h⟩ := bind_some h
  rw [e3]
  obtain ⟨c4, h⟩ := if_none h
  obtain ⟨p5, e6, h⟩ := bind_some h
  refine v_callV (pc := 14) (a := a2) (As := []) (rest := []) (r := none) (D' := p5) O (bb0 hz) (c_X0_empty hm c4 e6) mw_X0_empty im_X0_empty se_X0_empty ml_X8_19 (kt_X0 c4) (by decide) rfl rfl rfl (by decide) (by decide) (Nat.le_of_ble_eq_true rfl) dX8_fits_14 rfl rfl ?_
  refine v_aload_n (pc := 17) O dX8_fits_17 0 rfl ?_
  refine v_iconst (pc := 18) O dX8_fits_18 ic_0 ?_
  refine v_putZ (pc := 19) (a := 106) O pf_X8_2 fl_X8_24 kq_106 narrow_b0 dX8_fits_19 ?_
  refine v_aload_n (pc := 22) O dX8_fits_22 0 rfl ?_
  refine v_aload_n (pc := 23) O dX8_fits_23 0 rfl ?_
  refine v_getR (pc := 24) (a := 106) O gf_X8_0 fl_X8_9 kq_106 dX8_fits_24 ?_
  obtain ⟨a7, e8, h⟩ := bind_some h
  rw [e8]
  obtain ⟨c9, h⟩ := if_none h
  refine v_getR (pc := 27) (a := a7) O gf_X4_0 fl_X8_28 (kt_X4 c9) dX8_fits_27 ?_
  refine v_iconst (pc := 30) O dX8_fits_30 ic_0 ?_
  obtain ⟨p10, e11, h⟩ := bind_some h
  refine v_callV (pc := 31) (a := 106) (As := [rv (bo X) (dR (sI p5 106 2 0) a7 0), .int 0]) (rest := []) (r := none) (D' := p10) O (bb0 hz) (c_X8_goThrough hm 50 e11) mw_X8_goThrough im_X8_goThrough se_X8_goThrough ml_X8_34 kq_106 (by decide) rfl rfl rfl (by decide) (by decide) (Nat.le_of_ble_eq_true rfl) dX8_fits_31 rfl rfl ?_
  refine v_aload_n (pc := 34) O dX8_fits_34 0 rfl ?_
  refine v_bipush (pc := 35) O dX8_fits_35 bp_15 ?_
  refine v_iconst (pc := 37) O dX8_fits_37 ic_0 ?_
  obtain ⟨p12, e13, h⟩ := bind_some h
  refine v_callV (pc := 38) (a := 106) (As := [.int 15, .int 0]) (rest := []) (r := none) (D' := p12) O (bb0 hz) (c_X8_emit hm e13) mw_X8_emit im_X8_emit se_X8_emit ml_X8_38 kq_106 (by decide) rfl rfl rfl (by decide) (by decide) (Nat.le_of_ble_eq_true rfl) dX8_fits_38 rfl rfl ?_
  refine v_aload_n (pc := 41) O dX8_fits_41 0 rfl ?_
  refine v_getI (pc := 42) (a := 106) O gf_X8_2 fl_X8_24 kq_106 dX8_fits_42 ?_
  refine v_ifne (pc := 45) 52 O dX8_fits_45 (by decide) (fun c14 => ?_) (fun c14 => ?_)
  · have h := (if_neg c14).symm.trans h
    refine v_iconst (pc := 52) O dX8_fits_52 ic_0 ?_
    refine v_sub [] rfl ?_
    exact w_X8_fits_b53 O hm hn hz 0 p12 h
  · have h := (if_pos c14).symm.trans h
    refine v_iconst (pc := 48) O dX8_fits_48 ic_1 ?_
    refine v_goto (pc := 49) 53 O dX8_fits_49 (by decide) ?_
    refine v_sub [] rfl ?_
    exact w_X8_fits_b53 O hm hn hz 1 p12 h
theorem c_X8_fits {l : Launch} {w : Wx} {n nu c u : Nat} {K : Nat → Nat} {N : Nat} (hm : wlm w = true) {x1 : Option Nat} {x2 : Option Nat} {D : Dat} {z : Int32 × Dat} (h : f_X8_fits N nu K x1 x2 D = some z) : C0 l w yX8_fits cX8_fits 3 (some .boolean) 201 4523 [.ref (wb w + pp 106), rv (wb w) x1, rv (wb w) x2] n (Ax nu K c u) D (some (.int z.1)) z.2 :=
  C0.of (by decide) (by simp [lg_sl, rv_cat, cat_i, cat_l, cat_r, cat_n, fmt_cat]) (fun X e1 e2 e3 hz O => by
  subst e1
  subst e2
  have q : lv_args 0 [.ref (bo X + pp 106), rv (bo X) x1, rv (bo X) x2] = [(0, .ref (bo X + pp 106)), (1, rv (bo X) x1), (2, rv (bo X) x2)] := by simp [lv_args, rv_cat, cat_i, cat_l, cat_r, cat_n, fmt_cat]
  show V X _ n _ D 0 (lv_args 0 [.ref (bo X + pp 106), rv (bo X) x1, rv (bo X) x2]) []
  rw [q]
  exact w_X8_fits O hm e3 hz x1 x2 D h)
def f_X10_goOverPlain_b84 (N : Nat) (nu : Nat) (K : Nat → Nat) (D : Dat) : Option (Dat) :=
  some D
set_option maxHeartbeats 4000000 in
theorem w_X10_goOverPlain_b84 {X : Cx} {n nu c u : Nat} {K : Nat → Nat} {N : Nat} {z : Dat} (O : Ok X cX10_goOverPlain RX10 none 4 89) (hm : wlm (xw X) = true) (hn : xn X = 2) (hz : Z0 X (Ax nu K c u)) (D : Dat) (h : f_X10_goOverPlain_b84 N nu K D = some z) : V X (Q0 X n (Ax nu K c u) none z) n (Ax nu K c u) D 84 [] [] := by
  unfold f_X10_goOverPlain_b84 at h
  obtain rfl := Option.some.inj h
  exact v_ret (pc := 84) O hz dX10_goOverPlain_84
def f_X10_goOverPlain_b81 (N : Nat) (nu : Nat) (K : Nat → Nat) (s0 : Int32) (s1 : Int32) (D : Dat) : Option (Dat) :=
  (f_X3_perform s1 s0 D).bind (fun p1 => f_X10_goOverPlain_b84 N nu K p1)
set_option maxHeartbeats 4000000 in
theorem w_X10_goOverPlain_b81 {X : Cx} {n nu c u : Nat} {K : Nat → Nat} {N : Nat} {z : Dat} (O : Ok X cX10_goOverPlain RX10 none 4 89) (hm : wlm (xw X) = true) (hn : xn X = 2) (hz : Z0 X (Ax nu K c u)) (s0 : Int32) (s1 : Int32) (D : Dat) (h : f_X10_goOverPlain_b81 N nu K s0 s1 D = some z) : V X (Q0 X n (Ax nu K c u) none z) n (Ax nu K c u) D 81 [] [.int s0, .int s1, .ref (bo X + pp 181)] := by
  unfold f_X10_goOverPlain_b81 at h
  obtain ⟨p1, e2, h⟩ := bind_some h
  refine v_callV (pc := 81) (a := 181) (As := [.int s1, .int s0]) (rest := []) (r := none) (D' := p1) O (bb0 hz) (c_X3_perform hm e2) mw_X3_perform im_X3_perform se_X3_perform ml_X10_73 kq_181 (by decide) rfl rfl rfl (by decide) (by decide) (Nat.le_of_ble_eq_true rfl) dX10_goOverPlain_81 rfl rfl ?_
  refine v_sub [] rfl ?_
  exact w_X10_goOverPlain_b84 O hm hn hz p1 h
def f_X10_goOverPlain (N : Nat) (nu : Nat) (K : Nat → Nat) (x1 : Option Nat) (D : Dat) : Option (Dat) :=
  (f_X10_reckon N nu K x1 D).bind (fun p3 => (f_X3_goesOn p3).bind (fun p5 => if p5.1 = 0 then (some p5.2) else ((x1).bind (fun a8 => if kd K a8 = 7 then (if (dI p5.2 a8 0) = 13 then ((f_X3_perform 13 (dI p5.2 a8 3) p5.2).bind (fun p13 => (f_X3_perform 2 (dI p13 a8 2) p13).bind (fun p15 => f_X10_goOverPlain_b84 N nu K p15))) else (if (dI p5.2 a8 0) = 14 then (f_X10_goOverPlain_b81 N nu K (dI p5.2 a8 3) (dI p5.2 a8 0) p5.2) else (f_X10_goOverPlain_b81 N nu K (dI p5.2 a8 2) (dI p5.2 a8 0) p5.2))) else none))))
set_option maxHeartbeats 4000000 in
theorem w_X10_goOverPlain {X : Cx} {n nu c u : Nat} {K : Nat → Nat} {N : Nat} {z : Dat} (O : Ok X cX10_goOverPlain RX10 none 4 89) (hm : wlm (xw X) = true) (hn : xn X = 2) (hz : Z0 X (Ax nu K c u)) (x1 : Option Nat) (D : Dat) (h : f_X10_goOverPlain N nu K x1 D = some z) : V X (Q0 X n (Ax nu K c u) none z) n (Ax nu K c u) D 0 [(0, .ref (bo X + pp 189)), (1, rv (bo X) x1)] [] := by
  unfold f_X10_goOverPlain at h
  refine v_aload_n (pc := 0) O dX10_goOverPlain_0 0 rfl ?_
  refine v_aload_nr (pc := 1) O dX10_goOverPlain_1 1 rfl ?_
  obtain ⟨p3, e4, h⟩ := bind_some h
  refine v_callV (pc := 2) (a := 189) (As := [rv (bo X) x1]) (rest := []) (r := none) (D' := p3) O (bb0 hz) (c_X10_reckon hm e4) mw_X10_reckon im_X10_reckon se_X10_reckon ml_X10_67 kq_189 (by decide) rfl rfl rfl (by decide) (by decide) (Nat.le_of_ble_eq_true rfl) dX10_goOverPlain_2 rfl rfl ?_
  refine v_aload_n (pc := 5) O dX10_goOverPlain_5 0 rfl ?_
  refine v_getK (pc := 6) (a := 189) O hm gf_X10_0 fl_X10_9 kq_189 lk_189_0 dX10_goOverPlain_6 ?_
  obtain ⟨p5, e6, h⟩ := bind_some h
  refine v_callV (pc := 9) (a := 181) (As := []) (rest := []) (r := (some (.int p5.1))) (D' := p5.2) O (bb0 hz) (c_X3_goesOn hm e6) mw_X3_goesOn im_X3_goesOn se_X3_goesOn ml_X10_34 kq_181 (by decide) rfl rfl rfl (by decide) (by decide) (Nat.le_of_ble_eq_true rfl) dX10_goOverPlain_9 rfl rfl ?_
  refine v_ifne (pc := 12) 16 O dX10_goOverPlain_12 (by decide) (fun c7 => ?_) (fun c7 => ?_)
  · have h := (if_neg c7).symm.trans h
    refine v_aload_nr (pc := 16) O dX10_goOverPlain_16 1 rfl ?_
    obtain ⟨a8, e9, h⟩ := bind_some h
    subst e9
    obtain ⟨c10, h⟩ := if_none h
    refine v_getI (pc := 17) (a := a8) O gf_X7_0 fl_X10_41 c10 dX10_goOverPlain_17 ?_
    refine v_bipush (pc := 20) O dX10_goOverPlain_20 bp_13 ?_
    refine v_icmpne (pc := 22) 53 O dX10_goOverPlain_22 (by decide) (fun c11 => ?_) (fun c11 => ?_)
    · have h := (if_neg c11).symm.trans h
      refine v_aload_n (pc := 53) O dX10_goOverPlain_53 0 rfl ?_
      refine v_getK (pc := 54) (a := 189) O hm gf_X10_0 fl_X10_9 kq_189 lk_189_0 dX10_goOverPlain_54 ?_
      refine v_aload_n (pc := 57) O dX10_goOverPlain_57 1 rfl ?_
      refine v_getI (pc := 58) (a := a8) O gf_X7_0 fl_X10_41 c10 dX10_goOverPlain_58 ?_
      refine v_aload_n (pc := 61) O dX10_goOverPlain_61 1 rfl ?_
      refine v_getI (pc := 62) (a := a8) O gf_X7_0 fl_X10_41 c10 dX10_goOverPlain_62 ?_
      refine v_bipush (pc := 65) O dX10_goOverPlain_65 bp_14 ?_
      refine v_icmpne (pc := 67) 77 O dX10_goOverPlain_67 (by decide) (fun c12 => ?_) (fun c12 => ?_)
      · have h := (if_neg c12).symm.trans h
        refine v_aload_n (pc := 77) O dX10_goOverPlain_77 1 rfl ?_
        refine v_getI (pc := 78) (a := a8) O gf_X7_2 fl_X10_53 c10 dX10_goOverPlain_78 ?_
        refine v_sub [] rfl ?_
        exact w_X10_goOverPlain_b81 O hm hn hz (dI p5.2 a8 2) (dI p5.2 a8 0) p5.2 h
      · have h := (if_pos c12).symm.trans h
        refine v_aload_n (pc := 70) O dX10_goOverPlain_70 1 rfl ?_
        refine v_getI (pc := 71) (a := a8) O gf_X7_3 fl_X10_70 c10 dX10_goOverPlain_71 ?_
        refine v_goto (pc := 74) 81 O dX10_goOverPlain_74 (by decide) ?_
        refine v_sub [] rfl ?_
        exact w_X10_goOverPlain_b81 O hm hn hz (dI p5.2 a8 3) (dI p5.2 a8 0) p5.2 h
    · have h := (if_pos c11).symm.trans h
      refine v_aload_n (pc := 25) O dX10_goOverPlain_25 0 rfl ?_
      refine v_getK (pc := 26) (a := 189) O hm gf_X10_0 fl_X10_9 kq_189 lk_189_0 dX10_goOverPlain_26 ?_
      refine v_bipush (pc := 29) O dX10_goOverPlain_29 bp_13 ?_
      refine v_aload_n (pc := 31) O dX10_goOverPlain_31 1 rfl ?_
      refine v_getI (pc := 32) (a := a8) O gf_X7_3 fl_X10_70 c10 dX10_goOverPlain_32 ?_
      obtain ⟨p13, e14, h⟩ := bind_some h
      refine v_callV (pc := 35) (a := 181) (As := [.int 13, .int (dI p5.2 a8 3)]) (rest := []) (r := none) (D' := p13) O (bb0 hz) (c_X3_perform hm e14) mw_X3_perform im_X3_perform se_X3_perform ml_X10_73 kq_181 (by decide) rfl rfl rfl (by decide) (by decide) (Nat.le_of_ble_eq_true rfl) dX10_goOverPlain_35 rfl rfl ?_
      refine v_aload_n (pc := 38) O dX10_goOverPlain_38 0 rfl ?_
      refine v_getK (pc := 39) (a := 189) O hm gf_X10_0 fl_X10_9 kq_189 lk_189_0 dX10_goOverPlain_39 ?_
      refine v_iconst (pc := 42) O dX10_goOverPlain_42 ic_2 ?_
      refine v_aload_n (pc := 43) O dX10_goOverPlain_43 1 rfl ?_
      refine v_getI (pc := 44) (a := a8) O gf_X7_2 fl_X10_53 c10 dX10_goOverPlain_44 ?_
      obtain ⟨p15, e16, h⟩ := bind_some h
      refine v_callV (pc := 47) (a := 181) (As := [.int 2, .int (dI p13 a8 2)]) (rest := []) (r := none) (D' := p15) O (bb0 hz) (c_X3_perform hm e16) mw_X3_perform im_X3_perform se_X3_perform ml_X10_73 kq_181 (by decide) rfl rfl rfl (by decide) (by decide) (Nat.le_of_ble_eq_true rfl) dX10_goOverPlain_47 rfl rfl ?_
      refine v_goto (pc := 50) 84 O dX10_goOverPlain_50 (by decide) ?_
      refine v_sub [] rfl ?_
      exact w_X10_goOverPlain_b84 O hm hn hz p15 h
  · have h := (if_pos c7).symm.trans h
    obtain rfl := Option.some.inj h
    exact v_ret (pc := 15) O hz dX10_goOverPlain_15
theorem c_X10_goOverPlain {l : Launch} {w : Wx} {n nu c u : Nat} {K : Nat → Nat} {N : Nat} (hm : wlm w = true) {x1 : Option Nat} {D : Dat} {z : Dat} (h : f_X10_goOverPlain N nu K x1 D = some z) : C0 l w yX10_goOverPlain cX10_goOverPlain 2 none 4 89 [.ref (wb w + pp 189), rv (wb w) x1] n (Ax nu K c u) D none z :=
  C0.of (by decide) (by simp [lg_sl, rv_cat, cat_i, cat_l, cat_r, cat_n, fmt_cat]) (fun X e1 e2 e3 hz O => by
  subst e1
  subst e2
  have q : lv_args 0 [.ref (bo X + pp 189), rv (bo X) x1] = [(0, .ref (bo X + pp 189)), (1, rv (bo X) x1)] := by simp [lv_args, rv_cat, cat_i, cat_l, cat_r, cat_n, fmt_cat]
  show V X _ n _ D 0 (lv_args 0 [.ref (bo X + pp 189), rv (bo X) x1]) []
  rw [q]
  exact w_X10_goOverPlain O hm e3 hz x1 D h)
def f_X10_isTrue_b30 (N : Nat) (nu : Nat) (K : Nat → Nat) (s0 : Int32) (D : Dat) : Option (Int32 × Dat) :=
  if s0 &&& 1 = s0 then some (s0, D) else none
set_option maxHeartbeats 4000000 in
theorem w_X10_isTrue_b30 {X : Cx} {n nu c u : Nat} {K : Nat → Nat} {N : Nat} {z : Int32 × Dat} (O : Ok X cX10_isTrue RX10 (some .boolean) 4 89) (hm : wlm (xw X) = true) (hn : xn X = 2) (hz : Z0 X (Ax nu K c u)) (s0 : Int32) (D : Dat) (h : f_X10_isTrue_b30 N nu K s0 D = some z) : V X (Q0 X n (Ax nu K c u) (some (.int z.1)) z.2) n (Ax nu K c u) D 30 [] [.int s0] := by
  unfold f_X10_isTrue_b30 at h
  obtain ⟨c1, h⟩ := if_none h
  obtain rfl := Option.some.inj h
  exact v_zret (pc := 30) O hz (congrArg Value.int c1) dX10_isTrue_30
def f_X10_isTrue_b29 (N : Nat) (nu : Nat) (K : Nat → Nat) (D : Dat) : Option (Int32 × Dat) :=
  f_X10_isTrue_b30 N nu K 0 D
set_option maxHeartbeats 4000000 in
theorem w_X10_isTrue_b29 {X : Cx} {n nu c u : Nat} {K : Nat → Nat} {N : Nat} {z : Int32 × Dat} (O : Ok X cX10_isTrue RX10 (some .boolean) 4 89) (hm : wlm (xw X) = true) (hn : xn X = 2) (hz : Z0 X (Ax nu K c u)) (D : Dat) (h : f_X10_isTrue_b29 N nu K D = some z) : V X (Q0 X n (Ax nu K c u) (some (.int z.1)) z.2) n (Ax nu K c u) D 29 [] [] := by
  unfold f_X10_isTrue_b29 at h
  refine v_iconst (pc := 29) O dX10_isTrue_29 ic_0 ?_
  refine v_sub [] rfl ?_
  exact w_X10_isTrue_b30 O hm hn hz 0 D h
def f_X10_isTrue (N : Nat) (nu : Nat) (K : Nat → Nat) (x1 : Option Nat) (D : Dat) : Option (Int32 × Dat) :=
  (f_X10_reckon N nu K x1 D).bind (fun p2 => (f_X3_goesOn p2).bind (fun p4 => if p4.1 = 0 then (f_X10_isTrue_b29 N nu K p4.2) else ((f_X3_pop p4.2).bind (fun p7 => if p7.1 = 0 then (f_X10_isTrue_b29 N nu K p7.2) else (f_X10_isTrue_b30 N nu K 1 p7.2)))))
set_option maxHeartbeats 4000000 in
theorem w_X10_isTrue {X : Cx} {n nu c u : Nat} {K : Nat → Nat} {N : Nat} {z : Int32 × Dat} (O : Ok X cX10_isTrue RX10 (some .boolean) 4 89) (hm : wlm (xw X) = true) (hn : xn X = 2) (hz : Z0 X (Ax nu K c u)) (x1 : Option Nat) (D : Dat) (h : f_X10_isTrue N nu K x1 D = some z) : V X (Q0 X n (Ax nu K c u) (some (.int z.1)) z.2) n (Ax nu K c u) D 0 [(0, .ref (bo X + pp 189)), (1, rv (bo X) x1)] [] := by
  unfold f_X10_isTrue at h
  refine v_aload_n (pc := 0) O dX10_isTrue_0 0 rfl ?_
  refine v_aload_nr (pc := 1) O dX10_isTrue_1 1 rfl ?_
  obtain ⟨p2, e3, h⟩ := bind_some h
  refine v_callV (pc := 2) (a := 189) (As := [rv (bo X) x1]) (rest := []) (r := none) (D' := p2) O (bb0 hz) (c_X10_reckon hm e3) mw_X10_reckon im_X10_reckon se_X10_reckon ml_X10_67 kq_189 (by decide) rfl rfl rfl (by decide) (by decide) (Nat.le_of_ble_eq_true rfl) dX10_isTrue_2 rfl rfl ?_
  refine v_aload_n (pc := 5) O dX10_isTrue_5 0 rfl ?_
  refine v_getK (pc := 6) (a := 189) O hm gf_X10_0 fl_X10_9 kq_189 lk_189_0 dX10_isTrue_6 ?_
  obtain ⟨p4, e5, h⟩ := bind_some h
  refine v_callV (pc := 9) (a := 181) (As := []) (rest := []) (r := (some (.int p4.1))) (D' := p4.2) O (bb0 hz) (c_X3_goesOn hm e5) mw_X3_goesOn im_X3_goesOn se_X3_goesOn ml_X10_34 kq_181 (by decide) rfl rfl rfl (by decide) (by decide) (Nat.le_of_ble_eq_true rfl) dX10_isTrue_9 rfl rfl ?_
  refine v_ifeq (pc := 12) 29 O dX10_isTrue_12 (by decide) (fun c6 => ?_) (fun c6 => ?_)
  · have h := (if_pos c6).symm.trans h
    refine v_sub [] rfl ?_
    exact w_X10_isTrue_b29 O hm hn hz p4.2 h
  · have h := (if_neg c6).symm.trans h
    refine v_aload_n (pc := 15) O dX10_isTrue_15 0 rfl ?_
    refine v_getK (pc := 16) (a := 189) O hm gf_X10_0 fl_X10_9 kq_189 lk_189_0 dX10_isTrue_16 ?_
    obtain ⟨p7, e8, h⟩ := bind_some h
    refine v_callV (pc := 19) (a := 181) (As := []) (rest := []) (r := (some (.int p7.1))) (D' := p7.2) O (bb0 hz) (c_X3_pop hm e8) mw_X3_pop im_X3_pop se_X3_pop ml_X10_77 kq_181 (by decide) rfl rfl rfl (by decide) (by decide) (Nat.le_of_ble_eq_true rfl) dX10_isTrue_19 rfl rfl ?_
    refine v_ifeq (pc := 22) 29 O dX10_isTrue_22 (by decide) (fun c9 => ?_) (fun c9 => ?_)
    · have h := (if_pos c9).symm.trans h
      refine v_sub [] rfl ?_
      exact w_X10_isTrue_b29 O hm hn hz p7.2 h
    · have h := (if_neg c9).symm.trans h
      refine v_iconst (pc := 25) O dX10_isTrue_25 ic_1 ?_
      refine v_goto (pc := 26) 30 O dX10_isTrue_26 (by decide) ?_
      refine v_sub [] rfl ?_
      exact w_X10_isTrue_b30 O hm hn hz 1 p7.2 h
theorem c_X10_isTrue {l : Launch} {w : Wx} {n nu c u : Nat} {K : Nat → Nat} {N : Nat} (hm : wlm w = true) {x1 : Option Nat} {D : Dat} {z : Int32 × Dat} (h : f_X10_isTrue N nu K x1 D = some z) : C0 l w yX10_isTrue cX10_isTrue 2 (some .boolean) 4 89 [.ref (wb w + pp 189), rv (wb w) x1] n (Ax nu K c u) D (some (.int z.1)) z.2 :=
  C0.of (by decide) (by simp [lg_sl, rv_cat, cat_i, cat_l, cat_r, cat_n, fmt_cat]) (fun X e1 e2 e3 hz O => by
  subst e1
  subst e2
  have q : lv_args 0 [.ref (bo X + pp 189), rv (bo X) x1] = [(0, .ref (bo X + pp 189)), (1, rv (bo X) x1)] := by simp [lv_args, rv_cat, cat_i, cat_l, cat_r, cat_n, fmt_cat]
  show V X _ n _ D 0 (lv_args 0 [.ref (bo X + pp 189), rv (bo X) x1]) []
  rw [q]
  exact w_X10_isTrue O hm e3 hz x1 D h)
def f_X10_goOverIf_b43 (rec : Option Nat → Int32 → Dat → Option (Dat)) (N : Nat) (nu : Nat) (K : Nat → Nat) (D : Dat) : Option (Dat) :=
  some D
set_option maxHeartbeats 4000000 in
theorem w_X10_goOverIf_b43 {X : Cx} {n nu c u : Nat} {K : Nat → Nat} {rec : Option Nat → Int32 → Dat → Option (Dat)} {N : Nat} {fr lc : Nat} {z : Dat} (O : Ok X cX10_goOverIf RX10 none (fr + 4) (lc + 89)) (hm : wlm (xw X) = true) (hn : xn X = 3) (hz : Z0 X (Ax nu K c u)) (hR : ∀ {n : Nat} {x1 : Option Nat} {x2 : Int32} {D : Dat} {z : Dat}, rec x1 x2 D = some z → C0 (xl X) (xw X) yX10_goThrough cX10_goThrough 4 none fr lc [.ref (wb (xw X) + pp 189), rv (wb (xw X)) x1, .int x2] n (Ax nu K c u) D none z) (D : Dat) (h : f_X10_goOverIf_b43 rec N nu K D = some z) : V X (Q0 X n (Ax nu K c u) none z) n (Ax nu K c u) D 43 [] [] := by
  unfold f_X10_goOverIf_b43 at h
  obtain rfl := Option.some.inj h
  exact v_ret (pc := 43) O hz dX10_goOverIf_43
def f_X10_goOverIf_b37 (rec : Option Nat → Int32 → Dat → Option (Dat)) (N : Nat) (nu : Nat) (K : Nat → Nat) (x2 : Int32) (s0 : Option Nat) (D : Dat) : Option (Dat) :=
  (rec s0 (x2 + (1 : Int32)) D).bind (fun p1 => f_X10_goOverIf_b43 rec N nu K p1)
set_option maxHeartbeats 4000000 in
theorem w_X10_goOverIf_b37 {X : Cx} {n nu c u : Nat} {K : Nat → Nat} {rec : Option Nat → Int32 → Dat → Option (Dat)} {N : Nat} {fr lc : Nat} {z : Dat} (O : Ok X cX10_goOverIf RX10 none (fr + 4) (lc + 89)) (hm : wlm (xw X) = true) (hn : xn X = 3) (hz : Z0 X (Ax nu K c u)) (hR : ∀ {n : Nat} {x1 : Option Nat} {x2 : Int32} {D : Dat} {z : Dat}, rec x1 x2 D = some z → C0 (xl X) (xw X) yX10_goThrough cX10_goThrough 4 none fr lc [.ref (wb (xw X) + pp 189), rv (wb (xw X)) x1, .int x2] n (Ax nu K c u) D none z) (x2 : Int32) (s0 : Option Nat) (D : Dat) (h : f_X10_goOverIf_b37 rec N nu K x2 s0 D = some z) : V X (Q0 X n (Ax nu K c u) none z) n (Ax nu K c u) D 37 [(2, .int x2)] [rv (bo X) s0, .ref (bo X + pp 189)] := by
  unfold f_X10_goOverIf_b37 at h
  refine v_iload_n (pc := 37) O dX10_goOverIf_37 0 rfl ?_
  refine v_iconst (pc := 38) O dX10_goOverIf_38 ic_1 ?_
  refine v_iadd (pc := 39) O dX10_goOverIf_39 ?_
  obtain ⟨p1, e2, h⟩ := bind_some h
  refine v_callV (pc := 40) (a := 189) (As := [rv (bo X) s0, .int (x2 + (1 : Int32))]) (rest := []) (r := none) (D' := p1) O (bb0 hz) (hR e2) mw_X10_goThrough im_X10_goThrough se_X10_goThrough ml_X10_25 kq_189 (by decide) rfl rfl rfl (by omega) (by omega) (Nat.le_of_ble_eq_true rfl) dX10_goOverIf_40 rfl rfl ?_
  refine v_sub [] rfl ?_
  exact w_X10_goOverIf_b43 O hm hn hz hR p1 h
def f_X10_goOverIf (rec : Option Nat → Int32 → Dat → Option (Dat)) (N : Nat) (nu : Nat) (K : Nat → Nat) (x1 : Option Nat) (x2 : Int32) (D : Dat) : Option (Dat) :=
  (f_X10_reckon N nu K x1 D).bind (fun p3 => (f_X3_goesOn p3).bind (fun p5 => if p5.1 = 0 then (f_X10_goOverIf_b43 rec N nu K p5.2) else ((f_X3_pop p5.2).bind (fun p8 => if p8.1 = 0 then ((x1).bind (fun a11 => if kd K a11 = 7 then (f_X10_goOverIf_b37 rec N nu K x2 (dR p8.2 a11 7) p8.2) else none)) else ((x1).bind (fun a14 => if kd K a14 = 7 then (f_X10_goOverIf_b37 rec N nu K x2 (dR p8.2 a14 6) p8.2) else none))))))
set_option maxHeartbeats 4000000 in
theorem w_X10_goOverIf {X : Cx} {n nu c u : Nat} {K : Nat → Nat} {rec : Option Nat → Int32 → Dat → Option (Dat)} {N : Nat} {fr lc : Nat} {z : Dat} (O : Ok X cX10_goOverIf RX10 none (fr + 4) (lc + 89)) (hm : wlm (xw X) = true) (hn : xn X = 3) (hz : Z0 X (Ax nu K c u)) (hR : ∀ {n : Nat} {x1 : Option Nat} {x2 : Int32} {D : Dat} {z : Dat}, rec x1 x2 D = some z → C0 (xl X) (xw X) yX10_goThrough cX10_goThrough 4 none fr lc [.ref (wb (xw X) + pp 189), rv (wb (xw X)) x1, .int x2] n (Ax nu K c u) D none z) (x1 : Option Nat) (x2 : Int32) (D : Dat) (h : f_X10_goOverIf rec N nu K x1 x2 D = some z) : V X (Q0 X n (Ax nu K c u) none z) n (Ax nu K c u) D 0 [(0, .ref (bo X + pp 189)), (1, rv (bo X) x1), (2, .int x2)] [] := by
  unfold f_X10_goOverIf at h
  refine v_aload_n (pc := 0) O dX10_goOverIf_0 0 rfl ?_
  refine v_aload_nr (pc := 1) O dX10_goOverIf_1 1 rfl ?_
  obtain ⟨p3, e4, h⟩ := bind_some h
  refine v_callV (pc := 2) (a := 189) (As := [rv (bo X) x1]) (rest := []) (r := none) (D' := p3) O (bb0 hz) (c_X10_reckon hm e4) mw_X10_reckon im_X10_reckon se_X10_reckon ml_X10_67 kq_189 (by decide) rfl rfl rfl (by omega) (by omega) (Nat.le_of_ble_eq_true rfl) dX10_goOverIf_2 rfl rfl ?_
  refine v_aload_n (pc := 5) O dX10_goOverIf_5 0 rfl ?_
  refine v_getK (pc := 6) (a := 189) O hm gf_X10_0 fl_X10_9 kq_189 lk_189_0 dX10_goOverIf_6 ?_
  obtain ⟨p5, e6, h⟩ := bind_some h
  refine v_callV (pc := 9) (a := 181) (As := []) (rest := []) (r := (some (.int p5.1))) (D' := p5.2) O (bb0 hz) (c_X3_goesOn hm e6) mw_X3_goesOn im_X3_goesOn se_X3_goesOn ml_X10_34 kq_181 (by decide) rfl rfl rfl (by omega) (by omega) (Nat.le_of_ble_eq_true rfl) dX10_goOverIf_9 rfl rfl ?_
  refine v_ifeq (pc := 12) 43 O dX10_goOverIf_12 (by decide) (fun c7 => ?_) (fun c7 => ?_)
  · have h := (if_pos c7).symm.trans h
    refine v_sub [] rfl ?_
    exact w_X10_goOverIf_b43 O hm hn hz hR p5.2 h
  · have h := (if_neg c7).symm.trans h
    refine v_aload_n (pc := 15) O dX10_goOverIf_15 0 rfl ?_
    refine v_aload_n (pc := 16) O dX10_goOverIf_16 0 rfl ?_
    refine v_getK (pc := 17) (a := 189) O hm gf_X10_0 fl_X10_9 kq_189 lk_189_0 dX10_goOverIf_17 ?_
    obtain ⟨p8, e9, h⟩ := bind_some h
    refine v_callV (pc := 20) (a := 181) (As := []) (rest := [.ref (bo X + pp 189)]) (r := (some (.int p8.1))) (D' := p8.2) O (bb0 hz) (c_X3_pop hm e9) mw_X3_pop im_X3_pop se_X3_pop ml_X10_77 kq_181 (by decide) rfl rfl rfl (by omega) (by omega) (Nat.le_of_ble_eq_true rfl) dX10_goOverIf_20 rfl rfl ?_
    refine v_ifeq (pc := 23) 33 O dX10_goOverIf_23 (by decide) (fun c10 => ?_) (fun c10 => ?_)
    · have h := (if_pos c10).symm.trans h
      refine v_aload_nr (pc := 33) O dX10_goOverIf_33 1 rfl ?_
      obtain ⟨a11, e12, h⟩ := bind_some h
      subst e12
      obtain ⟨c13, h⟩ := if_none h
      refine v_getR (pc := 34) (a := a11) O gf_X7_7 fl_X10_84 c13 dX10_goOverIf_34 ?_
      refine v_sub [2] rfl ?_
      exact w_X10_goOverIf_b37 O hm hn hz hR x2 (dR p8.2 a11 7) p8.2 h
    · have h := (if_neg c10).symm.trans h
      refine v_aload_nr (pc := 26) O dX10_goOverIf_26 1 rfl ?_
      obtain ⟨a14, e15, h⟩ := bind_some h
      subst e15
      obtain ⟨c16, h⟩ := if_none h
      refine v_getR (pc := 27) (a := a14) O gf_X7_6 fl_X10_81 c16 dX10_goOverIf_27 ?_
      refine v_goto (pc := 30) 37 O dX10_goOverIf_30 (by decide) ?_
      refine v_sub [2] rfl ?_
      exact w_X10_goOverIf_b37 O hm hn hz hR x2 (dR p8.2 a14 6) p8.2 h
theorem c_X10_goOverIf {l : Launch} {w : Wx} {n nu c u : Nat} {K : Nat → Nat} {rec : Option Nat → Int32 → Dat → Option (Dat)} {N : Nat} {fr lc : Nat} (hm : wlm w = true) (hR : ∀ {n : Nat} {x1 : Option Nat} {x2 : Int32} {D : Dat} {z : Dat}, rec x1 x2 D = some z → C0 l w yX10_goThrough cX10_goThrough 4 none fr lc [.ref (wb w + pp 189), rv (wb w) x1, .int x2] n (Ax nu K c u) D none z) {x1 : Option Nat} {x2 : Int32} {D : Dat} {z : Dat} (h : f_X10_goOverIf rec N nu K x1 x2 D = some z) : C0 l w yX10_goOverIf cX10_goOverIf 3 none (fr + 4) (lc + 89) [.ref (wb w + pp 189), rv (wb w) x1, .int x2] n (Ax nu K c u) D none z :=
  C0.of (by decide) (by simp [lg_sl, rv_cat, cat_i, cat_l, cat_r, cat_n, fmt_cat]) (fun X e1 e2 e3 hz O => by
  subst e1
  subst e2
  have q : lv_args 0 [.ref (bo X + pp 189), rv (bo X) x1, .int x2] = [(0, .ref (bo X + pp 189)), (1, rv (bo X) x1), (2, .int x2)] := by simp [lv_args, rv_cat, cat_i, cat_l, cat_r, cat_n, fmt_cat]
  show V X _ n _ D 0 (lv_args 0 [.ref (bo X + pp 189), rv (bo X) x1, .int x2]) []
  rw [q]
  exact w_X10_goOverIf O hm e3 hz hR x1 x2 D h)
def f_X10_goOverWhile_b48 (rec : Option Nat → Int32 → Dat → Option (Dat)) (N : Nat) (nu : Nat) (K : Nat → Nat) (D : Dat) : Option (Dat) :=
  some D
set_option maxHeartbeats 4000000 in
theorem w_X10_goOverWhile_b48 {X : Cx} {n nu c u : Nat} {K : Nat → Nat} {rec : Option Nat → Int32 → Dat → Option (Dat)} {N : Nat} {fr lc : Nat} {z : Dat} (O : Ok X cX10_goOverWhile RX10 none (fr + 5) (lc + 110)) (hm : wlm (xw X) = true) (hn : xn X = 4) (hz : Z0 X (Ax nu K c u)) (hR : ∀ {n : Nat} {x1 : Option Nat} {x2 : Int32} {D : Dat} {z : Dat}, rec x1 x2 D = some z → C0 (xl X) (xw X) yX10_goThrough cX10_goThrough 4 none fr lc [.ref (wb (xw X) + pp 189), rv (wb (xw X)) x1, .int x2] n (Ax nu K c u) D none z) (D : Dat) (h : f_X10_goOverWhile_b48 rec N nu K D = some z) : V X (Q0 X n (Ax nu K c u) none z) n (Ax nu K c u) D 48 [] [] := by
  unfold f_X10_goOverWhile_b48 at h
  obtain rfl := Option.some.inj h
  exact v_ret (pc := 48) O hz dX10_goOverWhile_48
def f_X10_goOverWhile_b55 (rec : Option Nat → Int32 → Dat → Option (Dat)) (N : Nat) (nu : Nat) (K : Nat → Nat) (D : Dat) : Option (Dat) :=
  some D
set_option maxHeartbeats 4000000 in
theorem w_X10_goOverWhile_b55 {X : Cx} {n nu c u : Nat} {K : Nat → Nat} {rec : Option Nat → Int32 → Dat → Option (Dat)} {N : Nat} {fr lc : Nat} {z : Dat} (O : Ok X cX10_goOverWhile RX10 none (fr + 5) (lc + 110)) (hm : wlm (xw X) = true) (hn : xn X = 4) (hz : Z0 X (Ax nu K c u)) (hR : ∀ {n : Nat} {x1 : Option Nat} {x2 : Int32} {D : Dat} {z : Dat}, rec x1 x2 D = some z → C0 (xl X) (xw X) yX10_goThrough cX10_goThrough 4 none fr lc [.ref (wb (xw X) + pp 189), rv (wb (xw X)) x1, .int x2] n (Ax nu K c u) D none z) (D : Dat) (h : f_X10_goOverWhile_b55 rec N nu K D = some z) : V X (Q0 X n (Ax nu K c u) none z) n (Ax nu K c u) D 55 [] [] := by
  unfold f_X10_goOverWhile_b55 at h
  obtain rfl := Option.some.inj h
  exact v_ret (pc := 55) O hz dX10_goOverWhile_55
def f_X10_goOverWhile_b2 (rec : Option Nat → Int32 → Dat → Option (Dat)) (N : Nat) (nu : Nat) (K : Nat → Nat) : Nat → Option Nat → Int32 → Int32 → Dat → Option (Dat)
  | 0, _, _, _, _ => none
  | g + 1, x1, x2, x3, D => if 600 < x3 then (f_X10_goOverWhile_b55 rec N nu K D) else ((f_X10_isTrue N nu K x1 D).bind (fun p2 => if p2.1 = 0 then (f_X10_goOverWhile_b55 rec N nu K p2.2) else ((x1).bind (fun a5 => if kd K a5 = 7 then ((rec (dR p2.2 a5 6) (x2 + (1 : Int32)) p2.2).bind (fun p8 => (f_X3_goesOn p8).bind (fun p10 => if p10.1 = 0 then (f_X10_goOverWhile_b48 rec N nu K p10.2) else ((f_X3_burns p10.2).bind (fun p13 => if p13.1 = 0 then (f_X10_goOverWhile_b48 rec N nu K p13.2) else ((f_X10_goOverWhile_b2 rec N nu K g) (some a5) x2 (x3 + 1) p13.2)))))) else none))))
set_option maxHeartbeats 4000000 in
theorem w_X10_goOverWhile_b2 {X : Cx} {n nu c u : Nat} {K : Nat → Nat} {rec : Option Nat → Int32 → Dat → Option (Dat)} {N : Nat} {fr lc : Nat} {z : Dat} (O : Ok X cX10_goOverWhile RX10 none (fr + 5) (lc + 110)) (hm : wlm (xw X) = true) (hn : xn X = 4) (hz : Z0 X (Ax nu K c u)) (hR : ∀ {n : Nat} {x1 : Option Nat} {x2 : Int32} {D : Dat} {z : Dat}, rec x1 x2 D = some z → C0 (xl X) (xw X) yX10_goThrough cX10_goThrough 4 none fr lc [.ref (wb (xw X) + pp 189), rv (wb (xw X)) x1, .int x2] n (Ax nu K c u) D none z) : ∀ (g : Nat) (x1 : Option Nat) (x2 : Int32) (x3 : Int32) (D : Dat), f_X10_goOverWhile_b2 rec N nu K g x1 x2 x3 D = some z → V X (Q0 X n (Ax nu K c u) none z) n (Ax nu K c u) D 2 [(0, .ref (bo X + pp 189)), (1, rv (bo X) x1), (2, .int x2), (3, .int x3)] [] := by
  intro g
  induction g with
  | zero => intro x1 x2 x3 D h; exact absurd h (by simp [f_X10_goOverWhile_b2])
  | succ g ih =>
    intro x1 x2 x3 D h
    rw [f_X10_goOverWhile_b2] at h
    refine v_iload_n (pc := 2) O dX10_goOverWhile_2 3 rfl ?_
    refine v_sipush (pc := 3) O dX10_goOverWhile_3 sp_600 ?_
    refine v_icmpgt (pc := 6) 55 O dX10_goOverWhile_6 (by decide) (fun c1 => ?_) (fun c1 => ?_)
    · have h := (if_pos c1).symm.trans h
      refine v_sub [] rfl ?_
      exact w_X10_goOverWhile_b55 O hm hn hz hR D h
    · have h := (if_neg c1).symm.trans h
      refine v_aload_n (pc := 9) O dX10_goOverWhile_9 0 rfl ?_
      refine v_aload_nr (pc := 10) O dX10_goOverWhile_10 1 rfl ?_
      obtain ⟨p2, e3, h⟩ := bind_some h
      refine v_callV (pc := 11) (a := 189) (As := [rv (bo X) x1]) (rest := []) (r := (some (.int p2.1))) (D' := p2.2) O (bb0 hz) (c_X10_isTrue hm e3) mw_X10_isTrue im_X10_isTrue se_X10_isTrue ml_X10_87 kq_189 (by decide) rfl rfl rfl (by omega) (by omega) (Nat.le_of_ble_eq_true rfl) dX10_goOverWhile_11 rfl rfl ?_
      refine v_ifeq (pc := 14) 55 O dX10_goOverWhile_14 (by decide) (fun c4 => ?_) (fun c4 => ?_)
      · have h := (if_pos c4).symm.trans h
        refine v_sub [] rfl ?_
        exact w_X10_goOverWhile_b55 O hm hn hz hR p2.2 h
      · have h := (if_neg c4).symm.trans h
        refine v_aload_n (pc := 17) O dX10_goOverWhile_17 0 rfl ?_
        refine v_aload_nr (pc := 18) O dX10_goOverWhile_18 1 rfl ?_
        obtain ⟨a5, e6, h⟩ := bind_some h
        subst e6
        obtain ⟨c7, h⟩ := if_none h
        refine v_getR (pc := 19) (a := a5) O gf_X7_6 fl_X10_81 c7 dX10_goOverWhile_19 ?_
        refine v_iload_n (pc := 22) O dX10_goOverWhile_22 2 rfl ?_
        refine v_iconst (pc := 23) O dX10_goOverWhile_23 ic_1 ?_
        refine v_iadd (pc := 24) O dX10_goOverWhile_24 ?_
        obtain ⟨p8, e9, h⟩ := bind_some h
        refine v_callV (pc := 25) (a := 189) (As := [rv (bo X) (dR p2.2 a5 6), .int (x2 + (1 : Int32))]) (rest := []) (r := none) (D' := p8) O (bb0 hz) (hR e9) mw_X10_goThrough im_X10_goThrough se_X10_goThrough ml_X10_25 kq_189 (by decide) rfl rfl rfl (by omega) (by omega) (Nat.le_of_ble_eq_true rfl) dX10_goOverWhile_25 rfl rfl ?_
        refine v_aload_n (pc := 28) O dX10_goOverWhile_28 0 rfl ?_
        refine v_getK (pc := 29) (a := 189) O hm gf_X10_0 fl_X10_9 kq_189 lk_189_0 dX10_goOverWhile_29 ?_
        obtain ⟨p10, e11, h⟩ := bind_some h
        refine v_callV (pc := 32) (a := 181) (As := []) (rest := []) (r := (some (.int p10.1))) (D' := p10.2) O (bb0 hz) (c_X3_goesOn hm e11) mw_X3_goesOn im_X3_goesOn se_X3_goesOn ml_X10_34 kq_181 (by decide) rfl rfl rfl (by omega) (by omega) (Nat.le_of_ble_eq_true rfl) dX10_goOverWhile_32 rfl rfl ?_
        refine v_ifeq (pc := 35) 48 O dX10_goOverWhile_35 (by decide) (fun c12 => ?_) (fun c12 => ?_)
        · have h := (if_pos c12).symm.trans h
          refine v_sub [] rfl ?_
          exact w_X10_goOverWhile_b48 O hm hn hz hR p10.2 h
        · have h := (if_neg c12).symm.trans h
          refine v_aload_n (pc := 38) O dX10_goOverWhile_38 0 rfl ?_
          refine v_getK (pc := 39) (a := 189) O hm gf_X10_0 fl_X10_9 kq_189 lk_189_0 dX10_goOverWhile_39 ?_
          obtain ⟨p13, e14, h⟩ := bind_some h
          refine v_callV (pc := 42) (a := 181) (As := []) (rest := []) (r := (some (.int p13.1))) (D' := p13.2) O (bb0 hz) (c_X3_burns hm e14) mw_X3_burns im_X3_burns se_X3_burns ml_X10_38 kq_181 (by decide) rfl rfl rfl (by omega) (by omega) (Nat.le_of_ble_eq_true rfl) dX10_goOverWhile_42 rfl rfl ?_
          refine v_ifne (pc := 45) 49 O dX10_goOverWhile_45 (by decide) (fun c15 => ?_) (fun c15 => ?_)
          · have h := (if_neg c15).symm.trans h
            refine v_iinc (pc := 49) (lv' := [(3, .int (x3 + 1)), (0, .ref (bo X + pp 189)), (1, .ref (bo X + pp a5)), (2, .int x2)]) O dX10_goOverWhile_49 3 rfl (congrArg (fun q => x3 + q) ic_1) (by rw [hn]; decide) rfl ?_
            refine v_goto (pc := 52) 2 O dX10_goOverWhile_52 (by decide) ?_
            refine v_sub [1, 2, 3, 0] rfl ?_
            exact ih (some a5) x2 (x3 + 1) p13.2 h
          · have h := (if_pos c15).symm.trans h
            refine v_sub [] rfl ?_
            exact w_X10_goOverWhile_b48 O hm hn hz hR p13.2 h
def f_X10_goOverWhile (rec : Option Nat → Int32 → Dat → Option (Dat)) (N : Nat) (nu : Nat) (K : Nat → Nat) (x1 : Option Nat) (x2 : Int32) (D : Dat) : Option (Dat) :=
  f_X10_goOverWhile_b2 rec N nu K N x1 x2 0 D
set_option maxHeartbeats 4000000 in
theorem w_X10_goOverWhile {X : Cx} {n nu c u : Nat} {K : Nat → Nat} {rec : Option Nat → Int32 → Dat → Option (Dat)} {N : Nat} {fr lc : Nat} {z : Dat} (O : Ok X cX10_goOverWhile RX10 none (fr + 5) (lc + 110)) (hm : wlm (xw X) = true) (hn : xn X = 4) (hz : Z0 X (Ax nu K c u)) (hR : ∀ {n : Nat} {x1 : Option Nat} {x2 : Int32} {D : Dat} {z : Dat}, rec x1 x2 D = some z → C0 (xl X) (xw X) yX10_goThrough cX10_goThrough 4 none fr lc [.ref (wb (xw X) + pp 189), rv (wb (xw X)) x1, .int x2] n (Ax nu K c u) D none z) (x1 : Option Nat) (x2 : Int32) (D : Dat) (h : f_X10_goOverWhile rec N nu K x1 x2 D = some z) : V X (Q0 X n (Ax nu K c u) none z) n (Ax nu K c u) D 0 [(0, .ref (bo X + pp 189)), (1, rv (bo X) x1), (2, .int x2)] [] := by
  unfold f_X10_goOverWhile at h
  refine v_iconst (pc := 0) O dX10_goOverWhile_0 ic_0 ?_
  refine v_istore_n (pc := 1) (lv' := [(3, .int 0), (0, .ref (bo X + pp 189)), (1, rv (bo X) x1), (2, .int x2)]) O dX10_goOverWhile_1 rfl (by rw [hn]; decide) rfl ?_
  refine v_sub [1, 2, 3, 0] rfl ?_
  exact w_X10_goOverWhile_b2 O hm hn hz hR N x1 x2 0 D h
theorem c_X10_goOverWhile {l : Launch} {w : Wx} {n nu c u : Nat} {K : Nat → Nat} {rec : Option Nat → Int32 → Dat → Option (Dat)} {N : Nat} {fr lc : Nat} (hm : wlm w = true) (hR : ∀ {n : Nat} {x1 : Option Nat} {x2 : Int32} {D : Dat} {z : Dat}, rec x1 x2 D = some z → C0 l w yX10_goThrough cX10_goThrough 4 none fr lc [.ref (wb w + pp 189), rv (wb w) x1, .int x2] n (Ax nu K c u) D none z) {x1 : Option Nat} {x2 : Int32} {D : Dat} {z : Dat} (h : f_X10_goOverWhile rec N nu K x1 x2 D = some z) : C0 l w yX10_goOverWhile cX10_goOverWhile 4 none (fr + 5) (lc + 110) [.ref (wb w + pp 189), rv (wb w) x1, .int x2] n (Ax nu K c u) D none z :=
  C0.of (by decide) (by simp [lg_sl, rv_cat, cat_i, cat_l, cat_r, cat_n, fmt_cat]) (fun X e1 e2 e3 hz O => by
  subst e1
  subst e2
  have q : lv_args 0 [.ref (bo X + pp 189), rv (bo X) x1, .int x2] = [(0, .ref (bo X + pp 189)), (1, rv (bo X) x1), (2, .int x2)] := by simp [lv_args, rv_cat, cat_i, cat_l, cat_r, cat_n, fmt_cat]
  show V X _ n _ D 0 (lv_args 0 [.ref (bo X + pp 189), rv (bo X) x1, .int x2]) []
  rw [q]
  exact w_X10_goOverWhile O hm e3 hz hR x1 x2 D h)
def f_X10_goThrough_s_b108 (rec : Option Nat → Int32 → Dat → Option (Dat)) (N : Nat) (nu : Nat) (K : Nat → Nat) (rec_9 : Int32 → Option Nat → Dat → Option (Dat)) (x2 : Int32) (x3 : Option Nat) (D : Dat) : Option (Dat) :=
  (x3).bind (fun a1 => if kd K a1 = 7 then (rec_9 x2 (dR D a1 9) D) else none)
set_option maxHeartbeats 4000000 in
theorem w_X10_goThrough_s_b108 {X : Cx} {n nu c u : Nat} {K : Nat → Nat} {rec : Option Nat → Int32 → Dat → Option (Dat)} {N : Nat} {fr lc : Nat} {rec_9 : Int32 → Option Nat → Dat → Option (Dat)} {z : Dat} (O : Ok X cX10_goThrough RX10 none (fr + 6) (lc + 133)) (hm : wlm (xw X) = true) (hn : xn X = 4) (hz : Z0 X (Ax nu K c u)) (hR : ∀ {n : Nat} {x1 : Option Nat} {x2 : Int32} {D : Dat} {z : Dat}, rec x1 x2 D = some z → C0 (xl X) (xw X) yX10_goThrough cX10_goThrough 4 none fr lc [.ref (wb (xw X) + pp 189), rv (wb (xw X)) x1, .int x2] n (Ax nu K c u) D none z) (hrec_9 : ∀ (x2 : Int32) (x3 : Option Nat) (D : Dat), rec_9 x2 x3 D = some z → V X (Q0 X n (Ax nu K c u) none z) n (Ax nu K c u) D 9 [(0, .ref (bo X + pp 189)), (2, .int x2), (3, rv (bo X) x3)] []) (x2 : Int32) (x3 : Option Nat) (D : Dat) (h : f_X10_goThrough_s_b108 rec N nu K rec_9 x2 x3 D = some z) : V X (Q0 X n (Ax nu K c u) none z) n (Ax nu K c u) D 108 [(0, .ref (bo X + pp 189)), (2, .int x2), (3, rv (bo X) x3)] [] := by
  unfold f_X10_goThrough_s_b108 at h
  refine v_aload_nr (pc := 108) O dX10_goThrough_108 2 rfl ?_
  obtain ⟨a1, e2, h⟩ := bind_some h
  subst e2
  obtain ⟨c3, h⟩ := if_none h
  refine v_getR (pc := 109) (a := a1) O gf_X7_9 fl_X10_64 c3 dX10_goThrough_109 ?_
  refine v_astore_nr (pc := 112) (lv' := [(3, rv (bo X) (dR D a1 9)), (0, .ref (bo X + pp 189)), (2, .int x2)]) O dX10_goThrough_112 rfl (by rw [hn]; decide) rfl ?_
  refine v_goto (pc := 113) 9 O dX10_goThrough_113 (by decide) ?_
  refine v_sub [1, 2, 0] rfl ?_
  exact hrec_9 x2 (dR D a1 9) D h
def f_X10_goThrough_s_b116 (rec : Option Nat → Int32 → Dat → Option (Dat)) (N : Nat) (nu : Nat) (K : Nat → Nat) (D : Dat) : Option (Dat) :=
  some D
set_option maxHeartbeats 4000000 in
theorem w_X10_goThrough_s_b116 {X : Cx} {n nu c u : Nat} {K : Nat → Nat} {rec : Option Nat → Int32 → Dat → Option (Dat)} {N : Nat} {fr lc : Nat} {z : Dat} (O : Ok X cX10_goThrough RX10 none (fr + 6) (lc + 133)) (hm : wlm (xw X) = true) (hn : xn X = 4) (hz : Z0 X (Ax nu K c u)) (hR : ∀ {n : Nat} {x1 : Option Nat} {x2 : Int32} {D : Dat} {z : Dat}, rec x1 x2 D = some z → C0 (xl X) (xw X) yX10_goThrough cX10_goThrough 4 none fr lc [.ref (wb (xw X) + pp 189), rv (wb (xw X)) x1, .int x2] n (Ax nu K c u) D none z) (D : Dat) (h : f_X10_goThrough_s_b116 rec N nu K D = some z) : V X (Q0 X n (Ax nu K c u) none z) n (Ax nu K c u) D 116 [] [] := by
  unfold f_X10_goThrough_s_b116 at h
  obtain rfl := Option.some.inj h
  exact v_ret (pc := 116) O hz dX10_goThrough_116
def f_X10_goThrough_s_b9 (rec : Option Nat → Int32 → Dat → Option (Dat)) (N : Nat) (nu : Nat) (K : Nat → Nat) : Nat → Int32 → Option Nat → Dat → Option (Dat)
  | 0, _, _, _ => none
  | g + 1, x2, x3, D => oel x3 (f_X10_goThrough_s_b116 rec N nu K D) (fun a4 => (f_X3_goesOn D).bind (fun p6 => if p6.1 = 0 then (f_X10_goThrough_s_b116 rec N nu K p6.2) else ((f_X3_burns p6.2).bind (fun p9 => if p9.1 = 0 then (f_X10_goThrough_s_b116 rec N nu K p9.2) else (if kd K a4 = 7 then (if (dI p9.2 a4 0) = (16 : Int32) then ((f_X10_goOverIf rec N nu K (some a4) x2 p9.2).bind (fun p14 => f_X10_goThrough_s_b108 rec N nu K (f_X10_goThrough_s_b9 rec N nu K g) x2 (some a4) p14)) else (if (dI p9.2 a4 0) = (17 : Int32) then ((f_X10_goOverWhile rec N nu K (some a4) x2 p9.2).bind (fun p17 => f_X10_goThrough_s_b108 rec N nu K (f_X10_goThrough_s_b9 rec N nu K g) x2 (some a4) p17)) else (if (dI p9.2 a4 0) = (18 : Int32) then (((dR p9.2 189 1)).bind (fun a20 => if a20 = 191 ∨ a20 = 196 then ((f_X4_proc a20 (dI p9.2 a4 2) p9.2).bind (fun p23 => (rec p23.1 (x2 + (1 : Int32)) p23.2).bind (fun p25 => f_X10_goThrough_s_b108 rec N nu K (f_X10_goThrough_s_b9 rec N nu K g) x2 (some a4) p25))) else none)) else ((f_X10_goOverPlain N nu K (some a4) p9.2).bind (fun p27 => f_X10_goThrough_s_b108 rec N nu K (f_X10_goThrough_s_b9 rec N nu K g) x2 (some a4) p27))))) else none)))))
set_option maxHeartbeats 4000000 in
theorem w_X10_goThrough_s_b9 {X : Cx} {n nu c u : Nat} {K : Nat → Nat} {rec : Option Nat → Int32 → Dat → Option (Dat)} {N : Nat} {fr lc : Nat} {z : Dat} (O : Ok X cX10_goThrough RX10 none (fr + 6) (lc + 133)) (hm : wlm (xw X) = true) (hn : xn X = 4) (hz : Z0 X (Ax nu K c u)) (hR : ∀ {n : Nat} {x1 : Option Nat} {x2 : Int32} {D : Dat} {z : Dat}, rec x1 x2 D = some z → C0 (xl X) (xw X) yX10_goThrough cX10_goThrough 4 none fr lc [.ref (wb (xw X) + pp 189), rv (wb (xw X)) x1, .int x2] n (Ax nu K c u) D none z) : ∀ (g : Nat) (x2 : Int32) (x3 : Option Nat) (D : Dat), f_X10_goThrough_s_b9 rec N nu K g x2 x3 D = some z → V X (Q0 X n (Ax nu K c u) none z) n (Ax nu K c u) D 9 [(0, .ref (bo X + pp 189)), (2, .int x2), (3, rv (bo X) x3)] [] := by
  intro g
  induction g with
  | zero => intro x2 x3 D h; exact absurd h (by simp [f_X10_goThrough_s_b9])
  | succ g ih =>
    intro x2 x3 D h
    rw [f_X10_goThrough_s_b9] at h
    refine v_aload_nr (pc := 9) O dX10_goThrough_9 2 rfl ?_
    refine v_ifnull (pc := 10) 116 O dX10_goThrough_10 (by decide) (fun e5 => ?_) (fun a4 e5 => ?_)
    · subst e5
      have h := onone h
      refine v_sub [] rfl ?_
      exact w_X10_goThrough_s_b116 O hm hn hz hR D h
    · subst e5
      have h := osome h
      refine v_aload_n (pc := 13) O dX10_goThrough_13 0 rfl ?_
      refine v_getK (pc := 14) (a := 189) O hm gf_X10_0 fl_X10_9 kq_189 lk_189_0 dX10_goThrough_14 ?_
      obtain ⟨p6, e7, h⟩ := bind_some h
      refine v_callV (pc := 17) (a := 181) (As := []) (rest := []) (r := (some (.int p6.1))) (D' := p6.2) O (bb0 hz) (c_X3_goesOn hm e7) mw_X3_goesOn im_X3_goesOn se_X3_goesOn ml_X10_34 kq_181 (by decide) rfl rfl rfl (by omega) (by omega) (Nat.le_of_ble_eq_true rfl) dX10_goThrough_17 rfl rfl ?_
      refine v_ifeq (pc := 20) 116 O dX10_goThrough_20 (by decide) (fun c8 => ?_) (fun c8 => ?_)
      · have h := (if_pos c8).symm.trans h
        refine v_sub [] rfl ?_
        exact w_X10_goThrough_s_b116 O hm hn hz hR p6.2 h
      · have h := (if_neg c8).symm.trans h
        refine v_aload_n (pc := 23) O dX10_goThrough_23 0 rfl ?_
        refine v_getK (pc := 24) (a := 189) O hm gf_X10_0 fl_X10_9 kq_189 lk_189_0 dX10_goThrough_24 ?_
        obtain ⟨p9, e10, h⟩ := bind_some h
        refine v_callV (pc := 27) (a := 181) (As := []) (rest := []) (r := (some (.int p9.1))) (D' := p9.2) O (bb0 hz) (c_X3_burns hm e10) mw_X3_burns im_X3_burns se_X3_burns ml_X10_38 kq_181 (by decide) rfl rfl rfl (by omega) (by omega) (Nat.le_of_ble_eq_true rfl) dX10_goThrough_27 rfl rfl ?_
        refine v_ifeq (pc := 30) 116 O dX10_goThrough_30 (by decide) (fun c11 => ?_) (fun c11 => ?_)
        · have h := (if_pos c11).symm.trans h
          refine v_sub [] rfl ?_
          exact w_X10_goThrough_s_b116 O hm hn hz hR p9.2 h
        · have h := (if_neg c11).symm.trans h
          refine v_aload_n (pc := 33) O dX10_goThrough_33 2 rfl ?_
          obtain ⟨c12, h⟩ := if_none h
          refine v_getI (pc := 34) (a := a4) O gf_X7_0 fl_X10_41 c12 dX10_goThrough_34 ?_
          by_cases c13 : (dI p9.2 a4 0) = (16 : Int32)
          · have h := (if_pos c13).symm.trans h
            refine v_tableIn (pc := 37) 64 O dX10_goThrough_37 (by rw [c13]; decide) (by rw [c13]; decide) (by rw [c13]; rfl) (by decide) ?_
            refine v_aload_n (pc := 64) O dX10_goThrough_64 0 rfl ?_
            refine v_aload_n (pc := 65) O dX10_goThrough_65 2 rfl ?_
            refine v_iload_n (pc := 66) O dX10_goThrough_66 1 rfl ?_
            obtain ⟨p14, e15, h⟩ := bind_some h
            refine v_callV (pc := 67) (a := 189) (As := [.ref (bo X + pp a4), .int x2]) (rest := []) (r := none) (D' := p14) O (bb0 hz) (c_X10_goOverIf hm hR e15) mw_X10_goOverIf im_X10_goOverIf se_X10_goOverIf ml_X10_47 kq_189 (by decide) rfl rfl rfl (by omega) (by omega) (Nat.le_of_ble_eq_true rfl) dX10_goThrough_67 rfl rfl ?_
            refine v_goto (pc := 70) 108 O dX10_goThrough_70 (by decide) ?_
            refine v_sub [0, 1, 2] rfl ?_
            exact w_X10_goThrough_s_b108 O hm hn hz hR ih x2 (some a4) p14 h
          · have h := (if_neg c13).symm.trans h
            by_cases c16 : (dI p9.2 a4 0) = (17 : Int32)
            · have h := (if_pos c16).symm.trans h
              refine v_tableIn (pc := 37) 73 O dX10_goThrough_37 (by rw [c16]; decide) (by rw [c16]; decide) (by rw [c16]; rfl) (by decide) ?_
              refine v_aload_n (pc := 73) O dX10_goThrough_73 0 rfl ?_
              refine v_aload_n (pc := 74) O dX10_goThrough_74 2 rfl ?_
              refine v_iload_n (pc := 75) O dX10_goThrough_75 1 rfl ?_
              obtain ⟨p17, e18, h⟩ := bind_some h
              refine v_callV (pc := 76) (a := 189) (As := [.ref (bo X + pp a4), .int x2]) (rest := []) (r := none) (D' := p17) O (bb0 hz) (c_X10_goOverWhile hm hR e18) mw_X10_goOverWhile im_X10_goOverWhile se_X10_goOverWhile ml_X10_50 kq_189 (by decide) rfl rfl rfl (by omega) (by omega) (Nat.le_of_ble_eq_true rfl) dX10_goThrough_76 rfl rfl ?_
              refine v_goto (pc := 79) 108 O dX10_goThrough_79 (by decide) ?_
              refine v_sub [0, 1, 2] rfl ?_
              exact w_X10_goThrough_s_b108 O hm hn hz hR ih x2 (some a4) p17 h
            · have h := (if_neg c16).symm.trans h
              by_cases c19 : (dI p9.2 a4 0) = (18 : Int32)
              · have h := (if_pos c19).symm.trans h
                refine v_tableIn (pc := 37) 82 O dX10_goThrough_37 (by rw [c19]; decide) (by rw [c19]; decide) (by rw [c19]; rfl) (by decide) ?_
                refine v_aload_n (pc := 82) O dX10_goThrough_82 0 rfl ?_
                refine v_aload_n (pc := 83) O dX10_goThrough_83 0 rfl ?_
                refine v_getR (pc := 84) (a := 189) O gf_X10_1 fl_X10_15 kq_189 dX10_goThrough_84 ?_
                refine v_aload_n (pc := 87) O dX10_goThrough_87 2 rfl ?_
                refine v_getI (pc := 88) (a := a4) O gf_X7_2 fl_X10_53 c12 dX10_goThrough_88 ?_
                obtain ⟨a20, e21, h⟩ := bind_some h
                rw [e21]
                obtain ⟨c22, h⟩ := if_none h
                obtain ⟨p23, e24, h⟩ := bind_some h
                refine v_callV (pc := 91) (a := a20) (As := [.int (dI p9.2 a4 2)]) (rest := [.ref (bo X + pp 189)]) (r := (some (rv (bo X) p23.1))) (D' := p23.2) O (bb0 hz) (c_X4_proc hm c22 e24) mw_X4_proc im_X4_proc se_X4_proc ml_X10_56 (kt_X4 c22) (by decide) rfl rfl rfl (by omega) (by omega) (Nat.le_of_ble_eq_true rfl) dX10_goThrough_91 rfl rfl ?_
                refine v_iload_n (pc := 94) O dX10_goThrough_94 1 rfl ?_
                refine v_iconst (pc := 95) O dX10_goThrough_95 ic_1 ?_
                refine v_iadd (pc := 96) O dX10_goThrough_96 ?_
                obtain ⟨p25, e26, h⟩ := bind_some h
                refine v_callV (pc := 97) (a := 189) (As := [rv (bo X) p23.1, .int (x2 + (1 : Int32))]) (rest := []) (r := none) (D' := p25) O (bb0 hz) (hR e26) mw_X10_goThrough im_X10_goThrough se_X10_goThrough ml_X10_25 kq_189 (by decide) rfl rfl rfl (by omega) (by omega) (Nat.le_of_ble_eq_true rfl) dX10_goThrough_97 rfl rfl ?_
                refine v_goto (pc := 100) 108 O dX10_goThrough_100 (by decide) ?_
                refine v_sub [0, 1, 2] rfl ?_
                exact w_X10_goThrough_s_b108 O hm hn hz hR ih x2 (some a4) p25 h
              · have h := (if_neg c19).symm.trans h
                refine v_tableOut (pc := 37) 103 O dX10_goThrough_37 (by have c13i := ne_i (16) rfl c13; have c16i := ne_i (17) rfl c16; have c19i := ne_i (18) rfl c19; omega) (by decide) ?_
                refine v_aload_n (pc := 103) O dX10_goThrough_103 0 rfl ?_
                refine v_aload_n (pc := 104) O dX10_goThrough_104 2 rfl ?_
                obtain ⟨p27, e28, h⟩ := bind_some h
                refine v_callV (pc := 105) (a := 189) (As := [.ref (bo X + pp a4)]) (rest := []) (r := none) (D' := p27) O (bb0 hz) (c_X10_goOverPlain hm e28) mw_X10_goOverPlain im_X10_goOverPlain se_X10_goOverPlain ml_X10_60 kq_189 (by decide) rfl rfl rfl (by omega) (by omega) (Nat.le_of_ble_eq_true rfl) dX10_goThrough_105 rfl rfl ?_
                refine v_sub [0, 1, 2] rfl ?_
                exact w_X10_goThrough_s_b108 O hm hn hz hR ih x2 (some a4) p27 h
def f_X10_goThrough_s (rec : Option Nat → Int32 → Dat → Option (Dat)) (N : Nat) (nu : Nat) (K : Nat → Nat) (x1 : Option Nat) (x2 : Int32) (D : Dat) : Option (Dat) :=
  if x2 < 48 then (f_X10_goThrough_s_b9 rec N nu K N x2 x1 D) else (some D)
set_option maxHeartbeats 4000000 in
theorem w_X10_goThrough_s {X : Cx} {n nu c u : Nat} {K : Nat → Nat} {rec : Option Nat → Int32 → Dat → Option (Dat)} {N : Nat} {fr lc : Nat} {z : Dat} (O : Ok X cX10_goThrough RX10 none (fr + 6) (lc + 133)) (hm : wlm (xw X) = true) (hn : xn X = 4) (hz : Z0 X (Ax nu K c u)) (hR : ∀ {n : Nat} {x1 : Option Nat} {x2 : Int32} {D : Dat} {z : Dat}, rec x1 x2 D = some z → C0 (xl X) (xw X) yX10_goThrough cX10_goThrough 4 none fr lc [.ref (wb (xw X) + pp 189), rv (wb (xw X)) x1, .int x2] n (Ax nu K c u) D none z) (x1 : Option Nat) (x2 : Int32) (D : Dat) (h : f_X10_goThrough_s rec N nu K x1 x2 D = some z) : V X (Q0 X n (Ax nu K c u) none z) n (Ax nu K c u) D 0 [(0, .ref (bo X + pp 189)), (1, rv (bo X) x1), (2, .int x2)] [] := by
  unfold f_X10_goThrough_s at h
  refine v_iload_n (pc := 0) O dX10_goThrough_0 2 rfl ?_
  refine v_bipush (pc := 1) O dX10_goThrough_1 bp_48 ?_
  refine v_icmplt (pc := 3) 7 O dX10_goThrough_3 (by decide) (fun c29 => ?_) (fun c29 => ?_)
  · have h := (if_pos c29).symm.trans h
    refine v_aload_nr (pc := 7) O dX10_goThrough_7 1 rfl ?_
    refine v_astore_nr (pc := 8) (lv' := [(3, rv (bo X) x1), (0, .ref (bo X + pp 189)), (1, rv (bo X) x1), (2, .int x2)]) O dX10_goThrough_8 rfl (by rw [hn]; decide) rfl ?_
    refine v_sub [1, 3, 0] rfl ?_
    exact w_X10_goThrough_s_b9 O hm hn hz hR N x2 x1 D h
  · have h := (if_neg c29).symm.trans h
    obtain rfl := Option.some.inj h
    exact v_ret (pc := 6) O hz dX10_goThrough_6
theorem c_X10_goThrough_s {l : Launch} {w : Wx} {n nu c u : Nat} {K : Nat → Nat} {rec : Option Nat → Int32 → Dat → Option (Dat)} {N : Nat} {fr lc : Nat} (hm : wlm w = true) (hR : ∀ {n : Nat} {x1 : Option Nat} {x2 : Int32} {D : Dat} {z : Dat}, rec x1 x2 D = some z → C0 l w yX10_goThrough cX10_goThrough 4 none fr lc [.ref (wb w + pp 189), rv (wb w) x1, .int x2] n (Ax nu K c u) D none z) {x1 : Option Nat} {x2 : Int32} {D : Dat} {z : Dat} (h : f_X10_goThrough_s rec N nu K x1 x2 D = some z) : C0 l w yX10_goThrough cX10_goThrough 4 none (fr + 6) (lc + 133) [.ref (wb w + pp 189), rv (wb w) x1, .int x2] n (Ax nu K c u) D none z :=
  C0.of (by decide) (by simp [lg_sl, rv_cat, cat_i, cat_l, cat_r, cat_n, fmt_cat]) (fun X e1 e2 e3 hz O => by
  subst e1
  subst e2
  have q : lv_args 0 [.ref (bo X + pp 189), rv (bo X) x1, .int x2] = [(0, .ref (bo X + pp 189)), (1, rv (bo X) x1), (2, .int x2)] := by simp [lv_args, rv_cat, cat_i, cat_l, cat_r, cat_n, fmt_cat]
  show V X _ n _ D 0 (lv_args 0 [.ref (bo X + pp 189), rv (bo X) x1, .int x2]) []
  rw [q]
  exact w_X10_goThrough_s O hm e3 hz hR x1 x2 D h)
def f_X10_goThrough (N : Nat) (nu : Nat) (K : Nat → Nat) : Nat → Option Nat → Int32 → Dat → Option (Dat)
  | 0, _, _, _ => none
  | d + 1, x1, x2, D => f_X10_goThrough_s (f_X10_goThrough N nu K d) N nu K x1 x2 D
theorem c_X10_goThrough {l : Launch} {w : Wx} {n nu c u : Nat} {K : Nat → Nat} {N : Nat} (hm : wlm w = true) : ∀ (d : Nat) {x1 : Option Nat} {x2 : Int32} {D : Dat} {z : Dat} (h : f_X10_goThrough N nu K d x1 x2 D = some z), C0 l w yX10_goThrough cX10_goThrough 4 none (6 * d) (133 * d) [.ref (wb w + pp 189), rv (wb w) x1, .int x2] n (Ax nu K c u) D none z := by
  intro d
  induction d generalizing n with
  | zero => intro x1 x2 D z h; exact absurd h (by simp [f_X10_goThrough])
  | succ d ih =>
    intro x1 x2 D z h
    rw [f_X10_goThrough] at h
    exact c_X10_goThrough_s (fr := 6 * d) (lc := 133 * d) hm (fun h => ih h) h
