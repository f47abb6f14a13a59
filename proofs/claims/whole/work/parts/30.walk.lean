theorem kq_106 {nu c u : Nat} {K : Nat → Nat} : (Ax nu K c u).1 106 = 8 := kd_lt (K := K) (a := 106) (by decide) rfl
theorem fl_X5_45 : Cond.fieldLink RX5 45 RX5 (TX5 4).2.1 (TX5 4).2.2.1 ∈ tb := tb_of 239 (by decide +kernel) (by decide +kernel)
theorem gf_X5_4 : FI 5 RX5 TX5 14 tyX5 4 2 := ⟨rfl, inb_X5, tyX5_ok, nmX5, by decide, by decide, rfl, rfl, rfl⟩
theorem fl_X5_25 : Cond.fieldLink RX5 25 RX5 (TX5 3).2.1 (TX5 3).2.2.1 ∈ tb := tb_of 238 (by decide +kernel) (by decide +kernel)
theorem gf_X5_3 : FI 5 RX5 TX5 14 tyX5 3 3 := ⟨rfl, inb_X5, tyX5_ok, nmX5, by decide, by decide, rfl, rfl, rfl⟩
theorem lk_3_3 : lks 3 3 = some 5 := by decide +kernel
theorem kq_5 {nu c u : Nat} {K : Nat → Nat} : (Ax nu K c u).1 5 = 14 := kd_lt (K := K) (a := 5) (by decide) rfl
theorem lq_5 {nu c u : Nat} {K : Nat → Nat} : (Ax nu K c u).2.1 5 = 26 := rfl
theorem fl_X5_60 : Cond.fieldLink RX5 60 RX5 (TX5 5).2.1 (TX5 5).2.2.1 ∈ tb := tb_of 240 (by decide +kernel) (by decide +kernel)
theorem gf_X5_5 : FI 5 RX5 TX5 14 tyX5 5 0 := ⟨rfl, inb_X5, tyX5_ok, nmX5, by decide, by decide, rfl, rfl, rfl⟩
theorem pf_X5_5 : PI 5 RX5 TX5 14 tyX5 5 0 .int := ⟨gf_X5_5, rfl, rfl⟩
theorem fl_X5_84 : Cond.fieldLink RX5 84 RX5 (TX5 13).2.1 (TX5 13).2.2.1 ∈ tb := tb_of 237 (by decide +kernel) (by decide +kernel)
theorem gf_X5_13 : FI 5 RX5 TX5 14 tyX5 13 0 := ⟨rfl, inb_X5, tyX5_ok, nmX5, by decide, by decide, rfl, rfl, rfl⟩
theorem ini_X5 : Cond.initialized RX5 ∈ tb := tb_of 163 (by decide +kernel) (by decide +kernel)
theorem ml_X5_148 : Cond.methodLink RX5 148 Lib.Math.min.name ∈ tb := tb_of 963 (by decide +kernel) (by decide +kernel)
theorem fl_X5_153 : Cond.fieldLink RX5 153 RX5 (TX5 8).2.1 (TX5 8).2.2.1 ∈ tb := tb_of 241 (by decide +kernel) (by decide +kernel)
theorem gf_X5_8 : FI 5 RX5 TX5 14 tyX5 8 0 := ⟨rfl, inb_X5, tyX5_ok, nmX5, by decide, by decide, rfl, rfl, rfl⟩
theorem pf_X5_8 : PI 5 RX5 TX5 14 tyX5 8 0 .int := ⟨gf_X5_8, rfl, rfl⟩
theorem fl_X5_15 : Cond.fieldLink RX5 15 RX5 (TX5 10).2.1 (TX5 10).2.2.1 ∈ tb := tb_of 234 (by decide +kernel) (by decide +kernel)
theorem gf_X5_10 : FI 5 RX5 TX5 14 tyX5 10 3 := ⟨rfl, inb_X5, tyX5_ok, nmX5, by decide, by decide, rfl, rfl, rfl⟩
theorem lk_3_10 : lks 3 10 = some 263 := by decide +kernel
theorem kq_263 {nu c u : Nat} {K : Nat → Nat} : (Ax nu K c u).1 263 = 14 := kd_lt (K := K) (a := 263) (by decide) rfl
theorem lq_263 {nu c u : Nat} {K : Nat → Nat} : (Ax nu K c u).2.1 263 = 241 := rfl
theorem fl_X5_70 : Cond.fieldLink RX5 70 RX5 (TX5 6).2.1 (TX5 6).2.2.1 ∈ tb := tb_of 242 (by decide +kernel) (by decide +kernel)
theorem gf_X5_6 : FI 5 RX5 TX5 14 tyX5 6 0 := ⟨rfl, inb_X5, tyX5_ok, nmX5, by decide, by decide, rfl, rfl, rfl⟩
theorem pf_X5_6 : PI 5 RX5 TX5 14 tyX5 6 0 .int := ⟨gf_X5_6, rfl, rfl⟩
theorem fl_X5_19 : Cond.fieldLink RX5 19 RX5 (TX5 11).2.1 (TX5 11).2.2.1 ∈ tb := tb_of 235 (by decide +kernel) (by decide +kernel)
theorem gf_X5_11 : FI 5 RX5 TX5 14 tyX5 11 3 := ⟨rfl, inb_X5, tyX5_ok, nmX5, by decide, by decide, rfl, rfl, rfl⟩
theorem lk_3_11 : lks 3 11 = some 264 := by decide +kernel
theorem kq_264 {nu c u : Nat} {K : Nat → Nat} : (Ax nu K c u).1 264 = 14 := kd_lt (K := K) (a := 264) (by decide) rfl
theorem lq_264 {nu c u : Nat} {K : Nat → Nat} : (Ax nu K c u).2.1 264 = 241 := rfl
theorem pf_X5_7 : PI 5 RX5 TX5 14 tyX5 7 0 .int := ⟨gf_X5_7, rfl, rfl⟩
theorem fl_X5_22 : Cond.fieldLink RX5 22 RX5 (TX5 12).2.1 (TX5 12).2.2.1 ∈ tb := tb_of 236 (by decide +kernel) (by decide +kernel)
theorem gf_X5_12 : FI 5 RX5 TX5 14 tyX5 12 3 := ⟨rfl, inb_X5, tyX5_ok, nmX5, by decide, by decide, rfl, rfl, rfl⟩
theorem lk_3_12 : lks 3 12 = some 265 := by decide +kernel
theorem kq_265 {nu c u : Nat} {K : Nat → Nat} : (Ax nu K c u).1 265 = 14 := kd_lt (K := K) (a := 265) (by decide) rfl
theorem lq_265 {nu c u : Nat} {K : Nat → Nat} : (Ax nu K c u).2.1 265 = 241 := rfl
theorem fl_X5_156 : Cond.fieldLink RX5 156 RX5 (TX5 9).2.1 (TX5 9).2.2.1 ∈ tb := tb_of 244 (by decide +kernel) (by decide +kernel)
theorem gf_X5_9 : FI 5 RX5 TX5 14 tyX5 9 0 := ⟨rfl, inb_X5, tyX5_ok, nmX5, by decide, by decide, rfl, rfl, rfl⟩
theorem pf_X5_9 : PI 5 RX5 TX5 14 tyX5 9 0 .int := ⟨gf_X5_9, rfl, rfl⟩
theorem cw_X5_goTo : Cond.code yX5_goTo cX5_goTo 2 none ∈ tb := tb_of 962 (by decide +kernel) (by decide +kernel)
theorem mw_X5_goTo : MW yX5_goTo cX5_goTo 2 none 1 := ⟨cw_X5_goTo, ini_X5, by decide +kernel⟩
theorem im_X5_goTo : Cond.instanceMethod yX5_goTo ∈ tb := tb_of 961 (by decide +kernel) (by decide +kernel)
theorem se_X5_goTo : Cond.selects (yX5_goTo).cls yX5_goTo yX5_goTo ∈ tb := tb_of 15 (by decide +kernel) (by decide +kernel)
theorem ml_X5_66 : Cond.methodLink RX5 66 yX5_goTo ∈ tb := tb_of 959 (by decide +kernel) (by decide +kernel)
theorem tw_X5_255_257 : TW RX5 255 257 "java/util/NoSuchElementException" := ⟨by decide +kernel, tb_of 976 (by decide +kernel) (by decide +kernel), tb_of 187 (by decide +kernel) (by decide +kernel), by decide +kernel, by decide +kernel, by decide +kernel⟩
theorem fl_X5_28 : Cond.fieldLink RX5 28 RX5 (TX5 0).2.1 (TX5 0).2.2.1 ∈ tb := tb_of 231 (by decide +kernel) (by decide +kernel)
theorem gf_X5_0 : FI 5 RX5 TX5 14 tyX5 0 3 := ⟨rfl, inb_X5, tyX5_ok, nmX5, by decide, by decide, rfl, rfl, rfl⟩
theorem lk_3_0 : lks 3 0 = some 1 := by decide +kernel
theorem ml_X5_258 : Cond.methodLink RX5 258 yX2_has ∈ tb := tb_of 1129 (by decide +kernel) (by decide +kernel)
theorem cw_X5_roleHere : Cond.code yX5_roleHere cX5_roleHere 1 (some .int) ∈ tb := tb_of 975 (by decide +kernel) (by decide +kernel)
theorem mw_X5_roleHere : MW yX5_roleHere cX5_roleHere 1 (some .int) 0 := ⟨cw_X5_roleHere, ini_X5, by decide +kernel⟩
theorem im_X5_roleHere : Cond.instanceMethod yX5_roleHere ∈ tb := tb_of 974 (by decide +kernel) (by decide +kernel)
theorem se_X5_roleHere : Cond.selects (yX5_roleHere).cls yX5_roleHere yX5_roleHere ∈ tb := tb_of 18 (by decide +kernel) (by decide +kernel)
theorem ml_X5_230 : Cond.methodLink RX5 230 yX5_roleHere ∈ tb := tb_of 972 (by decide +kernel) (by decide +kernel)
theorem cw_X5_setRole : Cond.code yX5_setRole cX5_setRole 3 none ∈ tb := tb_of 995 (by decide +kernel) (by decide +kernel)
theorem mw_X5_setRole : MW yX5_setRole cX5_setRole 3 none 2 := ⟨cw_X5_setRole, ini_X5, by decide +kernel⟩
theorem im_X5_setRole : Cond.instanceMethod yX5_setRole ∈ tb := tb_of 994 (by decide +kernel) (by decide +kernel)
theorem se_X5_setRole : Cond.selects (yX5_setRole).cls yX5_setRole yX5_setRole ∈ tb := tb_of 19 (by decide +kernel) (by decide +kernel)
theorem ml_X5_170 : Cond.methodLink RX5 170 yX5_setRole ∈ tb := tb_of 992 (by decide +kernel) (by decide +kernel)
theorem inb_X8 : ∀ w ∈ u_ws RX8 TX8 3, w ∈ tb := by decide +kernel
theorem fl_X8_15 : Cond.fieldLink RX8 15 RX8 (TX8 1).2.1 (TX8 1).2.2.1 ∈ tb := tb_of 309 (by decide +kernel) (by decide +kernel)
theorem gf_X8_1 : FI 8 RX8 TX8 3 tyX8 1 2 := ⟨rfl, inb_X8, tyX8_ok, nmX8, by decide, by decide, rfl, rfl, rfl⟩
theorem fl_X8_24 : Cond.fieldLink RX8 24 RX8 (TX8 2).2.1 (TX8 2).2.2.1 ∈ tb := tb_of 310 (by decide +kernel) (by decide +kernel)
theorem gf_X8_2 : FI 8 RX8 TX8 3 tyX8 2 0 := ⟨rfl, inb_X8, tyX8_ok, nmX8, by decide, by decide, rfl, rfl, rfl⟩
theorem pf_X8_2 : PI 8 RX8 TX8 3 tyX8 2 0 .boolean := ⟨gf_X8_2, rfl, rfl⟩
theorem ml_X8_74 : Cond.methodLink RX8 74 yX0_size ∈ tb := tb_of 1242 (by decide +kernel) (by decide +kernel)
theorem cw_X0_add : Cond.code yX0_add cX0_add 3 none ∈ tb := tb_of 1246 (by decide +kernel) (by decide +kernel)
theorem mw_X0_add : MW yX0_add cX0_add 3 none 2 := ⟨cw_X0_add, ini_X0, by decide +kernel⟩
theorem im_X0_add : Cond.instanceMethod yX0_add ∈ tb := tb_of 1244 (by decide +kernel) (by decide +kernel)
theorem se_X0_add : Cond.selects (yX0_add).cls yX0_add yX0_add ∈ tb := tb_of 1245 (by decide +kernel) (by decide +kernel)
theorem ml_X8_103 : Cond.methodLink RX8 103 yX0_add ∈ tb := tb_of 1243 (by decide +kernel) (by decide +kernel)
theorem cw_X5_openWith : Cond.code yX5_openWith cX5_openWith 2 none ∈ tb := tb_of 1003 (by decide +kernel) (by decide +kernel)
theorem mw_X5_openWith : MW yX5_openWith cX5_openWith 2 none 1 := ⟨cw_X5_openWith, ini_X5, by decide +kernel⟩
theorem im_X5_openWith : Cond.instanceMethod yX5_openWith ∈ tb := tb_of 1002 (by decide +kernel) (by decide +kernel)
theorem se_X5_openWith : Cond.selects (yX5_openWith).cls yX5_openWith yX5_openWith ∈ tb := tb_of 21 (by decide +kernel) (by decide +kernel)
theorem ml_X5_182 : Cond.methodLink RX5 182 yX5_openWith ∈ tb := tb_of 1000 (by decide +kernel) (by decide +kernel)
theorem cw_X5_readExpression : Cond.code yX5_readExpression cX5_readExpression 2 (some .int) ∈ tb := tb_of 1092 (by decide +kernel) (by decide +kernel)
theorem mw_X5_readExpression : MW yX5_readExpression cX5_readExpression 2 (some .int) 0 := ⟨cw_X5_readExpression, ini_X5, by decide +kernel⟩
theorem im_X5_readExpression : Cond.instanceMethod yX5_readExpression ∈ tb := tb_of 1091 (by decide +kernel) (by decide +kernel)
theorem se_X5_readExpression : Cond.selects (yX5_readExpression).cls yX5_readExpression yX5_readExpression ∈ tb := tb_of 26 (by decide +kernel) (by decide +kernel)
theorem ml_X5_221 : Cond.methodLink RX5 221 yX5_readExpression ∈ tb := tb_of 1089 (by decide +kernel) (by decide +kernel)
theorem cw_X5_closeWith : Cond.code yX5_closeWith cX5_closeWith 2 none ∈ tb := tb_of 1112 (by decide +kernel) (by decide +kernel)
theorem mw_X5_closeWith : MW yX5_closeWith cX5_closeWith 2 none 1 := ⟨cw_X5_closeWith, ini_X5, by decide +kernel⟩
theorem im_X5_closeWith : Cond.instanceMethod yX5_closeWith ∈ tb := tb_of 1111 (by decide +kernel) (by decide +kernel)
theorem se_X5_closeWith : Cond.selects (yX5_closeWith).cls yX5_closeWith yX5_closeWith ∈ tb := tb_of 30 (by decide +kernel) (by decide +kernel)
theorem ml_X5_185 : Cond.methodLink RX5 185 yX5_closeWith ∈ tb := tb_of 1109 (by decide +kernel) (by decide +kernel)
theorem cw_X5_takeName : Cond.code yX5_takeName cX5_takeName 3 (some .int) ∈ tb := tb_of 1116 (by decide +kernel) (by decide +kernel)
theorem mw_X5_takeName : MW yX5_takeName cX5_takeName 3 (some .int) 1 := ⟨cw_X5_takeName, ini_X5, by decide +kernel⟩
theorem im_X5_takeName : Cond.instanceMethod yX5_takeName ∈ tb := tb_of 1115 (by decide +kernel) (by decide +kernel)
theorem se_X5_takeName : Cond.selects (yX5_takeName).cls yX5_takeName yX5_takeName ∈ tb := tb_of 31 (by decide +kernel) (by decide +kernel)
theorem ml_X5_212 : Cond.methodLink RX5 212 yX5_takeName ∈ tb := tb_of 1113 (by decide +kernel) (by decide +kernel)
theorem cw_X4_add : Cond.code yX4_add cX4_add 3 none ∈ tb := tb_of 1108 (by decide +kernel) (by decide +kernel)
theorem mw_X4_add : MW yX4_add cX4_add 3 none 2 := ⟨cw_X4_add, ini_X4, by decide +kernel⟩
theorem im_X4_add : Cond.instanceMethod yX4_add ∈ tb := tb_of 1106 (by decide +kernel) (by decide +kernel)
theorem se_X4_add : Cond.selects (yX4_add).cls yX4_add yX4_add ∈ tb := tb_of 1107 (by decide +kernel) (by decide +kernel)
theorem ml_X5_246 : Cond.methodLink RX5 246 yX4_add ∈ tb := tb_of 1105 (by decide +kernel) (by decide +kernel)
theorem cw_X5_readIndex : Cond.code yX5_readIndex cX5_readIndex 1 none ∈ tb := tb_of 1120 (by decide +kernel) (by decide +kernel)
theorem mw_X5_readIndex : MW yX5_readIndex cX5_readIndex 1 none 0 := ⟨cw_X5_readIndex, ini_X5, by decide +kernel⟩
theorem im_X5_readIndex : Cond.instanceMethod yX5_readIndex ∈ tb := tb_of 1119 (by decide +kernel) (by decide +kernel)
theorem se_X5_readIndex : Cond.selects (yX5_readIndex).cls yX5_readIndex yX5_readIndex ∈ tb := tb_of 32 (by decide +kernel) (by decide +kernel)
theorem ml_X5_227 : Cond.methodLink RX5 227 yX5_readIndex ∈ tb := tb_of 1117 (by decide +kernel) (by decide +kernel)
def f_X5_isLetter_b39 (s0 : Int32) (D : Dat) : Option (Int32 × Dat) :=
  if s0 &&& 1 = s0 then some (s0, D) else none
set_option maxHeartbeats 4000000 in
theorem w_X5_isLetter_b39 {X : Cx} {n nu c u : Nat} {K : Nat → Nat} {z : Int32 × Dat} (O : Ok X cX5_isLetter RX5 (some .boolean) 0 0) (hm : wlm (xw X) = true) (hn : xn X = 2) (hz : Z0 X (Ax nu K c u)) (s0 : Int32) (D : Dat) (h : f_X5_isLetter_b39 s0 D = some z) : V X (Q0 X n (Ax nu K c u) (some (.int z.1)) z.2) n (Ax nu K c u) D 39 [] [.int s0] := by
  unfold f_X5_isLetter_b39 at h
  obtain ⟨c1, h⟩ := if_none h
  obtain rfl := Option.some.inj h
  exact v_zret (pc := 39) O hz (congrArg Value.int c1) dX5_isLetter_39
def f_X5_isLetter_b38 (D : Dat) : Option (Int32 × Dat) :=
  f_X5_isLetter_b39 0 D
set_option maxHeartbeats 4000000 in
theorem w_X5_isLetter_b38 {X : Cx} {n nu c u : Nat} {K : Nat → Nat} {z : Int32 × Dat} (O : Ok X cX5_isLetter RX5 (some .boolean) 0 0) (hm : wlm (xw X) = true) (hn : xn X = 2) (hz : Z0 X (Ax nu K c u)) (D : Dat) (h : f_X5_isLetter_b38 D = some z) : V X (Q0 X n (Ax nu K c u) (some (.int z.1)) z.2) n (Ax nu K c u) D 38 [] [] := by
  unfold f_X5_isLetter_b38 at h
  refine v_iconst (pc := 38) O dX5_isLetter_38 ic_0 ?_
  refine v_sub [] rfl ?_
  exact w_X5_isLetter_b39 O hm hn hz 0 D h
def f_X5_isLetter (x1 : Int32) (D : Dat) : Option (Int32 × Dat) :=
  if x1 < 0 then (f_X5_isLetter_b38 D) else (if (dI D 3 2) ≤ x1 then (f_X5_isLetter_b38 D) else (if x1 < 0 ∨ 240 ≤ (x1).toNatClampNeg then none else (if (dI D 4 (x1).toNatClampNeg) < 97 then (f_X5_isLetter_b38 D) else (if x1 < 0 ∨ 240 ≤ (x1).toNatClampNeg then none else (if 122 < (dI D 4 (x1).toNatClampNeg) then (f_X5_isLetter_b38 D) else (f_X5_isLetter_b39 1 D))))))
set_option maxHeartbeats 4000000 in
theorem w_X5_isLetter {X : Cx} {n nu c u : Nat} {K : Nat → Nat} {z : Int32 × Dat} (O : Ok X cX5_isLetter RX5 (some .boolean) 0 0) (hm : wlm (xw X) = true) (hn : xn X = 2) (hz : Z0 X (Ax nu K c u)) (x1 : Int32) (D : Dat) (h : f_X5_isLetter x1 D = some z) : V X (Q0 X n (Ax nu K c u) (some (.int z.1)) z.2) n (Ax nu K c u) D 0 [(0, .ref (bo X + pp 3)), (1, .int x1)] [] := by
  unfold f_X5_isLetter at h
  refine v_iload_n (pc := 0) O dX5_isLetter_0 1 rfl ?_
  refine v_iflt (pc := 1) 38 O dX5_isLetter_1 (by decide) (fun c2 => ?_) (fun c2 => ?_)
  · have h := (if_pos c2).symm.trans h
    refine v_sub [] rfl ?_
    exact w_X5_isLetter_b38 O hm hn hz D h
  · have h := (if_neg c2).symm.trans h
    refine v_iload_n (pc := 4) O dX5_isLetter_4 1 rfl ?_
    refine v_aload_n (pc := 5) O dX5_isLetter_5 0 rfl ?_
    refine v_getI (pc := 6) (a := 3) O gf_X5_2 fl_X5_32 kq_3 dX5_isLetter_6 ?_
    refine v_icmpge (pc := 9) 38 O dX5_isLetter_9 (by decide) (fun c3 => ?_) (fun c3 => ?_)
    · have h := (if_pos c3).symm.trans h
      refine v_sub [] rfl ?_
      exact w_X5_isLetter_b38 O hm hn hz D h
    · have h := (if_neg c3).symm.trans h
      refine v_aload_n (pc := 12) O dX5_isLetter_12 0 rfl ?_
      refine v_getK (pc := 13) (a := 3) O hm gf_X5_1 fl_X5_9 kq_3 lk_3_1 dX5_isLetter_13 ?_
      refine v_iload_n (pc := 16) O dX5_isLetter_16 1 rfl ?_
      obtain ⟨c4, h⟩ := or_none h
      refine v_cald (pc := 17) (a := 4) O kq_4 (inq lq_4 c4) dX5_isLetter_17 ?_
      refine v_bipush (pc := 18) O dX5_isLetter_18 bp_97 ?_
      refine v_icmplt (pc := 20) 38 O dX5_isLetter_20 (by decide) (fun c5 => ?_) (fun c5 => ?_)
      · have h := (if_pos c5).symm.trans h
        refine v_sub [] rfl ?_
        exact w_X5_isLetter_b38 O hm hn hz D h
      · have h := (if_neg c5).symm.trans h
        refine v_aload_n (pc := 23) O dX5_isLetter_23 0 rfl ?_
        refine v_getK (pc := 24) (a := 3) O hm gf_X5_1 fl_X5_9 kq_3 lk_3_1 dX5_isLetter_24 ?_
        refine v_iload_n (pc := 27) O dX5_isLetter_27 1 rfl ?_
        obtain ⟨c6, h⟩ := or_none h
        refine v_cald (pc := 28) (a := 4) O kq_4 (inq lq_4 c6) dX5_isLetter_28 ?_
        refine v_bipush (pc := 29) O dX5_isLetter_29 bp_122 ?_
        refine v_icmpgt (pc := 31) 38 O dX5_isLetter_31 (by decide) (fun c7 => ?_) (fun c7 => ?_)
        · have h := (if_pos c7).symm.trans h
          refine v_sub [] rfl ?_
          exact w_X5_isLetter_b38 O hm hn hz D h
        · have h := (if_neg c7).symm.trans h
          refine v_iconst (pc := 34) O dX5_isLetter_34 ic_1 ?_
          refine v_goto (pc := 35) 39 O dX5_isLetter_35 (by decide) ?_
          refine v_sub [] rfl ?_
          exact w_X5_isLetter_b39 O hm hn hz 1 D h
theorem c_X5_isLetter {l : Launch} {w : Wx} {n nu c u : Nat} {K : Nat → Nat} (hm : wlm w = true) {x1 : Int32} {D : Dat} {z : Int32 × Dat} (h : f_X5_isLetter x1 D = some z) : C0 l w yX5_isLetter cX5_isLetter 2 (some .boolean) 0 0 [.ref (wb w + pp 3), .int x1] n (Ax nu K c u) D (some (.int z.1)) z.2 :=
  C0.of (by decide) (Nat.le_of_ble_eq_true rfl) (fun X e1 e2 e3 hz O => by
  subst e1
  subst e2
  exact w_X5_isLetter O hm e3 hz x1 D h)
def f_X5_isDigit_b39 (s0 : Int32) (D : Dat) : Option (Int32 × Dat) :=
  if s0 &&& 1 = s0 then some (s0, D) else none
set_option maxHeartbeats 4000000 in
theorem w_X5_isDigit_b39 {X : Cx} {n nu c u : Nat} {K : Nat → Nat} {z : Int32 × Dat} (O : Ok X cX5_isDigit RX5 (some .boolean) 0 0) (hm : wlm (xw X) = true) (hn : xn X = 2) (hz : Z0 X (Ax nu K c u)) (s0 : Int32) (D : Dat) (h : f_X5_isDigit_b39 s0 D = some z) : V X (Q0 X n (Ax nu K c u) (some (.int z.1)) z.2) n (Ax nu K c u) D 39 [] [.int s0] := by
  unfold f_X5_isDigit_b39 at h
  obtain ⟨c1, h⟩ := if_none h
  obtain rfl := Option.some.inj h
  exact v_zret (pc := 39) O hz (congrArg Value.int c1) dX5_isDigit_39
def f_X5_isDigit_b38 (D : Dat) : Option (Int32 × Dat) :=
  f_X5_isDigit_b39 0 D
set_option maxHeartbeats 4000000 in
theorem w_X5_isDigit_b38 {X : Cx} {n nu c u : Nat} {K : Nat → Nat} {z : Int32 × Dat} (O : Ok X cX5_isDigit RX5 (some .boolean) 0 0) (hm : wlm (xw X) = true) (hn : xn X = 2) (hz : Z0 X (Ax nu K c u)) (D : Dat) (h : f_X5_isDigit_b38 D = some z) : V X (Q0 X n (Ax nu K c u) (some (.int z.1)) z.2) n (Ax nu K c u) D 38 [] [] := by
  unfold f_X5_isDigit_b38 at h
  refine v_iconst (pc := 38) O dX5_isDigit_38 ic_0 ?_
  refine v_sub [] rfl ?_
  exact w_X5_isDigit_b39 O hm hn hz 0 D h
def f_X5_isDigit (x1 : Int32) (D : Dat) : Option (Int32 × Dat) :=
  if x1 < 0 then (f_X5_isDigit_b38 D) else (if (dI D 3 2) ≤ x1 then (f_X5_isDigit_b38 D) else (if x1 < 0 ∨ 240 ≤ (x1).toNatClampNeg then none else (if (dI D 4 (x1).toNatClampNeg) < 48 then (f_X5_isDigit_b38 D) else (if x1 < 0 ∨ 240 ≤ (x1).toNatClampNeg then none else (if 57 < (dI D 4 (x1).toNatClampNeg) then (f_X5_isDigit_b38 D) else (f_X5_isDigit_b39 1 D))))))
set_option maxHeartbeats 4000000 in
theorem w_X5_isDigit {X : Cx} {n nu c u : Nat} {K : Nat → Nat} {z : Int32 × Dat} (O : Ok X cX5_isDigit RX5 (some .boolean) 0 0) (hm : wlm (xw X) = true) (hn : xn X = 2) (hz : Z0 X (Ax nu K c u)) (x1 : Int32) (D : Dat) (h : f_X5_isDigit x1 D = some z) : V X (Q0 X n (Ax nu K c u) (some (.int z.1)) z.2) n (Ax nu K c u) D 0 [(0, .ref (bo X + pp 3)), (1, .int x1)] [] := by
  unfold f_X5_isDigit at h
  refine v_iload_n (pc := 0) O dX5_isDigit_0 1 rfl ?_
  refine v_iflt (pc := 1) 38 O dX5_isDigit_1 (by decide) (fun c2 => ?_) (fun c2 => ?_)
  · have h := (if_pos c2).symm.trans h
    refine v_sub [] rfl ?_
    exact w_X5_isDigit_b38 O hm hn hz D h
  · have h := (if_neg c2).symm.trans h
    refine v_iload_n (pc := 4) O dX5_isDigit_4 1 rfl ?_
    refine v_aload_n (pc := 5) O dX5_isDigit_5 0 rfl ?_
    refine v_getI (pc := 6) (a := 3) O gf_X5_2 fl_X5_32 kq_3 dX5_isDigit_6 ?_
    refine v_icmpge (pc := 9) 38 O dX5_isDigit_9 (by decide) (fun c3 => ?_) (fun c3 => ?_)
    · have h := (if_pos c3).symm.trans h
      refine v_sub [] rfl ?_
      exact w_X5_isDigit_b38 O hm hn hz D h
    · have h := (if_neg c3).symm.trans h
      refine v_aload_n (pc := 12) O dX5_isDigit_12 0 rfl ?_
      refine v_getK (pc := 13) (a := 3) O hm gf_X5_1 fl_X5_9 kq_3 lk_3_1 dX5_isDigit_13 ?_
      refine v_iload_n (pc := 16) O dX5_isDigit_16 1 rfl ?_
      obtain ⟨c4, h⟩ := or_none h
      refine v_cald (pc := 17) (a := 4) O kq_4 (inq lq_4 c4) dX5_isDigit_17 ?_
      refine v_bipush (pc := 18) O dX5_isDigit_18 bp_48 ?_
      refine v_icmplt (pc := 20) 38 O dX5_isDigit_20 (by decide) (fun c5 => ?_) (fun c5 => ?_)
      · have h := (if_pos c5).symm.trans h
        refine v_sub [] rfl ?_
        exact w_X5_isDigit_b38 O hm hn hz D h
      · have h := (if_neg c5).symm.trans h
        refine v_aload_n (pc := 23) O dX5_isDigit_23 0 rfl ?_
        refine v_getK (pc := 24) (a := 3) O hm gf_X5_1 fl_X5_9 kq_3 lk_3_1 dX5_isDigit_24 ?_
        refine v_iload_n (pc := 27) O dX5_isDigit_27 1 rfl ?_
        obtain ⟨c6, h⟩ := or_none h
        refine v_cald (pc := 28) (a := 4) O kq_4 (inq lq_4 c6) dX5_isDigit_28 ?_
        refine v_bipush (pc := 29) O dX5_isDigit_29 bp_57 ?_
        refine v_icmpgt (pc := 31) 38 O dX5_isDigit_31 (by decide) (fun c7 => ?_) (fun c7 => ?_)
        · have h := (if_pos c7).symm.trans h
          refine v_sub [] rfl ?_
          exact w_X5_isDigit_b38 O hm hn hz D h
        · have h := (if_neg c7).symm.trans h
          refine v_iconst (pc := 34) O dX5_isDigit_34 ic_1 ?_
          refine v_goto (pc := 35) 39 O dX5_isDigit_35 (by decide) ?_
          refine v_sub [] rfl ?_
          exact w_X5_isDigit_b39 O hm hn hz 1 D h
theorem c_X5_isDigit {l : Launch} {w : Wx} {n nu c u : Nat} {K : Nat → Nat} (hm : wlm w = true) {x1 : Int32} {D : Dat} {z : Int32 × Dat} (h : f_X5_isDigit x1 D = some z) : C0 l w yX5_isDigit cX5_isDigit 2 (some .boolean) 0 0 [.ref (wb w + pp 3), .int x1] n (Ax nu K c u) D (some (.int z.1)) z.2 :=
  C0.of (by decide) (Nat.le_of_ble_eq_true rfl) (fun X e1 e2 e3 hz O => by
  subst e1
  subst e2
  exact w_X5_isDigit O hm e3 hz x1 D h)
def f_X5_numberAt_b42 (N : Nat) (x3 : Int32) (D : Dat) : Option (Int32 × Dat) :=
  some (x3, D)
set_option maxHeartbeats 4000000 in
theorem w_X5_numberAt_b42 {X : Cx} {n nu c u : Nat} {K : Nat → Nat} {N : Nat} {z : Int32 × Dat} (O : Ok X cX5_numberAt RX5 (some .int) 0 0) (hm : wlm (xw X) = true) (hn : xn X = 5) (hz : Z0 X (Ax nu K c u)) (x3 : Int32) (D : Dat) (h : f_X5_numberAt_b42 N x3 D = some z) : V X (Q0 X n (Ax nu K c u) (some (.int z.1)) z.2) n (Ax nu K c u) D 42 [(3, .int x3)] [] := by
  unfold f_X5_numberAt_b42 at h
  refine v_iload_n (pc := 42) O dX5_numberAt_42 0 rfl ?_
  obtain rfl := Option.some.inj h
  exact v_iret (pc := 43) O hz dX5_numberAt_43
def f_X5_numberAt_b5 (N : Nat) : Nat → Int32 → Int32 → Int32 → Dat → Option (Int32 × Dat)
  | 0, _, _, _, _ => none
  | g + 1, x2, x3, x4, D => if x2 ≤ x4 then (f_X5_numberAt_b42 N x3 D) else (if (dI D 3 2) ≤ x4 then (f_X5_numberAt_b42 N x3 D) else (if x4 < 0 ∨ 240 ≤ (x4).toNatClampNeg then none else ((f_X5_numberAt_b5 N g) x2 (((10 : Int32) * x3) + ((dI D 4 (x4).toNatClampNeg) - (48 : Int32))) (x4 + 1) D)))
set_option maxHeartbeats 4000000 in
theorem w_X5_numberAt_b5 {X : Cx} {n nu c u : Nat} {K : Nat → Nat} {N : Nat} {z : Int32 × Dat} (O : Ok X cX5_numberAt RX5 (some .int) 0 0) (hm : wlm (xw X) = true) (hn : xn X = 5) (hz : Z0 X (Ax nu K c u)) : ∀ (g : Nat) (x2 : Int32) (x3 : Int32) (x4 : Int32) (D : Dat), f_X5_numberAt_b5 N g x2 x3 x4 D = some z → V X (Q0 X n (Ax nu K c u) (some (.int z.1)) z.2) n (Ax nu K c u) D 5 [(0, .ref (bo X + pp 3)), (2, .int x2), (3, .int x3), (4, .int x4)] [] := by
  intro g
  induction g with
  | zero => intro x2 x3 x4 D h; exact absurd h (by simp [f_X5_numberAt_b5])
  | succ g ih =>
    intro x2 x3 x4 D h
    rw [f_X5_numberAt_b5] at h
    refine v_iload (pc := 5) O dX5_numberAt_5 3 rfl ?_
    refine v_iload_n (pc := 7) O dX5_numberAt_7 1 rfl ?_
    refine v_icmpge (pc := 8) 42 O dX5_numberAt_8 (by decide) (fun c1 => ?_) (fun c1 => ?_)
    · have h := (if_pos c1).symm.trans h
      refine v_sub [2] rfl ?_
      exact w_X5_numberAt_b42 O hm hn hz x3 D h
    · have h := (if_neg c1).symm.trans h
      refine v_iload (pc := 11) O dX5_numberAt_11 3 rfl ?_
      refine v_aload_n (pc := 13) O dX5_numberAt_13 0 rfl ?_
      refine v_getI (pc := 14) (a := 3) O gf_X5_2 fl_X5_32 kq_3 dX5_numberAt_14 ?_
      refine v_icmpge (pc := 17) 42 O dX5_numberAt_17 (by decide) (fun c2 => ?_) (fun c2 => ?_)
      · have h := (if_pos c2).symm.trans h
        refine v_sub [2] rfl ?_
        exact w_X5_numberAt_b42 O hm hn hz x3 D h
      · have h := (if_neg c2).symm.trans h
        refine v_bipush (pc := 20) O dX5_numberAt_20 bp_10 ?_
        refine v_iload_n (pc := 22) O dX5_numberAt_22 2 rfl ?_
        refine v_imul (pc := 23) O dX5_numberAt_23 ?_
        refine v_aload_n (pc := 24) O dX5_numberAt_24 0 rfl ?_
        refine v_getK (pc := 25) (a := 3) O hm gf_X5_1 fl_X5_9 kq_3 lk_3_1 dX5_numberAt_25 ?_
        refine v_iload (pc := 28) O dX5_numberAt_28 3 rfl ?_
        obtain ⟨c3, h⟩ := or_none h
        refine v_cald (pc := 30) (a := 4) O kq_4 (inq lq_4 c3) dX5_numberAt_30 ?_
        refine v_bipush (pc := 31) O dX5_numberAt_31 bp_48 ?_
        refine v_isub (pc := 33) O dX5_numberAt_33 ?_
        refine v_iadd (pc := 34) O dX5_numberAt_34 ?_
        refine v_istore_n (pc := 35) (lv' := [(3, .int (((10 : Int32) * x3) + ((dI D 4 (x4).toNatClampNeg) - (48 : Int32)))), (0, .ref (bo X + pp 3)), (2, .int x2), (4, .int x4)]) O dX5_numberAt_35 rfl (by rw [hn]; decide) rfl ?_
        refine v_iinc (pc := 36) (lv' := [(4, .int (x4 + 1)), (3, .int (((10 : Int32) * x3) + ((dI D 4 (x4).toNatClampNeg) - (48 : Int32)))), (0, .ref (bo X + pp 3)), (2, .int x2)]) O dX5_numberAt_36 3 rfl (congrArg (fun q => x4 + q) ic_1) (by rw [hn]; decide) rfl ?_
        refine v_goto (pc := 39) 5 O dX5_numberAt_39 (by decide) ?_
        refine v_sub [2, 3, 1, 0] rfl ?_
        exact ih x2 (((10 : Int32) * x3) + ((dI D 4 (x4).toNatClampNeg) - (48 : Int32))) (x4 + 1) D h
def f_X5_numberAt (N : Nat) (x1 : Int32) (x2 : Int32) (D : Dat) : Option (Int32 × Dat) :=
  f_X5_numberAt_b5 N N x2 0 x1 D
set_option maxHeartbeats 4000000 in
theorem w_X5_numberAt {X : Cx} {n nu c u : Nat} {K : Nat → Nat} {N : Nat} {z : Int32 × Dat} (O : Ok X cX5_numberAt RX5 (some .int) 0 0) (hm : wlm (xw X) = true) (hn : xn X = 5) (hz : Z0 X (Ax nu K c u)) (x1 : Int32) (x2 : Int32) (D : Dat) (h : f_X5_numberAt N x1 x2 D = some z) : V X (Q0 X n (Ax nu K c u) (some (.int z.1)) z.2) n (Ax nu K c u) D 0 [(0, .ref (bo X + pp 3)), (1, .int x1), (2, .int x2)] [] := by
  unfold f_X5_numberAt at h
  refine v_iconst (pc := 0) O dX5_numberAt_0 ic_0 ?_
  refine v_istore_n (pc := 1) (lv' := [(3, .int 0), (0, .ref (bo X + pp 3)), (1, .int x1), (2, .int x2)]) O dX5_numberAt_1 rfl (by rw [hn]; decide) rfl ?_
  refine v_iload_n (pc := 2) O dX5_numberAt_2 2 rfl ?_
  refine v_istore (pc := 3) (lv' := [(4, .int x1), (3, .int 0), (0, .ref (bo X + pp 3)), (1, .int x1), (2, .int x2)]) O dX5_numberAt_3 (by rw [hn]; decide) rfl ?_
  refine v_sub [2, 4, 1, 0] rfl ?_
  exact w_X5_numberAt_b5 O hm hn hz N x2 0 x1 D h
theorem c_X5_numberAt {l : Launch} {w : Wx} {n nu c u : Nat} {K : Nat → Nat} {N : Nat} (hm : wlm w = true) {x1 : Int32} {x2 : Int32} {D : Dat} {z : Int32 × Dat} (h : f_X5_numberAt N x1 x2 D = some z) : C0 l w yX5_numberAt cX5_numberAt 5 (some .int) 0 0 [.ref (wb w + pp 3), .int x1, .int x2] n (Ax nu K c u) D (some (.int z.1)) z.2 :=
  C0.of (by decide) (Nat.le_of_ble_eq_true rfl) (fun X e1 e2 e3 hz O => by
  subst e1
  subst e2
  exact w_X5_numberAt O hm e3 hz x1 x2 D h)
def f_X5_goTo_b60 (D : Dat) : Option (Dat) :=
  some D
set_option maxHeartbeats 4000000 in
theorem w_X5_goTo_b60 {X : Cx} {n nu c u : Nat} {K : Nat → Nat} {z : Dat} (O : Ok X cX5_goTo RX5 none 1 30) (hm : wlm (xw X) = true) (hn : xn X = 2) (hz : Z0 X (Ax nu K c u)) (D : Dat) (h : f_X5_goTo_b60 D = some z) : V X (Q0 X n (Ax nu K c u) none z) n (Ax nu K c u) D 60 [] [] := by
  unfold f_X5_goTo_b60 at h
  obtain rfl := Option.some.inj h
  exact v_ret (pc := 60) O hz dX5_goTo_60
def f_X5_goTo_b34 (D : Dat) : Option (Dat) :=
  if (dI D 3 8) < 0 ∨ 241 ≤ ((dI D 3 8)).toNatClampNeg then none else (if (dI (sI D 3 7 (dI D 264 (dI D 3 8).toNatClampNeg)) 3 8) < 0 ∨ 241 ≤ ((dI (sI D 3 7 (dI D 264 (dI D 3 8).toNatClampNeg)) 3 8)).toNatClampNeg then none else (f_X5_goTo_b60 (sI (sI D 3 7 (dI D 264 (dI D 3 8).toNatClampNeg)) 3 9 (dI (sI D 3 7 (dI D 264 (dI D 3 8).toNatClampNeg)) 265 (dI (sI D 3 7 (dI D 264 (dI D 3 8).toNatClampNeg)) 3 8).toNatClampNeg))))
set_option maxHeartbeats 4000000 in
theorem w_X5_goTo_b34 {X : Cx} {n nu c u : Nat} {K : Nat → Nat} {z : Dat} (O : Ok X cX5_goTo RX5 none 1 30) (hm : wlm (xw X) = true) (hn : xn X = 2) (hz : Z0 X (Ax nu K c u)) (D : Dat) (h : f_X5_goTo_b34 D = some z) : V X (Q0 X n (Ax nu K c u) none z) n (Ax nu K c u) D 34 [(0, .ref (bo X + pp 3))] [] := by
  unfold f_X5_goTo_b34 at h
  refine v_aload_n (pc := 34) O dX5_goTo_34 0 rfl ?_
  refine v_aload_n (pc := 35) O dX5_goTo_35 0 rfl ?_
  refine v_getK (pc := 36) (a := 3) O hm gf_X5_11 fl_X5_19 kq_3 lk_3_11 dX5_goTo_36 ?_
  refine v_aload_n (pc := 39) O dX5_goTo_39 0 rfl ?_
  refine v_getI (pc := 40) (a := 3) O gf_X5_8 fl_X5_153 kq_3 dX5_goTo_40 ?_
  obtain ⟨c1, h⟩ := or_none h
  refine v_iald (pc := 43) (a := 264) O kq_264 (inq lq_264 c1) dX5_goTo_43 ?_
  refine v_putI (pc := 44) (a := 3) O pf_X5_7 fl_X5_36 kq_3 dX5_goTo_44 ?_
  refine v_aload_n (pc := 47) O dX5_goTo_47 0 rfl ?_
  refine v_aload_n (pc := 48) O dX5_goTo_48 0 rfl ?_
  refine v_getK (pc := 49) (a := 3) O hm gf_X5_12 fl_X5_22 kq_3 lk_3_12 dX5_goTo_49 ?_
  refine v_aload_n (pc := 52) O dX5_goTo_52 0 rfl ?_
  refine v_getI (pc := 53) (a := 3) O gf_X5_8 fl_X5_153 kq_3 dX5_goTo_53 ?_
  obtain ⟨c2, h⟩ := or_none h
  refine v_iald (pc := 56) (a := 265) O kq_265 (inq lq_265 c2) dX5_goTo_56 ?_
  refine v_putI (pc := 57) (a := 3) O pf_X5_9 fl_X5_156 kq_3 dX5_goTo_57 ?_
  refine v_sub [] rfl ?_
  exact w_X5_goTo_b60 O hm hn hz (sI (sI D 3 7 (dI D 264 (dI D 3 8).toNatClampNeg)) 3 9 (dI (sI D 3 7 (dI D 264 (dI D 3 8).toNatClampNeg)) 265 (dI (sI D 3 7 (dI D 264 (dI D 3 8).toNatClampNeg)) 3 8).toNatClampNeg)) h
def f_X5_goTo (x1 : Int32) (D : Dat) : Option (Dat) :=
  if (dI (sI D 3 8 (if ((dI D 3 13) - (1 : Int32)) < x1 then ((dI D 3 13) - (1 : Int32)) else x1)) 3 8) < 0 then (f_X5_goTo_b60 (sI D 3 8 (if ((dI D 3 13) - (1 : Int32)) < x1 then ((dI D 3 13) - (1 : Int32)) else x1))) else (if (dI (sI D 3 8 (if ((dI D 3 13) - (1 : Int32)) < x1 then ((dI D 3 13) - (1 : Int32)) else x1)) 3 8) < 0 ∨ 241 ≤ ((dI (sI D 3 8 (if ((dI D 3 13) - (1 : Int32)) < x1 then ((dI D 3 13) - (1 : Int32)) else x1)) 3 8)).toNatClampNeg then none else (f_X5_goTo_b34 (sI (sI D 3 8 (if ((dI D 3 13) - (1 : Int32)) < x1 then ((dI D 3 13) - (1 : Int32)) else x1)) 3 6 (dI (sI D 3 8 (if ((dI D 3 13) - (1 : Int32)) < x1 then ((dI D 3 13) - (1 : Int32)) else x1)) 263 (dI (sI D 3 8 (if ((dI D 3 13) - (1 : Int32)) < x1 then ((dI D 3 13) - (1 : Int32)) else x1)) 3 8).toNatClampNeg))))
set_option maxHeartbeats 4000000 in
theorem w_X5_goTo {X : Cx} {n nu c u : Nat} {K : Nat → Nat} {z : Dat} (O : Ok X cX5_goTo RX5 none 1 30) (hm : wlm (xw X) = true) (hn : xn X = 2) (hz : Z0 X (Ax nu K c u)) (x1 : Int32) (D : Dat) (h : f_X5_goTo x1 D = some z) : V X (Q0 X n (Ax nu K c u) none z) n (Ax nu K c u) D 0 [(0, .ref (bo X + pp 3)), (1, .int x1)] [] := by
  unfold f_X5_goTo at h
  refine v_aload_n (pc := 0) O dX5_goTo_0 0 rfl ?_
  refine v_iload_n (pc := 1) O dX5_goTo_1 1 rfl ?_
  refine v_aload_n (pc := 2) O dX5_goTo_2 0 rfl ?_
  refine v_getI (pc := 3) (a := 3) O gf_X5_13 fl_X5_84 kq_3 dX5_goTo_3 ?_
  refine v_iconst (pc := 6) O dX5_goTo_6 ic_1 ?_
  refine v_isub (pc := 7) O dX5_goTo_7 ?_
  refine v_min (pc := 8) O (bb0 hz) ml_X5_148 sm_min ini_Math cw_min (by decide) (Nat.le_of_ble_eq_true rfl) dX5_goTo_8 ?_
  refine v_putI (pc := 11) (a := 3) O pf_X5_8 fl_X5_153 kq_3 dX5_goTo_11 ?_
  refine v_aload_n (pc := 14) O dX5_goTo_14 0 rfl ?_
  refine v_getI (pc := 15) (a := 3) O gf_X5_8 fl_X5_153 kq_3 dX5_goTo_15 ?_
  refine v_iflt (pc := 18) 60 O dX5_goTo_18 (by decide) (fun c3 => ?_) (fun c3 => ?_)
  · have h := (if_pos c3).symm.trans h
    refine v_sub [] rfl ?_
    exact w_X5_goTo_b60 O hm hn hz (sI D 3 8 (if ((dI D 3 13) - (1 : Int32)) < x1 then ((dI D 3 13) - (1 : Int32)) else x1)) h
  · have h := (if_neg c3).symm.trans h
    refine v_aload_n (pc := 21) O dX5_goTo_21 0 rfl ?_
    refine v_aload_n (pc := 22) O dX5_goTo_22 0 rfl ?_
    refine v_getK (pc := 23) (a := 3) O hm gf_X5_10 fl_X5_15 kq_3 lk_3_10 dX5_goTo_23 ?_
    refine v_aload_n (pc := 26) O dX5_goTo_26 0 rfl ?_
    refine v_getI (pc := 27) (a := 3) O gf_X5_8 fl_X5_153 kq_3 dX5_goTo_27 ?_
    obtain ⟨c4, h⟩ := or_none h
    refine v_iald (pc := 30) (a := 263) O kq_263 (inq lq_263 c4) dX5_goTo_30 ?_
    refine v_putI (pc := 31) (a := 3) O pf_X5_6 fl_X5_70 kq_3 dX5_goTo_31 ?_
    refine v_sub [0] rfl ?_
    exact w_X5_goTo_b34 O hm hn hz (sI (sI D 3 8 (if ((dI D 3 13) - (1 : Int32)) < x1 then ((dI D 3 13) - (1 : Int32)) else x1)) 3 6 (dI (sI D 3 8 (if ((dI D 3 13) - (1 : Int32)) < x1 then ((dI D 3 13) - (1 : Int32)) else x1)) 263 (dI (sI D 3 8 (if ((dI D 3 13) - (1 : Int32)) < x1 then ((dI D 3 13) - (1 : Int32)) else x1)) 3 8).toNatClampNeg)) h
theorem c_X5_goTo {l : Launch} {w : Wx} {n nu c u : Nat} {K : Nat → Nat} (hm : wlm w = true) {x1 : Int32} {D : Dat} {z : Dat} (h : f_X5_goTo x1 D = some z) : C0 l w yX5_goTo cX5_goTo 2 none 1 30 [.ref (wb w + pp 3), .int x1] n (Ax nu K c u) D none z :=
  C0.of (by decide) (Nat.le_of_ble_eq_true rfl) (fun X e1 e2 e3 hz O => by
  subst e1
  subst e2
  exact w_X5_goTo O hm e3 hz x1 D h)
def f_X5_openWith_b17 (nu : Nat) (S : Sr) (D : Dat) : Option (Sum Nat Unit × Sr × Dat) :=
  if 1 ≤ S.2.2.1 ∧ 6 ≤ S.2.2.2 then some (.inl 4, (S.1, S.2.1, S.2.2.1 - 1, S.2.2.2 - 6), D) else none
set_option maxHeartbeats 4000000 in
theorem w_X5_openWith_b17 {X : Cx} {nu : Nat} {z : Sum Nat Unit × Sr × Dat} (O : Ok X cX5_openWith RX5 none 6 100) (hm : wlm (xw X) = true) (hn : xn X = 2) (hT : T2 X) (S : Sr) (D : Dat) (h : f_X5_openWith_b17 nu S D = some z) : V X (Q2 X nu (ru z)) S.1 (Az nu S) D 17 [] [] := by
  unfold f_X5_openWith_b17 at h
  obtain ⟨c1, h⟩ := if_none h
  obtain rfl := Option.some.inj h
  exact v_throw2 (pc := 17) (e := 4) O hT c1 rfl tw_X5_255_257 (by decide) (Nat.le_of_ble_eq_true rfl) dX5_openWith_17 dX5_openWith_20 dX5_openWith_21 dX5_openWith_24
def f_X5_openWith (nu : Nat) (x1 : Int32) (S : Sr) (D : Dat) : Option (Sum Nat Unit × Sr × Dat) :=
  if (dI D 3 6) = x1 then (if (dI D 3 5) < 8 then ((f_X5_goTo ((dI (sI D 3 5 ((dI D 3 5) + (1 : Int32))) 3 8) + (1 : Int32)) (sI D 3 5 ((dI D 3 5) + (1 : Int32)))).bind (fun p4 => some (.inr (), S, p4))) else (f_X5_openWith_b17 nu S D)) else (f_X5_openWith_b17 nu S D)
set_option maxHeartbeats 4000000 in
theorem w_X5_openWith {X : Cx} {nu : Nat} {z : Sum Nat Unit × Sr × Dat} (O : Ok X cX5_openWith RX5 none 6 100) (hm : wlm (xw X) = true) (hn : xn X = 2) (hT : T2 X) (x1 : Int32) (S : Sr) (D : Dat) (h : f_X5_openWith nu x1 S D = some z) : V X (Q2 X nu (ru z)) S.1 (Az nu S) D 0 [(0, .ref (bo X + pp 3)), (1, .int x1)] [] := by
  unfold f_X5_openWith at h
  refine v_aload_n (pc := 0) O dX5_openWith_0 0 rfl ?_
  refine v_getI (pc := 1) (a := 3) O gf_X5_6 fl_X5_70 kq_3 dX5_openWith_1 ?_
  refine v_iload_n (pc := 4) O dX5_openWith_4 1 rfl ?_
  refine v_icmpne (pc := 5) 17 O dX5_openWith_5 (by decide) (fun c2 => ?_) (fun c2 => ?_)
  · have h := (if_neg c2).symm.trans h
    refine v_sub [] rfl ?_
    exact w_X5_openWith_b17 O hm hn hT S D h
  · have h := (if_pos c2).symm.trans h
    refine v_aload_n (pc := 8) O dX5_openWith_8 0 rfl ?_
    refine v_getI (pc := 9) (a := 3) O gf_X5_5 fl_X5_60 kq_3 dX5_openWith_9 ?_
    refine v_bipush (pc := 12) O dX5_openWith_12 bp_8 ?_
    refine v_icmplt (pc := 14) 25 O dX5_openWith_14 (by decide) (fun c3 => ?_) (fun c3 => ?_)
    · have h := (if_pos c3).symm.trans h
      refine v_aload_n (pc := 25) O dX5_openWith_25 0 rfl ?_
      refine v_dup (pc := 26) O dX5_openWith_26 rfl ?_
      refine v_getI (pc := 27) (a := 3) O gf_X5_5 fl_X5_60 kq_3 dX5_openWith_27 ?_
      refine v_iconst (pc := 30) O dX5_openWith_30 ic_1 ?_
      refine v_iadd (pc := 31) O dX5_openWith_31 ?_
      refine v_putI (pc := 32) (a := 3) O pf_X5_5 fl_X5_60 kq_3 dX5_openWith_32 ?_
      refine v_aload_n (pc := 35) O dX5_openWith_35 0 rfl ?_
      refine v_aload_n (pc := 36) O dX5_openWith_36 0 rfl ?_
      refine v_getI (pc := 37) (a := 3) O gf_X5_8 fl_X5_153 kq_3 dX5_openWith_37 ?_
      refine v_iconst (pc := 40) O dX5_openWith_40 ic_1 ?_
      refine v_iadd (pc := 41) O dX5_openWith_41 ?_
      obtain ⟨p4, e5, h⟩ := bind_some h
      refine v_callV (pc := 42) (a := 3) (As := [.int ((dI (sI D 3 5 ((dI D 3 5) + (1 : Int32))) 3 8) + (1 : Int32))]) (rest := []) (r := none) (D' := p4) O (bb2 hT) (c_X5_goTo hm e5) mw_X5_goTo im_X5_goTo se_X5_goTo ml_X5_66 kq_3 (by decide) rfl rfl rfl (by decide) (by decide) (Nat.le_of_ble_eq_true rfl) dX5_openWith_42 rfl rfl ?_
      obtain rfl := Option.some.inj h
      exact v_vret2 (pc := 45) O dX5_openWith_45
    · have h := (if_neg c3).symm.trans h
      refine v_sub [] rfl ?_
      exact w_X5_openWith_b17 O hm hn hT S D h
theorem c_X5_openWith {l : Launch} {w : Wx} {nu : Nat} (hl : l.stackTraces = false) (hm : wlm w = true) {x1 : Int32} {S : Sr} {D : Dat} {z : Sum Nat Unit × Sr × Dat} (h : f_X5_openWith nu x1 S D = some z) : C2 l w yX5_openWith cX5_openWith 2 none 6 100 [.ref (wb w + pp 3), .int x1] nu S D (ru z) :=
  C2.of hl (by decide) (Nat.le_of_ble_eq_true rfl) (fun X e1 e2 e3 hT O _ _ => by
  subst e1
  subst e2
  exact w_X5_openWith O hm e3 hT x1 S D h)
def f_X5_closeWith (nu : Nat) (x1 : Int32) (S : Sr) (D : Dat) : Option (Sum Nat Unit × Sr × Dat) :=
  if (dI D 3 6) = x1 then ((f_X5_goTo ((dI (sI D 3 5 ((dI D 3 5) - (1 : Int32))) 3 8) + (1 : Int32)) (sI D 3 5 ((dI D 3 5) - (1 : Int32)))).bind (fun p2 => some (.inr (), S, p2))) else (if 1 ≤ S.2.2.1 ∧ 6 ≤ S.2.2.2 then some (.inl 4, (S.1, S.2.1, S.2.2.1 - 1, S.2.2.2 - 6), D) else none)
set_option maxHeartbeats 4000000 in
theorem w_X5_closeWith {X : Cx} {nu : Nat} {z : Sum Nat Unit × Sr × Dat} (O : Ok X cX5_closeWith RX5 none 6 100) (hm : wlm (xw X) = true) (hn : xn X = 2) (hT : T2 X) (x1 : Int32) (S : Sr) (D : Dat) (h : f_X5_closeWith nu x1 S D = some z) : V X (Q2 X nu (ru z)) S.1 (Az nu S) D 0 [(0, .ref (bo X + pp 3)), (1, .int x1)] [] := by
  unfold f_X5_closeWith at h
  refine v_aload_n (pc := 0) O dX5_closeWith_0 0 rfl ?_
  refine v_getI (pc := 1) (a := 3) O gf_X5_6 fl_X5_70 kq_3 dX5_closeWith_1 ?_
  refine v_iload_n (pc := 4) O dX5_closeWith_4 1 rfl ?_
  refine v_icmpeq (pc := 5) 16 O dX5_closeWith_5 (by decide) (fun c1 => ?_) (fun c1 => ?_)
  · have h := (if_pos c1).symm.trans h
    refine v_aload_n (pc := 16) O dX5_closeWith_16 0 rfl ?_
    refine v_dup (pc := 17) O dX5_closeWith_17 rfl ?_
    refine v_getI (pc := 18) (a := 3) O gf_X5_5 fl_X5_60 kq_3 dX5_closeWith_18 ?_
    refine v_iconst (pc := 21) O dX5_closeWith_21 ic_1 ?_
    refine v_isub (pc := 22) O dX5_closeWith_22 ?_
    refine v_putI (pc := 23) (a := 3) O pf_X5_5 fl_X5_60 kq_3 dX5_closeWith_23 ?_
    refine v_aload_n (pc := 26) O dX5_closeWith_26 0 rfl ?_
    refine v_aload_n (pc := 27) O dX5_closeWith_27 0 rfl ?_
    refine v_getI (pc := 28) (a := 3) O gf_X5_8 fl_X5_153 kq_3 dX5_closeWith_28 ?_
    refine v_iconst (pc := 31) O dX5_closeWith_31 ic_1 ?_
    refine v_iadd (pc := 32) O dX5_closeWith_32 ?_
    obtain ⟨p2, e3, h⟩ := bind_some h
    refine v_callV (pc := 33) (a := 3) (As := [.int ((dI (sI D 3 5 ((dI D 3 5) - (1 : Int32))) 3 8) + (1 : Int32))]) (rest := []) (r := none) (D' := p2) O (bb2 hT) (c_X5_goTo hm e3) mw_X5_goTo im_X5_goTo se_X5_goTo ml_X5_66 kq_3 (by decide) rfl rfl rfl (by decide) (by decide) (Nat.le_of_ble_eq_true rfl) dX5_closeWith_33 rfl rfl ?_
    obtain rfl := Option.some.inj h
    exact v_vret2 (pc := 36) O dX5_closeWith_36
  · have h := (if_neg c1).symm.trans h
    obtain ⟨c4, h⟩ := if_none h
    obtain rfl := Option.some.inj h
    exact v_throw2 (pc := 8) (e := 4) O hT c4 rfl tw_X5_255_257 (by decide) (Nat.le_of_ble_eq_true rfl) dX5_closeWith_8 dX5_closeWith_11 dX5_closeWith_12 dX5_closeWith_15
theorem c_X5_closeWith {l : Launch} {w : Wx} {nu : Nat} (hl : l.stackTraces = false) (hm : wlm w = true) {x1 : Int32} {S : Sr} {D : Dat} {z : Sum Nat Unit × Sr × Dat} (h : f_X5_closeWith nu x1 S D = some z) : C2 l w yX5_closeWith cX5_closeWith 2 none 6 100 [.ref (wb w + pp 3), .int x1] nu S D (ru z) :=
  C2.of hl (by decide) (Nat.le_of_ble_eq_true rfl) (fun X e1 e2 e3 hT O _ _ => by
  subst e1
  subst e2
  exact w_X5_closeWith O hm e3 hT x1 S D h)
def f_X5_take (nu : Nat) (x1 : Int32) (S : Sr) (D : Dat) : Option (Sum Nat Unit × Sr × Dat) :=
  if (dI D 3 6) = x1 then ((f_X5_goTo ((dI D 3 8) + (1 : Int32)) D).bind (fun p2 => some (.inr (), S, p2))) else (if 1 ≤ S.2.2.1 ∧ 6 ≤ S.2.2.2 then some (.inl 4, (S.1, S.2.1, S.2.2.1 - 1, S.2.2.2 - 6), D) else none)
set_option maxHeartbeats 4000000 in
theorem w_X5_take {X : Cx} {nu : Nat} {z : Sum Nat Unit × Sr × Dat} (O : Ok X cX5_take RX5 none 6 100) (hm : wlm (xw X) = true) (hn : xn X = 2) (hT : T2 X) (x1 : Int32) (S : Sr) (D : Dat) (h : f_X5_take nu x1 S D = some z) : V X (Q2 X nu (ru z)) S.1 (Az nu S) D 0 [(0, .ref (bo X + pp 3)), (1, .int x1)] [] := by
  unfold f_X5_take at h
  refine v_aload_n (pc := 0) O dX5_take_0 0 rfl ?_
  refine v_getI (pc := 1) (a := 3) O gf_X5_6 fl_X5_70 kq_3 dX5_take_1 ?_
  refine v_iload_n (pc := 4) O dX5_take_4 1 rfl ?_
  refine v_icmpeq (pc := 5) 16 O dX5_take_5 (by decide) (fun c1 => ?_) (fun c1 => ?_)
  · have h := (if_pos c1).symm.trans h
    refine v_aload_n (pc := 16) O dX5_take_16 0 rfl ?_
    refine v_aload_n (pc := 17) O dX5_take_17 0 rfl ?_
    refine v_getI (pc := 18) (a := 3) O gf_X5_8 fl_X5_153 kq_3 dX5_take_18 ?_
    refine v_iconst (pc := 21) O dX5_take_21 ic_1 ?_
    refine v_iadd (pc := 22) O dX5_take_22 ?_
    obtain ⟨p2, e3, h⟩ := bind_some h
    refine v_callV (pc := 23) (a := 3) (As := [.int ((dI D 3 8) + (1 : Int32))]) (rest := []) (r := none) (D' := p2) O (bb2 hT) (c_X5_goTo hm e3) mw_X5_goTo im_X5_goTo se_X5_goTo ml_X5_66 kq_3 (by decide) rfl rfl rfl (by decide) (by decide) (Nat.le_of_ble_eq_true rfl) dX5_take_23 rfl rfl ?_
    obtain rfl := Option.some.inj h
    exact v_vret2 (pc := 26) O dX5_take_26
  · have h := (if_neg c1).symm.trans h
    obtain ⟨c4, h⟩ := if_none h
    obtain rfl := Option.some.inj h
    exact v_throw2 (pc := 8) (e := 4) O hT c4 rfl tw_X5_255_257 (by decide) (Nat.le_of_ble_eq_true rfl) dX5_take_8 dX5_take_11 dX5_take_12 dX5_take_15
theorem c_X5_take {l : Launch} {w : Wx} {nu : Nat} (hl : l.stackTraces = false) (hm : wlm w = true) {x1 : Int32} {S : Sr} {D : Dat} {z : Sum Nat Unit × Sr × Dat} (h : f_X5_take nu x1 S D = some z) : C2 l w yX5_take cX5_take 2 none 6 100 [.ref (wb w + pp 3), .int x1] nu S D (ru z) :=
  C2.of hl (by decide) (Nat.le_of_ble_eq_true rfl) (fun X e1 e2 e3 hT O _ _ => by
  subst e1
  subst e2
  exact w_X5_take O hm e3 hT x1 S D h)
def f_X5_takeLabel_b22 (nu : Nat) (S : Sr) (D : Dat) : Option (Sum Nat Int32 × Sr × Dat) :=
  if 1 ≤ S.2.2.1 ∧ 6 ≤ S.2.2.2 then some (.inl 4, (S.1, S.2.1, S.2.2.1 - 1, S.2.2.2 - 6), D) else none
set_option maxHeartbeats 4000000 in
theorem w_X5_takeLabel_b22 {X : Cx} {nu : Nat} {z : Sum Nat Int32 × Sr × Dat} (O : Ok X cX5_takeLabel RX5 (some .int) 6 100) (hm : wlm (xw X) = true) (hn : xn X = 2) (hT : T2 X) (S : Sr) (D : Dat) (h : f_X5_takeLabel_b22 nu S D = some z) : V X (Q2 X nu (ri z)) S.1 (Az nu S) D 22 [] [] := by
  unfold f_X5_takeLabel_b22 at h
  obtain ⟨c1, h⟩ := if_none h
  obtain rfl := Option.some.inj h
  exact v_throw2 (pc := 22) (e := 4) O hT c1 rfl tw_X5_255_257 (by decide) (Nat.le_of_ble_eq_true rfl) dX5_takeLabel_22 dX5_takeLabel_25 dX5_takeLabel_26 dX5_takeLabel_29
def f_X5_takeLabel (nu : Nat) (S : Sr) (D : Dat) : Option (Sum Nat Int32 × Sr × Dat) :=
  if (dI D 3 6) = 2 then ((f_X2_has (dI D 3 9) D).bind (fun p3 => if p3.1 = 0 then (f_X5_takeLabel_b22 nu S p3.2) else ((f_X5_goTo ((dI p3.2 3 8) + (1 : Int32)) p3.2).bind (fun p6 => some (.inr (dI p3.2 3 9), S, p6))))) else (f_X5_takeLabel_b22 nu S D)
set_option maxHeartbeats 4000000 in
theorem w_X5_takeLabel {X : Cx} {nu : Nat} {z : Sum Nat Int32 × Sr × Dat} (O : Ok X cX5_takeLabel RX5 (some .int) 6 100) (hm : wlm (xw X) = true) (hn : xn X = 2) (hT : T2 X) (S : Sr) (D : Dat) (h : f_X5_takeLabel nu S D = some z) : V X (Q2 X nu (ri z)) S.1 (Az nu S) D 0 [(0, .ref (bo X + pp 3))] [] := by
  unfold f_X5_takeLabel at h
  refine v_aload_n (pc := 0) O dX5_takeLabel_0 0 rfl ?_
  refine v_getI (pc := 1) (a := 3) O gf_X5_6 fl_X5_70 kq_3 dX5_takeLabel_1 ?_
  refine v_iconst (pc := 4) O dX5_takeLabel_4 ic_2 ?_
  refine v_icmpne (pc := 5) 22 O dX5_takeLabel_5 (by decide) (fun c2 => ?_) (fun c2 => ?_)
  · have h := (if_neg c2).symm.trans h
    refine v_sub [] rfl ?_
    exact w_X5_takeLabel_b22 O hm hn hT S D h
  · have h := (if_pos c2).symm.trans h
    refine v_aload_n (pc := 8) O dX5_takeLabel_8 0 rfl ?_
    refine v_getK (pc := 9) (a := 3) O hm gf_X5_0 fl_X5_28 kq_3 lk_3_0 dX5_takeLabel_9 ?_
    refine v_aload_n (pc := 12) O dX5_takeLabel_12 0 rfl ?_
    refine v_getI (pc := 13) (a := 3) O gf_X5_9 fl_X5_156 kq_3 dX5_takeLabel_13 ?_
    obtain ⟨p3, e4, h⟩ := bind_some h
    refine v_callV (pc := 16) (a := 1) (As := [.int (dI D 3 9)]) (rest := []) (r := (some (.int p3.1))) (D' := p3.2) O (bb2 hT) (c_X2_has hm e4) mw_X2_has im_X2_has se_X2_has ml_X5_258 kq_1 (by decide) rfl rfl rfl (by decide) (by decide) (Nat.le_of_ble_eq_true rfl) dX5_takeLabel_16 rfl rfl ?_
    refine v_ifne (pc := 19) 30 O dX5_takeLabel_19 (by decide) (fun c5 => ?_) (fun c5 => ?_)
    · have h := (if_neg c5).symm.trans h
      refine v_aload_n (pc := 30) O dX5_takeLabel_30 0 rfl ?_
      refine v_getI (pc := 31) (a := 3) O gf_X5_9 fl_X5_156 kq_3 dX5_takeLabel_31 ?_
      refine v_istore_n (pc := 34) (lv' := [(1, .int (dI p3.2 3 9)), (0, .ref (bo X + pp 3))]) O dX5_takeLabel_34 rfl (by rw [hn]; decide) rfl ?_
      refine v_aload_n (pc := 35) O dX5_takeLabel_35 1 rfl ?_
      refine v_aload_n (pc := 36) O dX5_takeLabel_36 1 rfl ?_
      refine v_getI (pc := 37) (a := 3) O gf_X5_8 fl_X5_153 kq_3 dX5_takeLabel_37 ?_
      refine v_iconst (pc := 40) O dX5_takeLabel_40 ic_1 ?_
      refine v_iadd (pc := 41) O dX5_takeLabel_41 ?_
      obtain ⟨p6, e7, h⟩ := bind_some h
      refine v_callV (pc := 42) (a := 3) (As := [.int ((dI p3.2 3 8) + (1 : Int32))]) (rest := []) (r := none) (D' := p6) O (bb2 hT) (c_X5_goTo hm e7) mw_X5_goTo im_X5_goTo se_X5_goTo ml_X5_66 kq_3 (by decide) rfl rfl rfl (by decide) (by decide) (Nat.le_of_ble_eq_true rfl) dX5_takeLabel_42 rfl rfl ?_
      refine v_iload_n (pc := 45) O dX5_takeLabel_45 0 rfl ?_
      obtain rfl := Option.some.inj h
      exact v_iret2 (pc := 46) O dX5_takeLabel_46
    · have h := (if_pos c5).symm.trans h
      refine v_sub [] rfl ?_
      exact w_X5_takeLabel_b22 O hm hn hT S p3.2 h
theorem c_X5_takeLabel {l : Launch} {w : Wx} {nu : Nat} (hl : l.stackTraces = false) (hm : wlm w = true) {S : Sr} {D : Dat} {z : Sum Nat Int32 × Sr × Dat} (h : f_X5_takeLabel nu S D = some z) : C2 l w yX5_takeLabel cX5_takeLabel 2 (some .int) 6 100 [.ref (wb w + pp 3)] nu S D (ri z) :=
  C2.of hl (by decide) (Nat.le_of_ble_eq_true rfl) (fun X e1 e2 e3 hT O _ _ => by
  subst e1
  subst e2
  exact w_X5_takeLabel O hm e3 hT  S D h)
def f_X5_roleHere_b37 (s0 : Int32) (D : Dat) : Option (Int32 × Dat) :=
  some (s0, D)
set_option maxHeartbeats 4000000 in
theorem w_X5_roleHere_b37 {X : Cx} {n nu c u : Nat} {K : Nat → Nat} {z : Int32 × Dat} (O : Ok X cX5_roleHere RX5 (some .int) 0 0) (hm : wlm (xw X) = true) (hn : xn X = 1) (hz : Z0 X (Ax nu K c u)) (s0 : Int32) (D : Dat) (h : f_X5_roleHere_b37 s0 D = some z) : V X (Q0 X n (Ax nu K c u) (some (.int z.1)) z.2) n (Ax nu K c u) D 37 [] [.int s0] := by
  unfold f_X5_roleHere_b37 at h
  obtain rfl := Option.some.inj h
  exact v_iret (pc := 37) O hz dX5_roleHere_37
def f_X5_roleHere_b36 (D : Dat) : Option (Int32 × Dat) :=
  f_X5_roleHere_b37 (-1) D
set_option maxHeartbeats 4000000 in
theorem w_X5_roleHere_b36 {X : Cx} {n nu c u : Nat} {K : Nat → Nat} {z : Int32 × Dat} (O : Ok X cX5_roleHere RX5 (some .int) 0 0) (hm : wlm (xw X) = true) (hn : xn X = 1) (hz : Z0 X (Ax nu K c u)) (D : Dat) (h : f_X5_roleHere_b36 D = some z) : V X (Q0 X n (Ax nu K c u) (some (.int z.1)) z.2) n (Ax nu K c u) D 36 [] [] := by
  unfold f_X5_roleHere_b36 at h
  refine v_iconst (pc := 36) O dX5_roleHere_36 ic_m1 ?_
  refine v_sub [] rfl ?_
  exact w_X5_roleHere_b37 O hm hn hz (-1) D h
def f_X5_roleHere (D : Dat) : Option (Int32 × Dat) :=
  if (dI D 3 6) = 1 then (if (dI D 3 9) < 0 then (f_X5_roleHere_b36 D) else (if 26 ≤ (dI D 3 9) then (f_X5_roleHere_b36 D) else (if (dI D 3 9) < 0 ∨ 26 ≤ ((dI D 3 9)).toNatClampNeg then none else (f_X5_roleHere_b37 (dI D 5 (dI D 3 9).toNatClampNeg) D)))) else (f_X5_roleHere_b36 D)
set_option maxHeartbeats 4000000 in
theorem w_X5_roleHere {X : Cx} {n nu c u : Nat} {K : Nat → Nat} {z : Int32 × Dat} (O : Ok X cX5_roleHere RX5 (some .int) 0 0) (hm : wlm (xw X) = true) (hn : xn X = 1) (hz : Z0 X (Ax nu K c u)) (D : Dat) (h : f_X5_roleHere D = some z) : V X (Q0 X n (Ax nu K c u) (some (.int z.1)) z.2) n (Ax nu K c u) D 0 [(0, .ref (bo X + pp 3))] [] := by
  unfold f_X5_roleHere at h
  refine v_aload_n (pc := 0) O dX5_roleHere_0 0 rfl ?_
  refine v_getI (pc := 1) (a := 3) O gf_X5_6 fl_X5_70 kq_3 dX5_roleHere_1 ?_
  refine v_iconst (pc := 4) O dX5_roleHere_4 ic_1 ?_
  refine v_icmpne (pc := 5) 36 O dX5_roleHere_5 (by decide) (fun c1 => ?_) (fun c1 => ?_)
  · have h := (if_neg c1).symm.trans h
    refine v_sub [] rfl ?_
    exact w_X5_roleHere_b36 O hm hn hz D h
  · have h := (if_pos c1).symm.trans h
    refine v_aload_n (pc := 8) O dX5_roleHere_8 0 rfl ?_
    refine v_getI (pc := 9) (a := 3) O gf_X5_9 fl_X5_156 kq_3 dX5_roleHere_9 ?_
    refine v_iflt (pc := 12) 36 O dX5_roleHere_12 (by decide) (fun c2 => ?_) (fun c2 => ?_)
    · have h := (if_pos c2).symm.trans h
      refine v_sub [] rfl ?_
      exact w_X5_roleHere_b36 O hm hn hz D h
    · have h := (if_neg c2).symm.trans h
      refine v_aload_n (pc := 15) O dX5_roleHere_15 0 rfl ?_
      refine v_getI (pc := 16) (a := 3) O gf_X5_9 fl_X5_156 kq_3 dX5_roleHere_16 ?_
      refine v_bipush (pc := 19) O dX5_roleHere_19 bp_26 ?_
      refine v_icmpge (pc := 21) 36 O dX5_roleHere_21 (by decide) (fun c3 => ?_) (fun c3 => ?_)
      · have h := (if_pos c3).symm.trans h
        refine v_sub [] rfl ?_
        exact w_X5_roleHere_b36 O hm hn hz D h
      · have h := (if_neg c3).symm.trans h
        refine v_aload_n (pc := 24) O dX5_roleHere_24 0 rfl ?_
        refine v_getK (pc := 25) (a := 3) O hm gf_X5_3 fl_X5_25 kq_3 lk_3_3 dX5_roleHere_25 ?_
        refine v_aload_n (pc := 28) O dX5_roleHere_28 0 rfl ?_
        refine v_getI (pc := 29) (a := 3) O gf_X5_9 fl_X5_156 kq_3 dX5_roleHere_29 ?_
        obtain ⟨c4, h⟩ := or_none h
        refine v_iald (pc := 32) (a := 5) O kq_5 (inq lq_5 c4) dX5_roleHere_32 ?_
        refine v_goto (pc := 33) 37 O dX5_roleHere_33 (by decide) ?_
        refine v_sub [] rfl ?_
        exact w_X5_roleHere_b37 O hm hn hz (dI D 5 (dI D 3 9).toNatClampNeg) D h
theorem c_X5_roleHere {l : Launch} {w : Wx} {n nu c u : Nat} {K : Nat → Nat} (hm : wlm w = true) {D : Dat} {z : Int32 × Dat} (h : f_X5_roleHere D = some z) : C0 l w yX5_roleHere cX5_roleHere 1 (some .int) 0 0 [.ref (wb w + pp 3)] n (Ax nu K c u) D (some (.int z.1)) z.2 :=
  C0.of (by decide) (Nat.le_of_ble_eq_true rfl) (fun X e1 e2 e3 hz O => by
  subst e1
  subst e2
  exact w_X5_roleHere O hm e3 hz  D h)
def f_X5_setRole_b17 (D : Dat) : Option (Dat) :=
  some D
set_option maxHeartbeats 4000000 in
theorem w_X5_setRole_b17 {X : Cx} {n nu c u : Nat} {K : Nat → Nat} {z : Dat} (O : Ok X cX5_setRole RX5 none 0 0) (hm : wlm (xw X) = true) (hn : xn X = 3) (hz : Z0 X (Ax nu K c u)) (D : Dat) (h : f_X5_setRole_b17 D = some z) : V X (Q0 X n (Ax nu K c u) none z) n (Ax nu K c u) D 17 [] [] := by
  unfold f_X5_setRole_b17 at h
  obtain rfl := Option.some.inj h
  exact v_ret (pc := 17) O hz dX5_setRole_17
def f_X5_setRole (x1 : Int32) (x2 : Int32) (D : Dat) : Option (Dat) :=
  if x1 < 0 then (f_X5_setRole_b17 D) else (if 26 ≤ x1 then (f_X5_setRole_b17 D) else (if x1 < 0 ∨ 26 ≤ (x1).toNatClampNeg then none else (f_X5_setRole_b17 (sI D 5 (x1).toNatClampNeg x2))))
set_option maxHeartbeats 4000000 in
theorem w_X5_setRole {X : Cx} {n nu c u : Nat} {K : Nat → Nat} {z : Dat} (O : Ok X cX5_setRole RX5 none 0 0) (hm : wlm (xw X) = true) (hn : xn X = 3) (hz : Z0 X (Ax nu K c u)) (x1 : Int32) (x2 : Int32) (D : Dat) (h : f_X5_setRole x1 x2 D = some z) : V X (Q0 X n (Ax nu K c u) none z) n (Ax nu K c u) D 0 [(0, .ref (bo X + pp 3)), (1, .int x1), (2, .int x2)] [] := by
  unfold f_X5_setRole at h
  refine v_iload_n (pc := 0) O dX5_setRole_0 1 rfl ?_
  refine v_iflt (pc := 1) 17 O dX5_setRole_1 (by decide) (fun c1 => ?_) (fun c1 => ?_)
  · have h := (if_pos c1).symm.trans h
    refine v_sub [] rfl ?_
    exact w_X5_setRole_b17 O hm hn hz D h
  · have h := (if_neg c1).symm.trans h
    refine v_iload_n (pc := 4) O dX5_setRole_4 1 rfl ?_
    refine v_bipush (pc := 5) O dX5_setRole_5 bp_26 ?_
    refine v_icmpge (pc := 7) 17 O dX5_setRole_7 (by decide) (fun c2 => ?_) (fun c2 => ?_)
    · have h := (if_pos c2).symm.trans h
      refine v_sub [] rfl ?_
      exact w_X5_setRole_b17 O hm hn hz D h
    · have h := (if_neg c2).symm.trans h
      refine v_aload_n (pc := 10) O dX5_setRole_10 0 rfl ?_
      refine v_getK (pc := 11) (a := 3) O hm gf_X5_3 fl_X5_25 kq_3 lk_3_3 dX5_setRole_11 ?_
      refine v_iload_n (pc := 14) O dX5_setRole_14 1 rfl ?_
      refine v_iload_n (pc := 15) O dX5_setRole_15 2 rfl ?_
      obtain ⟨c3, h⟩ := or_none h
      refine v_iast (pc := 16) (a := 5) O kq_5 (inq lq_5 c3) dX5_setRole_16 ?_
      refine v_sub [] rfl ?_
      exact w_X5_setRole_b17 O hm hn hz (sI D 5 (x1).toNatClampNeg x2) h
theorem c_X5_setRole {l : Launch} {w : Wx} {n nu c u : Nat} {K : Nat → Nat} (hm : wlm w = true) {x1 : Int32} {x2 : Int32} {D : Dat} {z : Dat} (h : f_X5_setRole x1 x2 D = some z) : C0 l w yX5_setRole cX5_setRole 3 none 0 0 [.ref (wb w + pp 3), .int x1, .int x2] n (Ax nu K c u) D none z :=
  C0.of (by decide) (Nat.le_of_ble_eq_true rfl) (fun X e1 e2 e3 hz O => by
  subst e1
  subst e2
  exact w_X5_setRole O hm e3 hz x1 x2 D h)
def f_X5_takeNewName (nu : Nat) (x1 : Int32) (S : Sr) (D : Dat) : Option (Sum Nat Int32 × Sr × Dat) :=
  (f_X5_roleHere D).bind (fun p1 => if p1.1 = 0 then ((f_X5_setRole (dI p1.2 3 9) x1 p1.2).bind (fun p4 => (f_X5_goTo ((dI p4 3 8) + (1 : Int32)) p4).bind (fun p6 => some (.inr (dI p1.2 3 9), S, p6)))) else (if 1 ≤ S.2.2.1 ∧ 6 ≤ S.2.2.2 then some (.inl 4, (S.1, S.2.1, S.2.2.1 - 1, S.2.2.2 - 6), p1.2) else none))
set_option maxHeartbeats 4000000 in
theorem w_X5_takeNewName {X : Cx} {nu : Nat} {z : Sum Nat Int32 × Sr × Dat} (O : Ok X cX5_takeNewName RX5 (some .int) 6 100) (hm : wlm (xw X) = true) (hn : xn X = 3) (hT : T2 X) (x1 : Int32) (S : Sr) (D : Dat) (h : f_X5_takeNewName nu x1 S D = some z) : V X (Q2 X nu (ri z)) S.1 (Az nu S) D 0 [(0, .ref (bo X + pp 3)), (1, .int x1)] [] := by
  unfold f_X5_takeNewName at h
  refine v_aload_n (pc := 0) O dX5_takeNewName_0 0 rfl ?_
  obtain ⟨p1, e2, h⟩ := bind_some h
  refine v_callV (pc := 1) (a := 3) (As := []) (rest := []) (r := (some (.int p1.1))) (D' := p1.2) O (bb2 hT) (c_X5_roleHere hm e2) mw_X5_roleHere im_X5_roleHere se_X5_roleHere ml_X5_230 kq_3 (by decide) rfl rfl rfl (by decide) (by decide) (Nat.le_of_ble_eq_true rfl) dX5_takeNewName_1 rfl rfl ?_
  refine v_ifeq (pc := 4) 15 O dX5_takeNewName_4 (by decide) (fun c3 => ?_) (fun c3 => ?_)
  · have h := (if_pos c3).symm.trans h
    refine v_aload_n (pc := 15) O dX5_takeNewName_15 0 rfl ?_
    refine v_getI (pc := 16) (a := 3) O gf_X5_9 fl_X5_156 kq_3 dX5_takeNewName_16 ?_
    refine v_istore_n (pc := 19) (lv' := [(2, .int (dI p1.2 3 9)), (0, .ref (bo X + pp 3)), (1, .int x1)]) O dX5_takeNewName_19 rfl (by rw [hn]; decide) rfl ?_
    refine v_aload_n (pc := 20) O dX5_takeNewName_20 1 rfl ?_
    refine v_iload_n (pc := 21) O dX5_takeNewName_21 0 rfl ?_
    refine v_iload_n (pc := 22) O dX5_takeNewName_22 2 rfl ?_
    obtain ⟨p4, e5, h⟩ := bind_some h
    refine v_callV (pc := 23) (a := 3) (As := [.int (dI p1.2 3 9), .int x1]) (rest := []) (r := none) (D' := p4) O (bb2 hT) (c_X5_setRole hm e5) mw_X5_setRole im_X5_setRole se_X5_setRole ml_X5_170 kq_3 (by decide) rfl rfl rfl (by decide) (by decide) (Nat.le_of_ble_eq_true rfl) dX5_takeNewName_23 rfl rfl ?_
    refine v_aload_n (pc := 26) O dX5_takeNewName_26 1 rfl ?_
    refine v_aload_n (pc := 27) O dX5_takeNewName_27 1 rfl ?_
    refine v_getI (pc := 28) (a := 3) O gf_X5_8 fl_X5_153 kq_3 dX5_takeNewName_28 ?_
    refine v_iconst (pc := 31) O dX5_takeNewName_31 ic_1 ?_
    refine v_iadd (pc := 32) O dX5_takeNewName_32 ?_
    obtain ⟨p6, e7, h⟩ := bind_some h
    refine v_callV (pc := 33) (a := 3) (As := [.int ((dI p4 3 8) + (1 : Int32))]) (rest := []) (r := none) (D' := p6) O (bb2 hT) (c_X5_goTo hm e7) mw_X5_goTo im_X5_goTo se_X5_goTo ml_X5_66 kq_3 (by decide) rfl rfl rfl (by decide) (by decide) (Nat.le_of_ble_eq_true rfl) dX5_takeNewName_33 rfl rfl ?_
    refine v_iload_n (pc := 36) O dX5_takeNewName_36 0 rfl ?_
    obtain rfl := Option.some.inj h
    exact v_iret2 (pc := 37) O dX5_takeNewName_37
  · have h := (if_neg c3).symm.trans h
    obtain ⟨c8, h⟩ := if_none h
    obtain rfl := Option.some.inj h
    exact v_throw2 (pc := 7) (e := 4) O hT c8 rfl tw_X5_255_257 (by decide) (Nat.le_of_ble_eq_true rfl) dX5_takeNewName_7 dX5_takeNewName_10 dX5_takeNewName_11 dX5_takeNewName_14
theorem c_X5_takeNewName {l : Launch} {w : Wx} {nu : Nat} (hl : l.stackTraces = false) (hm : wlm w = true) {x1 : Int32} {S : Sr} {D : Dat} {z : Sum Nat Int32 × Sr × Dat} (h : f_X5_takeNewName nu x1 S D = some z) : C2 l w yX5_takeNewName cX5_takeNewName 3 (some .int) 6 100 [.ref (wb w + pp 3), .int x1] nu S D (ri z) :=
  C2.of hl (by decide) (Nat.le_of_ble_eq_true rfl) (fun X e1 e2 e3 hT O _ _ => by
  subst e1
  subst e2
  exact w_X5_takeNewName O hm e3 hT x1 S D h)
def f_X5_takeName_b21 (nu : Nat) (x1 : Int32) (S : Sr) (D : Dat) : Option (Sum Nat Int32 × Sr × Dat) :=
  (f_X5_roleHere D).bind (fun p1 => if p1.1 = x1 then ((f_X5_goTo ((dI p1.2 3 8) + (1 : Int32)) p1.2).bind (fun p4 => some (.inr (dI p1.2 3 9), S, p4))) else (if 1 ≤ S.2.2.1 ∧ 6 ≤ S.2.2.2 then some (.inl 4, (S.1, S.2.1, S.2.2.1 - 1, S.2.2.2 - 6), p1.2) else none))
set_option maxHeartbeats 4000000 in
theorem w_X5_takeName_b21 {X : Cx} {nu : Nat} {z : Sum Nat Int32 × Sr × Dat} (O : Ok X cX5_takeName RX5 (some .int) 6 100) (hm : wlm (xw X) = true) (hn : xn X = 3) (hT : T2 X) (x1 : Int32) (S : Sr) (D : Dat) (h : f_X5_takeName_b21 nu x1 S D = some z) : V X (Q2 X nu (ri z)) S.1 (Az nu S) D 21 [(0, .ref (bo X + pp 3)), (1, .int x1)] [] := by
  unfold f_X5_takeName_b21 at h
  refine v_aload_n (pc := 21) O dX5_takeName_21 0 rfl ?_
  obtain ⟨p1, e2, h⟩ := bind_some h
  refine v_callV (pc := 22) (a := 3) (As := []) (rest := []) (r := (some (.int p1.1))) (D' := p1.2) O (bb2 hT) (c_X5_roleHere hm e2) mw_X5_roleHere im_X5_roleHere se_X5_roleHere ml_X5_230 kq_3 (by decide) rfl rfl rfl (by decide) (by decide) (Nat.le_of_ble_eq_true rfl) dX5_takeName_22 rfl rfl ?_
  refine v_iload_n (pc := 25) O dX5_takeName_25 1 rfl ?_
  refine v_icmpeq (pc := 26) 37 O dX5_takeName_26 (by decide) (fun c3 => ?_) (fun c3 => ?_)
  · have h := (if_pos c3).symm.trans h
    refine v_aload_n (pc := 37) O dX5_takeName_37 0 rfl ?_
    refine v_getI (pc := 38) (a := 3) O gf_X5_9 fl_X5_156 kq_3 dX5_takeName_38 ?_
    refine v_istore_n (pc := 41) (lv' := [(2, .int (dI p1.2 3 9)), (0, .ref (bo X + pp 3)), (1, .int x1)]) O dX5_takeName_41 rfl (by rw [hn]; decide) rfl ?_
    refine v_aload_n (pc := 42) O dX5_takeName_42 1 rfl ?_
    refine v_aload_n (pc := 43) O dX5_takeName_43 1 rfl ?_
    refine v_getI (pc := 44) (a := 3) O gf_X5_8 fl_X5_153 kq_3 dX5_takeName_44 ?_
    refine v_iconst (pc := 47) O dX5_takeName_47 ic_1 ?_
    refine v_iadd (pc := 48) O dX5_takeName_48 ?_
    obtain ⟨p4, e5, h⟩ := bind_some h
    refine v_callV (pc := 49) (a := 3) (As := [.int ((dI p1.2 3 8) + (1 : Int32))]) (rest := []) (r := none) (D' := p4) O (bb2 hT) (c_X5_goTo hm e5) mw_X5_goTo im_X5_goTo se_X5_goTo ml_X5_66 kq_3 (by decide) rfl rfl rfl (by decide) (by decide) (Nat.le_of_ble_eq_true rfl) dX5_takeName_49 rfl rfl ?_
    refine v_iload_n (pc := 52) O dX5_takeName_52 0 rfl ?_
    obtain rfl := Option.some.inj h
    exact v_iret2 (pc := 53) O dX5_takeName_53
  · have h := (if_neg c3).symm.trans h
    obtain ⟨c6, h⟩ := if_none h
    obtain rfl := Option.some.inj h
    exact v_throw2 (pc := 29) (e := 4) O hT c6 rfl tw_X5_255_257 (by decide) (Nat.le_of_ble_eq_true rfl) dX5_takeName_29 dX5_takeName_32 dX5_takeName_33 dX5_takeName_36
def f_X5_takeName (nu : Nat) (x1 : Int32) (S : Sr) (D : Dat) : Option (Sum Nat Int32 × Sr × Dat) :=
  if x1 = 1 then ((f_X5_roleHere D).bind (fun p8 => if p8.1 = 0 then ((f_X5_setRole (dI p8.2 3 9) 1 p8.2).bind (fun p11 => f_X5_takeName_b21 nu x1 S p11)) else (f_X5_takeName_b21 nu x1 S p8.2))) else (f_X5_takeName_b21 nu x1 S D)
set_option maxHeartbeats 4000000 in
theorem w_X5_takeName {X : Cx} {nu : Nat} {z : Sum Nat Int32 × Sr × Dat} (O : Ok X cX5_takeName RX5 (some .int) 6 100) (hm : wlm (xw X) = true) (hn : xn X = 3) (hT : T2 X) (x1 : Int32) (S : Sr) (D : Dat) (h : f_X5_takeName nu x1 S D = some z) : V X (Q2 X nu (ri z)) S.1 (Az nu S) D 0 [(0, .ref (bo X + pp 3)), (1, .int x1)] [] := by
  unfold f_X5_takeName at h
  refine v_iload_n (pc := 0) O dX5_takeName_0 1 rfl ?_
  refine v_iconst (pc := 1) O dX5_takeName_1 ic_1 ?_
  refine v_icmpne (pc := 2) 21 O dX5_takeName_2 (by decide) (fun c7 => ?_) (fun c7 => ?_)
  · have h := (if_neg c7).symm.trans h
    refine v_sub [0, 1] rfl ?_
    exact w_X5_takeName_b21 O hm hn hT x1 S D h
  · have h := (if_pos c7).symm.trans h
    refine v_aload_n (pc := 5) O dX5_takeName_5 0 rfl ?_
    obtain ⟨p8, e9, h⟩ := bind_some h
    refine v_callV (pc := 6) (a := 3) (As := []) (rest := []) (r := (some (.int p8.1))) (D' := p8.2) O (bb2 hT) (c_X5_roleHere hm e9) mw_X5_roleHere im_X5_roleHere se_X5_roleHere ml_X5_230 kq_3 (by decide) rfl rfl rfl (by decide) (by decide) (Nat.le_of_ble_eq_true rfl) dX5_takeName_6 rfl rfl ?_
    refine v_ifne (pc := 9) 21 O dX5_takeName_9 (by decide) (fun c10 => ?_) (fun c10 => ?_)
    · have h := (if_neg c10).symm.trans h
      refine v_sub [0, 1] rfl ?_
      exact w_X5_takeName_b21 O hm hn hT x1 S p8.2 h
    · have h := (if_pos c10).symm.trans h
      refine v_aload_n (pc := 12) O dX5_takeName_12 0 rfl ?_
      refine v_aload_n (pc := 13) O dX5_takeName_13 0 rfl ?_
      refine v_getI (pc := 14) (a := 3) O gf_X5_9 fl_X5_156 kq_3 dX5_takeName_14 ?_
      refine v_iconst (pc := 17) O dX5_takeName_17 ic_1 ?_
      obtain ⟨p11, e12, h⟩ := bind_some h
      refine v_callV (pc := 18) (a := 3) (As := [.int (dI p8.2 3 9), .int 1]) (rest := []) (r := none) (D' := p11) O (bb2 hT) (c_X5_setRole hm e12) mw_X5_setRole im_X5_setRole se_X5_setRole ml_X5_170 kq_3 (by decide) rfl rfl rfl (by decide) (by decide) (Nat.le_of_ble_eq_true rfl) dX5_takeName_18 rfl rfl ?_
      refine v_sub [0, 1] rfl ?_
      exact w_X5_takeName_b21 O hm hn hT x1 S p11 h
theorem c_X5_takeName {l : Launch} {w : Wx} {nu : Nat} (hl : l.stackTraces = false) (hm : wlm w = true) {x1 : Int32} {S : Sr} {D : Dat} {z : Sum Nat Int32 × Sr × Dat} (h : f_X5_takeName nu x1 S D = some z) : C2 l w yX5_takeName cX5_takeName 3 (some .int) 6 100 [.ref (wb w + pp 3), .int x1] nu S D (ri z) :=
  C2.of hl (by decide) (Nat.le_of_ble_eq_true rfl) (fun X e1 e2 e3 hT O _ _ => by
  subst e1
  subst e2
  exact w_X5_takeName O hm e3 hT x1 S D h)
def f_X8_emit_b17 (x1 : Int32) (x2 : Int32) (D : Dat) : Option (Dat) :=
  ((dR D 106 1)).bind (fun a1 => if a1 = 201 ∨ a1 = 204 then ((f_X0_add a1 x1 x2 D).bind (fun p4 => some p4)) else none)
set_option maxHeartbeats 4000000 in
theorem w_X8_emit_b17 {X : Cx} {n nu c u : Nat} {K : Nat → Nat} {z : Dat} (O : Ok X cX8_emit RX8 none 1 22) (hm : wlm (xw X) = true) (hn : xn X = 3) (hz : Z0 X (Ax nu K c u)) (x1 : Int32) (x2 : Int32) (D : Dat) (h : f_X8_emit_b17 x1 x2 D = some z) : V X (Q0 X n (Ax nu K c u) none z) n (Ax nu K c u) D 17 [(0, .ref (bo X + pp 106)), (1, .int x1), (2, .int x2)] [] := by
  unfold f_X8_emit_b17 at h
  refine v_aload_n (pc := 17) O dX8_emit_17 0 rfl ?_
  refine v_getR (pc := 18) (a := 106) O gf_X8_1 fl_X8_15 kq_106 dX8_emit_18 ?_
  refine v_iload_n (pc := 21) O dX8_emit_21 1 rfl ?_
  refine v_iload_n (pc := 22) O dX8_emit_22 2 rfl ?_
  obtain ⟨a1, e2, h⟩ := bind_some h
  rw [e2]
  obtain ⟨c3, h⟩ := if_none h
  obtain ⟨p4, e5, h⟩ := bind_some h
  refine v_callV (pc := 23) (a := a1) (As := [.int x1, .int x2]) (rest := []) (r := none) (D' := p4) O (bb0 hz) (c_X0_add hm c3 e5) mw_X0_add im_X0_add se_X0_add ml_X8_103 (kt_X0 c3) (by decide) rfl rfl rfl (by decide) (by decide) (Nat.le_of_ble_eq_true rfl) dX8_emit_23 rfl rfl ?_
  obtain rfl := Option.some.inj h
  exact v_ret (pc := 26) O hz dX8_emit_26
def f_X8_emit (x1 : Int32) (x2 : Int32) (D : Dat) : Option (Dat) :=
  ((dR D 106 1)).bind (fun a6 => if a6 = 201 ∨ a6 = 204 then ((f_X0_size a6 D).bind (fun p9 => if p9.1 < 64 then (f_X8_emit_b17 x1 x2 p9.2) else (f_X8_emit_b17 x1 x2 (sI p9.2 106 2 1)))) else none)
set_option maxHeartbeats 4000000 in
theorem w_X8_emit {X : Cx} {n nu c u : Nat} {K : Nat → Nat} {z : Dat} (O : Ok X cX8_emit RX8 none 1 22) (hm : wlm (xw X) = true) (hn : xn X = 3) (hz : Z0 X (Ax nu K c u)) (x1 : Int32) (x2 : Int32) (D : Dat) (h : f_X8_emit x1 x2 D = some z) : V X (Q0 X n (Ax nu K c u) none z) n (Ax nu K c u) D 0 [(0, .ref (bo X + pp 106)), (1, .int x1), (2, .int x2)] [] := by
  unfold f_X8_emit at h
  refine v_aload_n (pc := 0) O dX8_emit_0 0 rfl ?_
  refine v_getR (pc := 1) (a := 106) O gf_X8_1 fl_X8_15 kq_106 dX8_emit_1 ?_
  obtain ⟨a6, e7, h⟩ := bind_some h
  rw [e7]
  obtain ⟨c8, h⟩ := if_none h
  obtain ⟨p9, e10, h⟩ := bind_some h
  refine v_callV (pc := 4) (a := a6) (As := []) (rest := []) (r := (some (.int p9.1))) (D' := p9.2) O (bb0 hz) (c_X0_size hm c8 e10) mw_X0_size im_X0_size se_X0_size ml_X8_74 (kt_X0 c8) (by decide) rfl rfl rfl (by decide) (by decide) (Nat.le_of_ble_eq_true rfl) dX8_emit_4 rfl rfl ?_
  refine v_bipush (pc := 7) O dX8_emit_7 bp_64 ?_
  refine v_icmplt (pc := 9) 17 O dX8_emit_9 (by decide) (fun c11 => ?_) (fun c11 => ?_)
  · have h := (if_pos c11).symm.trans h
    refine v_sub [0, 1, 2] rfl ?_
    exact w_X8_emit_b17 O hm hn hz x1 x2 p9.2 h
  · have h := (if_neg c11).symm.trans h
    refine v_aload_n (pc := 12) O dX8_emit_12 0 rfl ?_
    refine v_iconst (pc := 13) O dX8_emit_13 ic_1 ?_
    refine v_putZ (pc := 14) (a := 106) O pf_X8_2 fl_X8_24 kq_106 narrow_b1 dX8_emit_14 ?_
    refine v_sub [0, 1, 2] rfl ?_
    exact w_X8_emit_b17 O hm hn hz x1 x2 (sI p9.2 106 2 1) h
theorem c_X8_emit {l : Launch} {w : Wx} {n nu c u : Nat} {K : Nat → Nat} (hm : wlm w = true) {x1 : Int32} {x2 : Int32} {D : Dat} {z : Dat} (h : f_X8_emit x1 x2 D = some z) : C0 l w yX8_emit cX8_emit 3 none 1 22 [.ref (wb w + pp 106), .int x1, .int x2] n (Ax nu K c u) D none z :=
  C0.of (by decide) (Nat.le_of_ble_eq_true rfl) (fun X e1 e2 e3 hz O => by
  subst e1
  subst e2
  exact w_X8_emit O hm e3 hz x1 x2 D h)
def f_X5_readIndex (rec : Sr → Dat → Option (Sum Nat Int32 × Sr × Dat)) (nu : Nat) (S : Sr) (D : Dat) : Option (Sum Nat Unit × Sr × Dat) :=
  sb2 (f_X5_openWith nu 91 S D) (fun p1 S3 D3 => sb2 (rec S3 D3) (fun p4 S6 D6 => sb2 (f_X5_closeWith nu 93 S6 D6) (fun p7 S9 D9 => some (.inr (), S9, D9))))
set_option maxHeartbeats 4000000 in
theorem w_X5_readIndex {X : Cx} {nu : Nat} {rec : Sr → Dat → Option (Sum Nat Int32 × Sr × Dat)} {fr lc : Nat} {z : Sum Nat Unit × Sr × Dat} (O : Ok X cX5_readIndex RX5 none (fr + 7) (lc + 121)) (hm : wlm (xw X) = true) (hn : xn X = 1) (hT : T2 X) (hR : ∀ {S : Sr} {D : Dat} {z : Sum Nat Int32 × Sr × Dat}, rec  S D = some z → C2 (xl X) (xw X) yX5_readExpression cX5_readExpression 2 (some .int) fr lc [.ref (wb (xw X) + pp 3)] nu S D (ri z)) (S : Sr) (D : Dat) (h : f_X5_readIndex rec nu S D = some z) : V X (Q2 X nu (ru z)) S.1 (Az nu S) D 0 [(0, .ref (bo X + pp 3))] [] := by
  unfold f_X5_readIndex at h
  refine v_aload_n (pc := 0) O dX5_readIndex_0 0 rfl ?_
  refine v_bipush (pc := 1) O dX5_readIndex_1 bp_91 ?_
  rcases sb2_some h with ⟨p1, S3, D3, e2, rfl⟩ | ⟨p1, S3, D3, e2, h⟩
  · exact v_call2X (pc := 3) (a := 3) (As := [.int 91]) (rest := []) (e := p1) (S' := S3) (D' := D3) O hT (c_X5_openWith (nu := nu) hT.2.1 hm e2 :) mw_X5_openWith im_X5_openWith se_X5_openWith ml_X5_182 kq_3 (by decide) rfl rfl rfl (by omega) (by omega) (Nat.le_of_ble_eq_true rfl) dX5_readIndex_3 rfl
  · refine v_call2 (pc := 3) (a := 3) (As := [.int 91]) (rest := []) (r := none) (S' := S3) (D' := D3) O hT (c_X5_openWith (nu := nu) hT.2.1 hm e2 :) mw_X5_openWith im_X5_openWith se_X5_openWith ml_X5_182 kq_3 (by decide) rfl rfl rfl (by omega) (by omega) (Nat.le_of_ble_eq_true rfl) dX5_readIndex_3 rfl rfl ?_
    refine v_aload_n (pc := 6) O dX5_readIndex_6 0 rfl ?_
    rcases sb2_some h with ⟨p4, S6, D6, e5, rfl⟩ | ⟨p4, S6, D6, e5, h⟩
    · exact v_call2X (pc := 7) (a := 3) (As := []) (rest := []) (e := p4) (S' := S6) (D' := D6) O hT (hR e5 :) mw_X5_readExpression im_X5_readExpression se_X5_readExpression ml_X5_221 kq_3 (by decide) rfl rfl rfl (by omega) (by omega) (Nat.le_of_ble_eq_true rfl) dX5_readIndex_7 rfl
    · refine v_call2 (pc := 7) (a := 3) (As := []) (rest := []) (r := (some (.int p4))) (S' := S6) (D' := D6) O hT (hR e5 :) mw_X5_readExpression im_X5_readExpression se_X5_readExpression ml_X5_221 kq_3 (by decide) rfl rfl rfl (by omega) (by omega) (Nat.le_of_ble_eq_true rfl) dX5_readIndex_7 rfl rfl ?_
      refine v_pop (pc := 10) O dX5_readIndex_10 rfl ?_
      refine v_aload_n (pc := 11) O dX5_readIndex_11 0 rfl ?_
      refine v_bipush (pc := 12) O dX5_readIndex_12 bp_93 ?_
      rcases sb2_some h with ⟨p7, S9, D9, e8, rfl⟩ | ⟨p7, S9, D9, e8, h⟩
      · exact v_call2X (pc := 14) (a := 3) (As := [.int 93]) (rest := []) (e := p7) (S' := S9) (D' := D9) O hT (c_X5_closeWith (nu := nu) hT.2.1 hm e8 :) mw_X5_closeWith im_X5_closeWith se_X5_closeWith ml_X5_185 kq_3 (by decide) rfl rfl rfl (by omega) (by omega) (Nat.le_of_ble_eq_true rfl) dX5_readIndex_14 rfl
      · refine v_call2 (pc := 14) (a := 3) (As := [.int 93]) (rest := []) (r := none) (S' := S9) (D' := D9) O hT (c_X5_closeWith (nu := nu) hT.2.1 hm e8 :) mw_X5_closeWith im_X5_closeWith se_X5_closeWith ml_X5_185 kq_3 (by decide) rfl rfl rfl (by omega) (by omega) (Nat.le_of_ble_eq_true rfl) dX5_readIndex_14 rfl rfl ?_
        obtain rfl := Option.some.inj h
        exact v_vret2 (pc := 17) O dX5_readIndex_17
theorem c_X5_readIndex {l : Launch} {w : Wx} {nu : Nat} {rec : Sr → Dat → Option (Sum Nat Int32 × Sr × Dat)} {fr lc : Nat} (hl : l.stackTraces = false) (hm : wlm w = true) (hR : ∀ {S : Sr} {D : Dat} {z : Sum Nat Int32 × Sr × Dat}, rec  S D = some z → C2 l w yX5_readExpression cX5_readExpression 2 (some .int) fr lc [.ref (wb w + pp 3)] nu S D (ri z)) {S : Sr} {D : Dat} {z : Sum Nat Unit × Sr × Dat} (h : f_X5_readIndex rec nu S D = some z) : C2 l w yX5_readIndex cX5_readIndex 1 none (fr + 7) (lc + 121) [.ref (wb w + pp 3)] nu S D (ru z) :=
  C2.of hl (by decide) (Nat.le_of_ble_eq_true rfl) (fun X e1 e2 e3 hT O _ _ => by
  subst e1
  subst e2
  exact w_X5_readIndex O hm e3 hT hR  S D h)
def f_X5_readFactor_b105 (rec : Sr → Dat → Option (Sum Nat Int32 × Sr × Dat)) (nu : Nat) (S : Sr) (D : Dat) : Option (Sum Nat Unit × Sr × Dat) :=
  some (.inr (), S, D)
set_option maxHeartbeats 4000000 in
theorem w_X5_readFactor_b105 {X : Cx} {nu : Nat} {rec : Sr → Dat → Option (Sum Nat Int32 × Sr × Dat)} {fr lc : Nat} {z : Sum Nat Unit × Sr × Dat} (O : Ok X cX5_readFactor RX5 none (fr + 8) (lc + 141)) (hm : wlm (xw X) = true) (hn : xn X = 2) (hT : T2 X) (hR : ∀ {S : Sr} {D : Dat} {z : Sum Nat Int32 × Sr × Dat}, rec  S D = some z → C2 (xl X) (xw X) yX5_readExpression cX5_readExpression 2 (some .int) fr lc [.ref (wb (xw X) + pp 3)] nu S D (ri z)) (S : Sr) (D : Dat) (h : f_X5_readFactor_b105 rec nu S D = some z) : V X (Q2 X nu (ru z)) S.1 (Az nu S) D 105 [] [] := by
  unfold f_X5_readFactor_b105 at h
  obtain rfl := Option.some.inj h
  exact v_vret2 (pc := 105) O dX5_readFactor_105
def f_X5_readFactor (rec : Sr → Dat → Option (Sum Nat Int32 × Sr × Dat)) (nu : Nat) (S : Sr) (D : Dat) : Option (Sum Nat Unit × Sr × Dat) :=
  if (dI D 3 6) = 2 then (((dR D 3 4)).bind (fun a34 => if a34 = 191 ∨ a34 = 196 then ((f_X4_add a34 0 (dI D 3 9) D).bind (fun p37 => (f_X5_goTo ((dI p37 3 8) + (1 : Int32)) p37).bind (fun p39 => f_X5_readFactor_b105 rec nu S p39))) else none)) else (if (dI D 3 6) = 40 then (sb2 (f_X5_openWith nu 40 S D) (fun p25 S27 D27 => sb2 (rec S27 D27) (fun p28 S30 D30 => sb2 (f_X5_closeWith nu 41 S30 D30) (fun p31 S33 D33 => f_X5_readFactor_b105 rec nu S33 D33)))) else ((f_X5_roleHere D).bind (fun p3 => if p3.1 = 2 then (sb2 (f_X5_takeName nu 2 S p3.2) (fun p14 S16 D16 => sb2 (f_X5_readIndex rec nu S16 D16) (fun p17 S19 D19 => ((dR D19 3 4)).bind (fun a20 => if a20 = 191 ∨ a20 = 196 then ((f_X4_add a20 3 p14 D19).bind (fun p23 => f_X5_readFactor_b105 rec nu S19 p23)) else none)))) else (sb2 (f_X5_takeName nu 1 S p3.2) (fun p6 S8 D8 => ((dR p3.2 3 4)).bind (fun a9 => if a9 = 191 ∨ a9 = 196 then ((f_X4_add a9 1 p6 D8).bind (fun p12 => f_X5_readFactor_b105 rec nu S8 p12)) else none))))))
set_option maxHeartbeats 4000000 in
theorem w_X5_readFactor {X : Cx} {nu : Nat} {rec : Sr → Dat → Option (Sum Nat Int32 × Sr × Dat)} {fr lc : Nat} {z : Sum Nat Unit × Sr × Dat} (O : Ok X cX5_readFactor RX5 none (fr + 8) (lc + 141)) (hm : wlm (xw X) = true) (hn : xn X = 2) (hT : T2 X) (hR : ∀ {S : Sr} {D : Dat} {z : Sum Nat Int32 × Sr × Dat}, rec  S D = some z → C2 (xl X) (xw X) yX5_readExpression cX5_readExpression 2 (some .int) fr lc [.ref (wb (xw X) + pp 3)] nu S D (ri z)) (S : Sr) (D : Dat) (h : f_X5_readFactor rec nu S D = some z) : V X (Q2 X nu (ru z)) S.1 (Az nu S) D 0 [(0, .ref (bo X + pp 3))] [] := by
  unfold f_X5_readFactor at h
  refine v_aload_n (pc := 0) O dX5_readFactor_0 0 rfl ?_
  refine v_getI (pc := 1) (a := 3) O gf_X5_6 fl_X5_70 kq_3 dX5_readFactor_1 ?_
  refine v_iconst (pc := 4) O dX5_readFactor_4 ic_2 ?_
  refine v_icmpne (pc := 5) 33 O dX5_readFactor_5 (by decide) (fun c1 => ?_) (fun c1 => ?_)
  · have h := (if_neg c1).symm.trans h
    refine v_aload_n (pc := 33) O dX5_readFactor_33 0 rfl ?_
    refine v_getI (pc := 34) (a := 3) O gf_X5_6 fl_X5_70 kq_3 dX5_readFactor_34 ?_
    refine v_bipush (pc := 37) O dX5_readFactor_37 bp_40 ?_
    refine v_icmpne (pc := 39) 62 O dX5_readFactor_39 (by decide) (fun c2 => ?_) (fun c2 => ?_)
    · have h := (if_neg c2).symm.trans h
      refine v_aload_n (pc := 62) O dX5_readFactor_62 0 rfl ?_
      obtain ⟨p3, e4, h⟩ := bind_some h
      refine v_callV (pc := 63) (a := 3) (As := []) (rest := []) (r := (some (.int p3.1))) (D' := p3.2) O (bb2 hT) (c_X5_roleHere hm e4) mw_X5_roleHere im_X5_roleHere se_X5_roleHere ml_X5_230 kq_3 (by decide) rfl rfl rfl (by omega) (by omega) (Nat.le_of_ble_eq_true rfl) dX5_readFactor_63 rfl rfl ?_
      refine v_iconst (pc := 66) O dX5_readFactor_66 ic_2 ?_
      refine v_icmpne (pc := 67) 92 O dX5_readFactor_67 (by decide) (fun c5 => ?_) (fun c5 => ?_)
      · have h := (if_neg c5).symm.trans h
        refine v_aload_n (pc := 92) O dX5_readFactor_92 0 rfl ?_
        refine v_getR (pc := 93) (a := 3) O gf_X5_4 fl_X5_45 kq_3 dX5_readFactor_93 ?_
        refine v_iconst (pc := 96) O dX5_readFactor_96 ic_1 ?_
        refine v_aload_n (pc := 97) O dX5_readFactor_97 0 rfl ?_
        refine v_iconst (pc := 98) O dX5_readFactor_98 ic_1 ?_
        rcases sb2_some h with ⟨p6, S8, D8, e7, rfl⟩ | ⟨p6, S8, D8, e7, h⟩
        · exact v_call2X (pc := 99) (a := 3) (As := [.int 1]) (rest := [.int 1, rv (bo X) (dR p3.2 3 4)]) (e := p6) (S' := S8) (D' := D8) O hT (c_X5_takeName (nu := nu) hT.2.1 hm e7 :) mw_X5_takeName im_X5_takeName se_X5_takeName ml_X5_212 kq_3 (by decide) rfl rfl rfl (by omega) (by omega) (by simp [rv_cat, cat_i, cat_l, cat_r, cat_n, fmt_cat]) dX5_readFactor_99 rfl
        · refine v_call2 (pc := 99) (a := 3) (As := [.int 1]) (rest := [.int 1, rv (bo X) (dR p3.2 3 4)]) (r := (some (.int p6))) (S' := S8) (D' := D8) O hT (c_X5_takeName (nu := nu) hT.2.1 hm e7 :) mw_X5_takeName im_X5_takeName se_X5_takeName ml_X5_212 kq_3 (by decide) rfl rfl rfl (by omega) (by omega) (by simp [rv_cat, cat_i, cat_l, cat_r, cat_n, fmt_cat]) dX5_readFactor_99 rfl rfl ?_
          obtain ⟨a9, e10, h⟩ := bind_some h
          rw [e10]
          obtain ⟨c11, h⟩ := if_none h
          obtain ⟨p12, e13, h⟩ := bind_some h
          refine v_callV (pc := 102) (a := a9) (As := [.int 1, .int p6]) (rest := []) (r := none) (D' := p12) O (bb2 hT) (c_X4_add hm c11 e13) mw_X4_add im_X4_add se_X4_add ml_X5_246 (kt_X4 c11) (by decide) rfl rfl rfl (by omega) (by omega) (Nat.le_of_ble_eq_true rfl) dX5_readFactor_102 rfl rfl ?_
          refine v_sub [] rfl ?_
          exact w_X5_readFactor_b105 O hm hn hT hR S8 p12 h
      · have h := (if_pos c5).symm.trans h
        refine v_aload_n (pc := 70) O dX5_readFactor_70 0 rfl ?_
        refine v_iconst (pc := 71) O dX5_readFactor_71 ic_2 ?_
        rcases sb2_some h with ⟨p14, S16, D16, e15, rfl⟩ | ⟨p14, S16, D16, e15, h⟩
        · exact v_call2X (pc := 72) (a := 3) (As := [.int 2]) (rest := []) (e := p14) (S' := S16) (D' := D16) O hT (c_X5_takeName (nu := nu) hT.2.1 hm e15 :) mw_X5_takeName im_X5_takeName se_X5_takeName ml_X5_212 kq_3 (by decide) rfl rfl rfl (by omega) (by omega) (Nat.le_of_ble_eq_true rfl) dX5_readFactor_72 rfl
        · refine v_call2 (pc := 72) (a := 3) (As := [.int 2]) (rest := []) (r := (some (.int p14))) (S' := S16) (D' := D16) O hT (c_X5_takeName (nu := nu) hT.2.1 hm e15 :) mw_X5_takeName im_X5_takeName se_X5_takeName ml_X5_212 kq_3 (by decide) rfl rfl rfl (by omega) (by omega) (Nat.le_of_ble_eq_true rfl) dX5_readFactor_72 rfl rfl ?_
          refine v_istore_n (pc := 75) (lv' := [(1, .int p14), (0, .ref (bo X + pp 3))]) O dX5_readFactor_75 rfl (by rw [hn]; decide) rfl ?_
          refine v_aload_n (pc := 76) O dX5_readFactor_76 1 rfl ?_
          rcases sb2_some h with ⟨p17, S19, D19, e18, rfl⟩ | ⟨p17, S19, D19, e18, h⟩
          · exact v_call2X (pc := 77) (a := 3) (As := []) (rest := []) (e := p17) (S' := S19) (D' := D19) O hT (c_X5_readIndex (nu := nu) hT.2.1 hm hR e18 :) mw_X5_readIndex im_X5_readIndex se_X5_readIndex ml_X5_227 kq_3 (by decide) rfl rfl rfl (by omega) (by omega) (Nat.le_of_ble_eq_true rfl) dX5_readFactor_77 rfl
          · refine v_call2 (pc := 77) (a := 3) (As := []) (rest := []) (r := none) (S' := S19) (D' := D19) O hT (c_X5_readIndex (nu := nu) hT.2.1 hm hR e18 :) mw_X5_readIndex im_X5_readIndex se_X5_readIndex ml_X5_227 kq_3 (by decide) rfl rfl rfl (by omega) (by omega) (Nat.le_of_ble_eq_true rfl) dX5_readFactor_77 rfl rfl ?_
            refine v_aload_n (pc := 80) O dX5_readFactor_80 1 rfl ?_
            refine v_getR (pc := 81) (a := 3) O gf_X5_4 fl_X5_45 kq_3 dX5_readFactor_81 ?_
            refine v_iconst (pc := 84) O dX5_readFactor_84 ic_3 ?_
            refine v_iload_n (pc := 85) O dX5_readFactor_85 0 rfl ?_
            obtain ⟨a20, e21, h⟩ := bind_some h
            rw [e21]
            obtain ⟨c22, h⟩ := if_none h
            obtain ⟨p23, e24, h⟩ := bind_some h
            refine v_callV (pc := 86) (a := a20) (As := [.int 3, .int p14]) (rest := []) (r := none) (D' := p23) O (bb2 hT) (c_X4_add hm c22 e24) mw_X4_add im_X4_add se_X4_add ml_X5_246 (kt_X4 c22) (by decide) rfl rfl rfl (by omega) (by omega) (Nat.le_of_ble_eq_true rfl) dX5_readFactor_86 rfl rfl ?_
            refine v_goto (pc := 89) 105 O dX5_readFactor_89 (by decide) ?_
            refine v_sub [] rfl ?_
            exact w_X5_readFactor_b105 O hm hn hT hR S19 p23 h
    · have h := (if_pos c2).symm.trans h
      refine v_aload_n (pc := 42) O dX5_readFactor_42 0 rfl ?_
      refine v_bipush (pc := 43) O dX5_readFactor_43 bp_40 ?_
      rcases sb2_some h with ⟨p25, S27, D27, e26, rfl⟩ | ⟨p25, S27, D27, e26, h⟩
      · exact v_call2X (pc := 45) (a := 3) (As := [.int 40]) (rest := []) (e := p25) (S' := S27) (D' := D27) O hT (c_X5_openWith (nu := nu) hT.2.1 hm e26 :) mw_X5_openWith im_X5_openWith se_X5_openWith ml_X5_182 kq_3 (by decide) rfl rfl rfl (by omega) (by omega) (Nat.le_of_ble_eq_true rfl) dX5_readFactor_45 rfl
      · refine v_call2 (pc := 45) (a := 3) (As := [.int 40]) (rest := []) (r := none) (S' := S27) (D' := D27) O hT (c_X5_openWith (nu := nu) hT.2.1 hm e26 :) mw_X5_openWith im_X5_openWith se_X5_openWith ml_X5_182 kq_3 (by decide) rfl rfl rfl (by omega) (by omega) (Nat.le_of_ble_eq_true rfl) dX5_readFactor_45 rfl rfl ?_
        refine v_aload_n (pc := 48) O dX5_readFactor_48 0 rfl ?_
        rcases sb2_some h with ⟨p28, S30, D30, e29, rfl⟩ | ⟨p28, S30, D30, e29, h⟩
        · exact v_call2X (pc := 49) (a := 3) (As := []) (rest := []) (e := p28) (S' := S30) (D' := D30) O hT (hR e29 :) mw_X5_readExpression im_X5_readExpression se_X5_readExpression ml_X5_221 kq_3 (by decide) rfl rfl rfl (by omega) (by omega) (Nat.le_of_ble_eq_true rfl) dX5_readFactor_49 rfl
        · refine v_call2 (pc := 49) (a := 3) (As := []) (rest := []) (r := (some (.int p28))) (S' := S30) (D' := D30) O hT (hR e29 :) mw_X5_readExpression im_X5_readExpression se_X5_readExpression ml_X5_221 kq_3 (by decide) rfl rfl rfl (by omega) (by omega) (Nat.le_of_ble_eq_true rfl) dX5_readFactor_49 rfl rfl ?_
          refine v_pop (pc := 52) O dX5_readFactor_52 rfl ?_
          refine v_aload_n (pc := 53) O dX5_readFactor_53 0 rfl ?_
          refine v_bipush (pc := 54) O dX5_readFactor_54 bp_41 ?_
          rcases sb2_some h with ⟨p31, S33, D33, e32, rfl⟩ | ⟨p31, S33, D33, e32, h⟩
          · exact v_call2X (pc := 56) (a := 3) (As := [.int 41]) (rest := []) (e := p31) (S' := S33) (D' := D33) O hT (c_X5_closeWith (nu := nu) hT.2.1 hm e32 :) mw_X5_closeWith im_X5_closeWith se_X5_closeWith ml_X5_185 kq_3 (by decide) rfl rfl rfl (by omega) (by omega) (Nat.le_of_ble_eq_true rfl) dX5_readFactor_56 rfl
          · refine v_call2 (pc := 56) (a := 3) (As := [.int 41]) (rest := []) (r := none) (S' := S33) (D' := D33) O hT (c_X5_closeWith (nu := nu) hT.2.1 hm e32 :) mw_X5_closeWith im_X5_closeWith se_X5_closeWith ml_X5_185 kq_3 (by decide) rfl rfl rfl (by omega) (by omega) (Nat.le_of_ble_eq_true rfl) dX5_readFactor_56 rfl rfl ?_
            refine v_goto (pc := 59) 105 O dX5_readFactor_59 (by decide) ?_
            refine v_sub [] rfl ?_
            exact w_X5_readFactor_b105 O hm hn hT hR S33 D33 h
  · have h := (if_pos c1).symm.trans h
    refine v_aload_n (pc := 8) O dX5_readFactor_8 0 rfl ?_
    refine v_getR (pc := 9) (a := 3) O gf_X5_4 fl_X5_45 kq_3 dX5_readFactor_9 ?_
    refine v_iconst (pc := 12) O dX5_readFactor_12 ic_0 ?_
    refine v_aload_n (pc := 13) O dX5_readFactor_13 0 rfl ?_
    refine v_getI (pc := 14) (a := 3) O gf_X5_9 fl_X5_156 kq_3 dX5_readFactor_14 ?_
    obtain ⟨a34, e35, h⟩ := bind_some h
    rw [e35]
    obtain ⟨c36, h⟩ := if_none h
    obtain ⟨p37, e38, h⟩ := bind_some h
    refine v_callV (pc := 17) (a := a34) (As := [.int 0, .int (dI D 3 9)]) (rest := []) (r := none) (D' := p37) O (bb2 hT) (c_X4_add hm c36 e38) mw_X4_add im_X4_add se_X4_add ml_X5_246 (kt_X4 c36) (by decide) rfl rfl rfl (by omega) (by omega) (Nat.le_of_ble_eq_true rfl) dX5_readFactor_17 rfl rfl ?_
    refine v_aload_n (pc := 20) O dX5_readFactor_20 0 rfl ?_
    refine v_aload_n (pc := 21) O dX5_readFactor_21 0 rfl ?_
    refine v_getI (pc := 22) (a := 3) O gf_X5_8 fl_X5_153 kq_3 dX5_readFactor_22 ?_
    refine v_iconst (pc := 25) O dX5_readFactor_25 ic_1 ?_
    refine v_iadd (pc := 26) O dX5_readFactor_26 ?_
    obtain ⟨p39, e40, h⟩ := bind_some h
    refine v_callV (pc := 27) (a := 3) (As := [.int ((dI p37 3 8) + (1 : Int32))]) (rest := []) (r := none) (D' := p39) O (bb2 hT) (c_X5_goTo hm e40) mw_X5_goTo im_X5_goTo se_X5_goTo ml_X5_66 kq_3 (by decide) rfl rfl rfl (by omega) (by omega) (Nat.le_of_ble_eq_true rfl) dX5_readFactor_27 rfl rfl ?_
    refine v_goto (pc := 30) 105 O dX5_readFactor_30 (by decide) ?_
    refine v_sub [] rfl ?_
    exact w_X5_readFactor_b105 O hm hn hT hR S p39 h
theorem c_X5_readFactor {l : Launch} {w : Wx} {nu : Nat} {rec : Sr → Dat → Option (Sum Nat Int32 × Sr × Dat)} {fr lc : Nat} (hl : l.stackTraces = false) (hm : wlm w = true) (hR : ∀ {S : Sr} {D : Dat} {z : Sum Nat Int32 × Sr × Dat}, rec  S D = some z → C2 l w yX5_readExpression cX5_readExpression 2 (some .int) fr lc [.ref (wb w + pp 3)] nu S D (ri z)) {S : Sr} {D : Dat} {z : Sum Nat Unit × Sr × Dat} (h : f_X5_readFactor rec nu S D = some z) : C2 l w yX5_readFactor cX5_readFactor 2 none (fr + 8) (lc + 141) [.ref (wb w + pp 3)] nu S D (ru z) :=
  C2.of hl (by decide) (Nat.le_of_ble_eq_true rfl) (fun X e1 e2 e3 hT O _ _ => by
  subst e1
  subst e2
  exact w_X5_readFactor O hm e3 hT hR  S D h)
