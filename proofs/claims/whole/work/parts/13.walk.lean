theorem bp_91 : (Int8.ofInt (91)).toInt32 = (91 : Int32) := by decide
theorem fl_X12_253 : Cond.fieldLink RX12 253 RX12 (TX12 40).2.1 (TX12 40).2.2.1 ∈ tb := tb_of 1760 (by decide +kernel) (by decide +kernel)
theorem gf_X12_40 : FI 12 RX12 TX12 85 tyX12 40 0 := ⟨rfl, inb_X12, tyX12_ok, nmX12, by decide, by decide, rfl, rfl, rfl⟩
theorem pf_X12_40 : PI 12 RX12 TX12 85 tyX12 40 0 .int := ⟨gf_X12_40, rfl, rfl⟩
theorem cw_X12_wrong : Cond.code yX12_wrong cX12_wrong 1 none ∈ tb := tb_of 2071 (by decide +kernel) (by decide +kernel)
theorem mw_X12_wrong : MW yX12_wrong cX12_wrong 1 none 0 := ⟨cw_X12_wrong, ini_X12, by decide +kernel⟩
theorem im_X12_wrong : Cond.instanceMethod yX12_wrong ∈ tb := tb_of 2070 (by decide +kernel) (by decide +kernel)
theorem se_X12_wrong : Cond.selects (yX12_wrong).cls yX12_wrong yX12_wrong ∈ tb := tb_of 100 (by decide +kernel) (by decide +kernel)
theorem ml_X12_259 : Cond.methodLink RX12 259 yX12_wrong ∈ tb := tb_of 2068 (by decide +kernel) (by decide +kernel)
theorem cw_X12_next : Cond.code yX12_next cX12_next 1 none ∈ tb := tb_of 2031 (by decide +kernel) (by decide +kernel)
theorem mw_X12_next : MW yX12_next cX12_next 1 none 0 := ⟨cw_X12_next, ini_X12, by decide +kernel⟩
theorem im_X12_next : Cond.instanceMethod yX12_next ∈ tb := tb_of 2030 (by decide +kernel) (by decide +kernel)
theorem se_X12_next : Cond.selects (yX12_next).cls yX12_next yX12_next ∈ tb := tb_of 90 (by decide +kernel) (by decide +kernel)
theorem ml_X12_256 : Cond.methodLink RX12 256 yX12_next ∈ tb := tb_of 2028 (by decide +kernel) (by decide +kernel)
theorem fl_X12_262 : Cond.fieldLink RX12 262 RX12 (TX12 41).2.1 (TX12 41).2.2.1 ∈ tb := tb_of 1761 (by decide +kernel) (by decide +kernel)
theorem gf_X12_41 : FI 12 RX12 TX12 85 tyX12 41 0 := ⟨rfl, inb_X12, tyX12_ok, nmX12, by decide, by decide, rfl, rfl, rfl⟩
theorem pf_X12_41 : PI 12 RX12 TX12 85 tyX12 41 0 .int := ⟨gf_X12_41, rfl, rfl⟩
theorem fl_X12_69 : Cond.fieldLink RX12 69 RX12 (TX12 29).2.1 (TX12 29).2.2.1 ∈ tb := tb_of 1749 (by decide +kernel) (by decide +kernel)
theorem gf_X12_29 : FI 12 RX12 TX12 85 tyX12 29 3 := ⟨rfl, inb_X12, tyX12_ok, nmX12, by decide, by decide, rfl, rfl, rfl⟩
theorem lk_207_29 : lks 207 29 = some 225 := by decide +kernel
theorem kq_225 {nu c u : Nat} {K : Nat → Nat} : (Ax nu K c u).1 225 = 14 := kd_lt (K := K) (a := 225) (by decide) rfl
theorem lq_225 {nu c u : Nat} {K : Nat → Nat} : (Ax nu K c u).2.1 225 = 520 := rfl
theorem fl_X12_265 : Cond.fieldLink RX12 265 RX12 (TX12 34).2.1 (TX12 34).2.2.1 ∈ tb := tb_of 1754 (by decide +kernel) (by decide +kernel)
theorem gf_X12_34 : FI 12 RX12 TX12 85 tyX12 34 0 := ⟨rfl, inb_X12, tyX12_ok, nmX12, by decide, by decide, rfl, rfl, rfl⟩
theorem fl_X12_72 : Cond.fieldLink RX12 72 RX12 (TX12 30).2.1 (TX12 30).2.2.1 ∈ tb := tb_of 1750 (by decide +kernel) (by decide +kernel)
theorem gf_X12_30 : FI 12 RX12 TX12 85 tyX12 30 3 := ⟨rfl, inb_X12, tyX12_ok, nmX12, by decide, by decide, rfl, rfl, rfl⟩
theorem lk_207_30 : lks 207 30 = some 226 := by decide +kernel
theorem kq_226 {nu c u : Nat} {K : Nat → Nat} : (Ax nu K c u).1 226 = 14 := kd_lt (K := K) (a := 226) (by decide) rfl
theorem lq_226 {nu c u : Nat} {K : Nat → Nat} : (Ax nu K c u).2.1 226 = 520 := rfl
theorem pf_X12_34 : PI 12 RX12 TX12 85 tyX12 34 0 .int := ⟨gf_X12_34, rfl, rfl⟩
theorem bp_42 : (Int8.ofInt (42)).toInt32 = (42 : Int32) := by decide
theorem bp_47 : (Int8.ofInt (47)).toInt32 = (47 : Int32) := by decide
theorem bp_43 : (Int8.ofInt (43)).toInt32 = (43 : Int32) := by decide
theorem bp_45 : (Int8.ofInt (45)).toInt32 = (45 : Int32) := by decide
theorem bp_60 : (Int8.ofInt (60)).toInt32 = (60 : Int32) := by decide
theorem bp_61 : (Int8.ofInt (61)).toInt32 = (61 : Int32) := by decide
theorem fl_X12_268 : Cond.fieldLink RX12 268 RX12 (TX12 48).2.1 (TX12 48).2.2.1 ∈ tb := tb_of 1768 (by decide +kernel) (by decide +kernel)
theorem gf_X12_48 : FI 12 RX12 TX12 85 tyX12 48 0 := ⟨rfl, inb_X12, tyX12_ok, nmX12, by decide, by decide, rfl, rfl, rfl⟩
theorem fl_X12_96 : Cond.fieldLink RX12 96 RX12 (TX12 49).2.1 (TX12 49).2.2.1 ∈ tb := tb_of 1769 (by decide +kernel) (by decide +kernel)
theorem gf_X12_49 : FI 12 RX12 TX12 85 tyX12 49 3 := ⟨rfl, inb_X12, tyX12_ok, nmX12, by decide, by decide, rfl, rfl, rfl⟩
theorem lk_207_49 : lks 207 49 = some 234 := by decide +kernel
theorem kq_234 {nu c u : Nat} {K : Nat → Nat} : (Ax nu K c u).1 234 = 14 := kd_lt (K := K) (a := 234) (by decide) rfl
theorem lq_234 {nu c u : Nat} {K : Nat → Nat} : (Ax nu K c u).2.1 234 = 64 := rfl
theorem cw_X12_rank : Cond.code yX12_rank cX12_rank 2 (some .int) ∈ tb := tb_of 2119 (by decide +kernel) (by decide +kernel)
theorem mw_X12_rank : MW yX12_rank cX12_rank 2 (some .int) 1 := ⟨cw_X12_rank, ini_X12, by decide +kernel⟩
theorem im_X12_rank : Cond.instanceMethod yX12_rank ∈ tb := tb_of 2118 (by decide +kernel) (by decide +kernel)
theorem se_X12_rank : Cond.selects (yX12_rank).cls yX12_rank yX12_rank ∈ tb := tb_of 112 (by decide +kernel) (by decide +kernel)
theorem ml_X12_271 : Cond.methodLink RX12 271 yX12_rank ∈ tb := tb_of 2116 (by decide +kernel) (by decide +kernel)
theorem pf_X12_48 : PI 12 RX12 TX12 85 tyX12 48 0 .int := ⟨gf_X12_48, rfl, rfl⟩
theorem cw_X12_operation : Cond.code yX12_operation cX12_operation 2 (some .int) ∈ tb := tb_of 2127 (by decide +kernel) (by decide +kernel)
theorem mw_X12_operation : MW yX12_operation cX12_operation 2 (some .int) 1 := ⟨cw_X12_operation, ini_X12, by decide +kernel⟩
theorem im_X12_operation : Cond.instanceMethod yX12_operation ∈ tb := tb_of 2126 (by decide +kernel) (by decide +kernel)
theorem se_X12_operation : Cond.selects (yX12_operation).cls yX12_operation yX12_operation ∈ tb := tb_of 114 (by decide +kernel) (by decide +kernel)
theorem ml_X12_274 : Cond.methodLink RX12 274 yX12_operation ∈ tb := tb_of 2124 (by decide +kernel) (by decide +kernel)
theorem cw_X12_emit : Cond.code yX12_emit cX12_emit 3 none ∈ tb := tb_of 2107 (by decide +kernel) (by decide +kernel)
theorem mw_X12_emit : MW yX12_emit cX12_emit 3 none 2 := ⟨cw_X12_emit, ini_X12, by decide +kernel⟩
theorem im_X12_emit : Cond.instanceMethod yX12_emit ∈ tb := tb_of 2106 (by decide +kernel) (by decide +kernel)
theorem se_X12_emit : Cond.selects (yX12_emit).cls yX12_emit yX12_emit ∈ tb := tb_of 109 (by decide +kernel) (by decide +kernel)
theorem ml_X12_277 : Cond.methodLink RX12 277 yX12_emit ∈ tb := tb_of 2104 (by decide +kernel) (by decide +kernel)
theorem cw_X12_opening : Cond.code yX12_opening cX12_opening 2 none ∈ tb := tb_of 2067 (by decide +kernel) (by decide +kernel)
theorem mw_X12_opening : MW yX12_opening cX12_opening 2 none 1 := ⟨cw_X12_opening, ini_X12, by decide +kernel⟩
theorem im_X12_opening : Cond.instanceMethod yX12_opening ∈ tb := tb_of 2066 (by decide +kernel) (by decide +kernel)
theorem se_X12_opening : Cond.selects (yX12_opening).cls yX12_opening yX12_opening ∈ tb := tb_of 99 (by decide +kernel) (by decide +kernel)
theorem ml_X12_281 : Cond.methodLink RX12 281 yX12_opening ∈ tb := tb_of 2064 (by decide +kernel) (by decide +kernel)
theorem fl_X12_99 : Cond.fieldLink RX12 99 RX12 (TX12 50).2.1 (TX12 50).2.2.1 ∈ tb := tb_of 1770 (by decide +kernel) (by decide +kernel)
theorem gf_X12_50 : FI 12 RX12 TX12 85 tyX12 50 3 := ⟨rfl, inb_X12, tyX12_ok, nmX12, by decide, by decide, rfl, rfl, rfl⟩
theorem lk_207_50 : lks 207 50 = some 235 := by decide +kernel
theorem kq_235 {nu c u : Nat} {K : Nat → Nat} : (Ax nu K c u).1 235 = 14 := kd_lt (K := K) (a := 235) (by decide) rfl
theorem lq_235 {nu c u : Nat} {K : Nat → Nat} : (Ax nu K c u).2.1 235 = 64 := rfl
theorem fl_X12_285 : Cond.fieldLink RX12 285 RX12 (TX12 51).2.1 (TX12 51).2.2.1 ∈ tb := tb_of 1771 (by decide +kernel) (by decide +kernel)
theorem gf_X12_51 : FI 12 RX12 TX12 85 tyX12 51 0 := ⟨rfl, inb_X12, tyX12_ok, nmX12, by decide, by decide, rfl, rfl, rfl⟩
theorem pf_X12_51 : PI 12 RX12 TX12 85 tyX12 51 0 .int := ⟨gf_X12_51, rfl, rfl⟩
theorem fl_X12_102 : Cond.fieldLink RX12 102 RX12 (TX12 52).2.1 (TX12 52).2.2.1 ∈ tb := tb_of 1772 (by decide +kernel) (by decide +kernel)
theorem gf_X12_52 : FI 12 RX12 TX12 85 tyX12 52 3 := ⟨rfl, inb_X12, tyX12_ok, nmX12, by decide, by decide, rfl, rfl, rfl⟩
theorem lk_207_52 : lks 207 52 = some 236 := by decide +kernel
theorem kq_236 {nu c u : Nat} {K : Nat → Nat} : (Ax nu K c u).1 236 = 16 := kd_lt (K := K) (a := 236) (by decide) rfl
theorem lq_236 {nu c u : Nat} {K : Nat → Nat} : (Ax nu K c u).2.1 236 = 10 := rfl
theorem bp_40 : (Int8.ofInt (40)).toInt32 = (40 : Int32) := by decide
theorem fl_X12_81 : Cond.fieldLink RX12 81 RX12 (TX12 42).2.1 (TX12 42).2.2.1 ∈ tb := tb_of 1762 (by decide +kernel) (by decide +kernel)
theorem gf_X12_42 : FI 12 RX12 TX12 85 tyX12 42 3 := ⟨rfl, inb_X12, tyX12_ok, nmX12, by decide, by decide, rfl, rfl, rfl⟩
theorem lk_207_42 : lks 207 42 = some 229 := by decide +kernel
theorem kq_229 {nu c u : Nat} {K : Nat → Nat} : (Ax nu K c u).1 229 = 14 := kd_lt (K := K) (a := 229) (by decide) rfl
theorem lq_229 {nu c u : Nat} {K : Nat → Nat} : (Ax nu K c u).2.1 229 = 26 := rfl
theorem cw_X12_enter : Cond.code yX12_enter cX12_enter 3 none ∈ tb := tb_of 2111 (by decide +kernel) (by decide +kernel)
theorem mw_X12_enter : MW yX12_enter cX12_enter 3 none 2 := ⟨cw_X12_enter, ini_X12, by decide +kernel⟩
theorem im_X12_enter : Cond.instanceMethod yX12_enter ∈ tb := tb_of 2110 (by decide +kernel) (by decide +kernel)
theorem se_X12_enter : Cond.selects (yX12_enter).cls yX12_enter yX12_enter ∈ tb := tb_of 110 (by decide +kernel) (by decide +kernel)
theorem ml_X12_288 : Cond.methodLink RX12 288 yX12_enter ∈ tb := tb_of 2108 (by decide +kernel) (by decide +kernel)
theorem cw_X12_flush : Cond.code yX12_flush cX12_flush 2 none ∈ tb := tb_of 2123 (by decide +kernel) (by decide +kernel)
theorem mw_X12_flush : MW yX12_flush cX12_flush 2 none 1 := ⟨cw_X12_flush, ini_X12, by decide +kernel⟩
theorem im_X12_flush : Cond.instanceMethod yX12_flush ∈ tb := tb_of 2122 (by decide +kernel) (by decide +kernel)
theorem se_X12_flush : Cond.selects (yX12_flush).cls yX12_flush yX12_flush ∈ tb := tb_of 113 (by decide +kernel) (by decide +kernel)
theorem ml_X12_291 : Cond.methodLink RX12 291 yX12_flush ∈ tb := tb_of 2120 (by decide +kernel) (by decide +kernel)
theorem bp_93 : (Int8.ofInt (93)).toInt32 = (93 : Int32) := by decide
theorem bp_41 : (Int8.ofInt (41)).toInt32 = (41 : Int32) := by decide
def f_X12_wrong_b15 (D : Dat) : Option (Dat) :=
  some D
set_option maxHeartbeats 4000000 in
theorem w_X12_wrong_b15 {X : Cx} {n nu c u : Nat} {K : Nat → Nat} {z : Dat} (O : Ok X cX12_wrong RX12 none 0 0) (hm : wlm (xw X) = true) (hn : xn X = 1) (hz : Z0 X (Ax nu K c u)) (D : Dat) (h : f_X12_wrong_b15 D = some z) : V X (Q0 X n (Ax nu K c u) none z) n (Ax nu K c u) D 15 [] [] := by
  unfold f_X12_wrong_b15 at h
  obtain rfl := Option.some.inj h
  exact v_ret (pc := 15) O hz dX12_wrong_15
def f_X12_wrong (D : Dat) : Option (Dat) :=
  if 0 ≤ (dI D 207 40) then (f_X12_wrong_b15 D) else (f_X12_wrong_b15 (sI D 207 40 (dI D 207 39)))
set_option maxHeartbeats 4000000 in
theorem w_X12_wrong {X : Cx} {n nu c u : Nat} {K : Nat → Nat} {z : Dat} (O : Ok X cX12_wrong RX12 none 0 0) (hm : wlm (xw X) = true) (hn : xn X = 1) (hz : Z0 X (Ax nu K c u)) (D : Dat) (h : f_X12_wrong D = some z) : V X (Q0 X n (Ax nu K c u) none z) n (Ax nu K c u) D 0 [(0, .ref (bo X + pp 207))] [] := by
  unfold f_X12_wrong at h
  refine v_aload_n (pc := 0) O dX12_wrong_0 0 rfl ?_
  refine v_getI (pc := 1) (a := 207) O gf_X12_40 fl_X12_253 kq_207 dX12_wrong_1 ?_
  refine v_ifge (pc := 4) 15 O dX12_wrong_4 (by decide) (fun c1 => ?_) (fun c1 => ?_)
  · have h := (if_pos c1).symm.trans h
    refine v_sub [] rfl ?_
    exact w_X12_wrong_b15 O hm hn hz D h
  · have h := (if_neg c1).symm.trans h
    refine v_aload_n (pc := 7) O dX12_wrong_7 0 rfl ?_
    refine v_aload_n (pc := 8) O dX12_wrong_8 0 rfl ?_
    refine v_getI (pc := 9) (a := 207) O gf_X12_39 fl_X12_241 kq_207 dX12_wrong_9 ?_
    refine v_putI (pc := 12) (a := 207) O pf_X12_40 fl_X12_253 kq_207 dX12_wrong_12 ?_
    refine v_sub [] rfl ?_
    exact w_X12_wrong_b15 O hm hn hz (sI D 207 40 (dI D 207 39)) h
theorem c_X12_wrong {l : Launch} {w : Wx} {n nu c u : Nat} {K : Nat → Nat} (hm : wlm w = true) {D : Dat} {z : Dat} (h : f_X12_wrong D = some z) : C0 l w yX12_wrong cX12_wrong 1 none 0 0 [.ref (wb w + pp 207)] n (Ax nu K c u) D none z :=
  C0.of (by decide) (Nat.le_of_ble_eq_true rfl) (fun X e1 e2 e3 hz O => by
  subst e1
  subst e2
  exact w_X12_wrong O hm e3 hz  D h)
def f_X12_expect_b27 (N : Nat) (D : Dat) : Option (Dat) :=
  some D
set_option maxHeartbeats 4000000 in
theorem w_X12_expect_b27 {X : Cx} {n nu c u : Nat} {K : Nat → Nat} {N : Nat} {z : Dat} (O : Ok X cX12_expect RX12 none 3 63) (hm : wlm (xw X) = true) (hn : xn X = 2) (hz : Z0 X (Ax nu K c u)) (D : Dat) (h : f_X12_expect_b27 N D = some z) : V X (Q0 X n (Ax nu K c u) none z) n (Ax nu K c u) D 27 [] [] := by
  unfold f_X12_expect_b27 at h
  obtain rfl := Option.some.inj h
  exact v_ret (pc := 27) O hz dX12_expect_27
def f_X12_expect (N : Nat) (x1 : Int32) (D : Dat) : Option (Dat) :=
  if (dI D 207 40) < 0 then (if (dI D 207 37) = x1 then ((f_X12_next N D).bind (fun p5 => f_X12_expect_b27 N p5)) else ((f_X12_wrong D).bind (fun p3 => f_X12_expect_b27 N p3))) else (some D)
set_option maxHeartbeats 4000000 in
theorem w_X12_expect {X : Cx} {n nu c u : Nat} {K : Nat → Nat} {N : Nat} {z : Dat} (O : Ok X cX12_expect RX12 none 3 63) (hm : wlm (xw X) = true) (hn : xn X = 2) (hz : Z0 X (Ax nu K c u)) (x1 : Int32) (D : Dat) (h : f_X12_expect N x1 D = some z) : V X (Q0 X n (Ax nu K c u) none z) n (Ax nu K c u) D 0 [(0, .ref (bo X + pp 207)), (1, .int x1)] [] := by
  unfold f_X12_expect at h
  refine v_aload_n (pc := 0) O dX12_expect_0 0 rfl ?_
  refine v_getI (pc := 1) (a := 207) O gf_X12_40 fl_X12_253 kq_207 dX12_expect_1 ?_
  refine v_iflt (pc := 4) 8 O dX12_expect_4 (by decide) (fun c1 => ?_) (fun c1 => ?_)
  · have h := (if_pos c1).symm.trans h
    refine v_aload_n (pc := 8) O dX12_expect_8 0 rfl ?_
    refine v_getI (pc := 9) (a := 207) O gf_X12_37 fl_X12_229 kq_207 dX12_expect_9 ?_
    refine v_iload_n (pc := 12) O dX12_expect_12 1 rfl ?_
    refine v_icmpne (pc := 13) 23 O dX12_expect_13 (by decide) (fun c2 => ?_) (fun c2 => ?_)
    · have h := (if_neg c2).symm.trans h
      refine v_aload_n (pc := 23) O dX12_expect_23 0 rfl ?_
      obtain ⟨p3, e4, h⟩ := bind_some h
      refine v_callV (pc := 24) (a := 207) (As := []) (rest := []) (r := none) (D' := p3) O (bb0 hz) (c_X12_wrong hm e4) mw_X12_wrong im_X12_wrong se_X12_wrong ml_X12_259 kq_207 (by decide) rfl rfl rfl (by decide) (by decide) (Nat.le_of_ble_eq_true rfl) dX12_expect_24 rfl rfl ?_
      refine v_sub [] rfl ?_
      exact w_X12_expect_b27 O hm hn hz p3 h
    · have h := (if_pos c2).symm.trans h
      refine v_aload_n (pc := 16) O dX12_expect_16 0 rfl ?_
      obtain ⟨p5, e6, h⟩ := bind_some h
      refine v_callV (pc := 17) (a := 207) (As := []) (rest := []) (r := none) (D' := p5) O (bb0 hz) (c_X12_next hm e6) mw_X12_next im_X12_next se_X12_next ml_X12_256 kq_207 (by decide) rfl rfl rfl (by decide) (by decide) (Nat.le_of_ble_eq_true rfl) dX12_expect_17 rfl rfl ?_
      refine v_goto (pc := 20) 27 O dX12_expect_20 (by decide) ?_
      refine v_sub [] rfl ?_
      exact w_X12_expect_b27 O hm hn hz p5 h
  · have h := (if_neg c1).symm.trans h
    obtain rfl := Option.some.inj h
    exact v_ret (pc := 7) O hz dX12_expect_7
theorem c_X12_expect {l : Launch} {w : Wx} {n nu c u : Nat} {K : Nat → Nat} {N : Nat} (hm : wlm w = true) {x1 : Int32} {D : Dat} {z : Dat} (h : f_X12_expect N x1 D = some z) : C0 l w yX12_expect cX12_expect 2 none 3 63 [.ref (wb w + pp 207), .int x1] n (Ax nu K c u) D none z :=
  C0.of (by decide) (Nat.le_of_ble_eq_true rfl) (fun X e1 e2 e3 hz O => by
  subst e1
  subst e2
  exact w_X12_expect O hm e3 hz x1 D h)
def f_X12_opening_b46 (N : Nat) (D : Dat) : Option (Dat) :=
  some D
set_option maxHeartbeats 4000000 in
theorem w_X12_opening_b46 {X : Cx} {n nu c u : Nat} {K : Nat → Nat} {N : Nat} {z : Dat} (O : Ok X cX12_opening RX12 none 3 63) (hm : wlm (xw X) = true) (hn : xn X = 2) (hz : Z0 X (Ax nu K c u)) (D : Dat) (h : f_X12_opening_b46 N D = some z) : V X (Q0 X n (Ax nu K c u) none z) n (Ax nu K c u) D 46 [] [] := by
  unfold f_X12_opening_b46 at h
  obtain rfl := Option.some.inj h
  exact v_ret (pc := 46) O hz dX12_opening_46
def f_X12_opening_b25 (N : Nat) (D : Dat) : Option (Dat) :=
  (f_X12_wrong D).bind (fun p1 => f_X12_opening_b46 N p1)
set_option maxHeartbeats 4000000 in
theorem w_X12_opening_b25 {X : Cx} {n nu c u : Nat} {K : Nat → Nat} {N : Nat} {z : Dat} (O : Ok X cX12_opening RX12 none 3 63) (hm : wlm (xw X) = true) (hn : xn X = 2) (hz : Z0 X (Ax nu K c u)) (D : Dat) (h : f_X12_opening_b25 N D = some z) : V X (Q0 X n (Ax nu K c u) none z) n (Ax nu K c u) D 25 [(0, .ref (bo X + pp 207))] [] := by
  unfold f_X12_opening_b25 at h
  refine v_aload_n (pc := 25) O dX12_opening_25 0 rfl ?_
  obtain ⟨p1, e2, h⟩ := bind_some h
  refine v_callV (pc := 26) (a := 207) (As := []) (rest := []) (r := none) (D' := p1) O (bb0 hz) (c_X12_wrong hm e2) mw_X12_wrong im_X12_wrong se_X12_wrong ml_X12_259 kq_207 (by decide) rfl rfl rfl (by decide) (by decide) (Nat.le_of_ble_eq_true rfl) dX12_opening_26 rfl rfl ?_
  refine v_goto (pc := 29) 46 O dX12_opening_29 (by decide) ?_
  refine v_sub [] rfl ?_
  exact w_X12_opening_b46 O hm hn hz p1 h
def f_X12_opening (N : Nat) (x1 : Int32) (D : Dat) : Option (Dat) :=
  if (dI D 207 40) < 0 then (if (dI D 207 37) = x1 then (if (dI D 207 41) = 8 then (f_X12_opening_b25 N D) else ((f_X12_next N (sI D 207 41 ((dI D 207 41) + (1 : Int32)))).bind (fun p6 => f_X12_opening_b46 N p6))) else (f_X12_opening_b25 N D)) else (some D)
set_option maxHeartbeats 4000000 in
theorem w_X12_opening {X : Cx} {n nu c u : Nat} {K : Nat → Nat} {N : Nat} {z : Dat} (O : Ok X cX12_opening RX12 none 3 63) (hm : wlm (xw X) = true) (hn : xn X = 2) (hz : Z0 X (Ax nu K c u)) (x1 : Int32) (D : Dat) (h : f_X12_opening N x1 D = some z) : V X (Q0 X n (Ax nu K c u) none z) n (Ax nu K c u) D 0 [(0, .ref (bo X + pp 207)), (1, .int x1)] [] := by
  unfold f_X12_opening at h
  refine v_aload_n (pc := 0) O dX12_opening_0 0 rfl ?_
  refine v_getI (pc := 1) (a := 207) O gf_X12_40 fl_X12_253 kq_207 dX12_opening_1 ?_
  refine v_iflt (pc := 4) 8 O dX12_opening_4 (by decide) (fun c3 => ?_) (fun c3 => ?_)
  · have h := (if_pos c3).symm.trans h
    refine v_aload_n (pc := 8) O dX12_opening_8 0 rfl ?_
    refine v_getI (pc := 9) (a := 207) O gf_X12_37 fl_X12_229 kq_207 dX12_opening_9 ?_
    refine v_iload_n (pc := 12) O dX12_opening_12 1 rfl ?_
    refine v_icmpne (pc := 13) 25 O dX12_opening_13 (by decide) (fun c4 => ?_) (fun c4 => ?_)
    · have h := (if_neg c4).symm.trans h
      refine v_sub [0] rfl ?_
      exact w_X12_opening_b25 O hm hn hz D h
    · have h := (if_pos c4).symm.trans h
      refine v_aload_n (pc := 16) O dX12_opening_16 0 rfl ?_
      refine v_getI (pc := 17) (a := 207) O gf_X12_41 fl_X12_262 kq_207 dX12_opening_17 ?_
      refine v_bipush (pc := 20) O dX12_opening_20 bp_8 ?_
      refine v_icmpne (pc := 22) 32 O dX12_opening_22 (by decide) (fun c5 => ?_) (fun c5 => ?_)
      · have h := (if_neg c5).symm.trans h
        refine v_aload_n (pc := 32) O dX12_opening_32 0 rfl ?_
        refine v_dup (pc := 33) O dX12_opening_33 rfl ?_
        refine v_getI (pc := 34) (a := 207) O gf_X12_41 fl_X12_262 kq_207 dX12_opening_34 ?_
        refine v_iconst (pc := 37) O dX12_opening_37 ic_1 ?_
        refine v_iadd (pc := 38) O dX12_opening_38 ?_
        refine v_putI (pc := 39) (a := 207) O pf_X12_41 fl_X12_262 kq_207 dX12_opening_39 ?_
        refine v_aload_n (pc := 42) O dX12_opening_42 0 rfl ?_
        obtain ⟨p6, e7, h⟩ := bind_some h
        refine v_callV (pc := 43) (a := 207) (As := []) (rest := []) (r := none) (D' := p6) O (bb0 hz) (c_X12_next hm e7) mw_X12_next im_X12_next se_X12_next ml_X12_256 kq_207 (by decide) rfl rfl rfl (by decide) (by decide) (Nat.le_of_ble_eq_true rfl) dX12_opening_43 rfl rfl ?_
        refine v_sub [] rfl ?_
        exact w_X12_opening_b46 O hm hn hz p6 h
      · have h := (if_pos c5).symm.trans h
        refine v_sub [0] rfl ?_
        exact w_X12_opening_b25 O hm hn hz D h
  · have h := (if_neg c3).symm.trans h
    obtain rfl := Option.some.inj h
    exact v_ret (pc := 7) O hz dX12_opening_7
theorem c_X12_opening {l : Launch} {w : Wx} {n nu c u : Nat} {K : Nat → Nat} {N : Nat} (hm : wlm w = true) {x1 : Int32} {D : Dat} {z : Dat} (h : f_X12_opening N x1 D = some z) : C0 l w yX12_opening cX12_opening 2 none 3 63 [.ref (wb w + pp 207), .int x1] n (Ax nu K c u) D none z :=
  C0.of (by decide) (Nat.le_of_ble_eq_true rfl) (fun X e1 e2 e3 hz O => by
  subst e1
  subst e2
  exact w_X12_opening O hm e3 hz x1 D h)
def f_X12_labelToken_b54 (N : Nat) (s0 : Int32) (D : Dat) : Option (Int32 × Dat) :=
  some (s0, D)
set_option maxHeartbeats 4000000 in
theorem w_X12_labelToken_b54 {X : Cx} {n nu c u : Nat} {K : Nat → Nat} {N : Nat} {z : Int32 × Dat} (O : Ok X cX12_labelToken RX12 (some .int) 3 63) (hm : wlm (xw X) = true) (hn : xn X = 2) (hz : Z0 X (Ax nu K c u)) (s0 : Int32) (D : Dat) (h : f_X12_labelToken_b54 N s0 D = some z) : V X (Q0 X n (Ax nu K c u) (some (.int z.1)) z.2) n (Ax nu K c u) D 54 [] [.int s0] := by
  unfold f_X12_labelToken_b54 at h
  obtain rfl := Option.some.inj h
  exact v_iret (pc := 54) O hz dX12_labelToken_54
def f_X12_labelToken_b42 (N : Nat) (x1 : Int32) (D : Dat) : Option (Int32 × Dat) :=
  if 0 ≤ (dI D 207 40) then (f_X12_labelToken_b54 N 0 D) else (f_X12_labelToken_b54 N x1 D)
set_option maxHeartbeats 4000000 in
theorem w_X12_labelToken_b42 {X : Cx} {n nu c u : Nat} {K : Nat → Nat} {N : Nat} {z : Int32 × Dat} (O : Ok X cX12_labelToken RX12 (some .int) 3 63) (hm : wlm (xw X) = true) (hn : xn X = 2) (hz : Z0 X (Ax nu K c u)) (x1 : Int32) (D : Dat) (h : f_X12_labelToken_b42 N x1 D = some z) : V X (Q0 X n (Ax nu K c u) (some (.int z.1)) z.2) n (Ax nu K c u) D 42 [(0, .ref (bo X + pp 207)), (1, .int x1)] [] := by
  unfold f_X12_labelToken_b42 at h
  refine v_aload_n (pc := 42) O dX12_labelToken_42 0 rfl ?_
  refine v_getI (pc := 43) (a := 207) O gf_X12_40 fl_X12_253 kq_207 dX12_labelToken_43 ?_
  refine v_ifge (pc := 46) 53 O dX12_labelToken_46 (by decide) (fun c1 => ?_) (fun c1 => ?_)
  · have h := (if_pos c1).symm.trans h
    refine v_iconst (pc := 53) O dX12_labelToken_53 ic_0 ?_
    refine v_sub [] rfl ?_
    exact w_X12_labelToken_b54 O hm hn hz 0 D h
  · have h := (if_neg c1).symm.trans h
    refine v_iload_n (pc := 49) O dX12_labelToken_49 1 rfl ?_
    refine v_goto (pc := 50) 54 O dX12_labelToken_50 (by decide) ?_
    refine v_sub [] rfl ?_
    exact w_X12_labelToken_b54 O hm hn hz x1 D h
def f_X12_labelToken_b31 (N : Nat) (x1 : Int32) (D : Dat) : Option (Int32 × Dat) :=
  (f_X12_wrong D).bind (fun p2 => f_X12_labelToken_b42 N x1 p2)
set_option maxHeartbeats 4000000 in
theorem w_X12_labelToken_b31 {X : Cx} {n nu c u : Nat} {K : Nat → Nat} {N : Nat} {z : Int32 × Dat} (O : Ok X cX12_labelToken RX12 (some .int) 3 63) (hm : wlm (xw X) = true) (hn : xn X = 2) (hz : Z0 X (Ax nu K c u)) (x1 : Int32) (D : Dat) (h : f_X12_labelToken_b31 N x1 D = some z) : V X (Q0 X n (Ax nu K c u) (some (.int z.1)) z.2) n (Ax nu K c u) D 31 [(0, .ref (bo X + pp 207)), (1, .int x1)] [] := by
  unfold f_X12_labelToken_b31 at h
  refine v_aload_n (pc := 31) O dX12_labelToken_31 0 rfl ?_
  obtain ⟨p2, e3, h⟩ := bind_some h
  refine v_callV (pc := 32) (a := 207) (As := []) (rest := []) (r := none) (D' := p2) O (bb0 hz) (c_X12_wrong hm e3) mw_X12_wrong im_X12_wrong se_X12_wrong ml_X12_259 kq_207 (by decide) rfl rfl rfl (by decide) (by decide) (Nat.le_of_ble_eq_true rfl) dX12_labelToken_32 rfl rfl ?_
  refine v_goto (pc := 35) 42 O dX12_labelToken_35 (by decide) ?_
  refine v_sub [0, 1] rfl ?_
  exact w_X12_labelToken_b42 O hm hn hz x1 p2 h
def f_X12_labelToken (N : Nat) (D : Dat) : Option (Int32 × Dat) :=
  if (dI D 207 40) < 0 then (if (dI D 207 37) = 35 then (if (dI D 207 38) < (dI D 207 1) then ((f_X12_next N D).bind (fun p7 => f_X12_labelToken_b42 N (dI D 207 38) p7)) else (f_X12_labelToken_b31 N (dI D 207 38) D)) else (f_X12_labelToken_b31 N (dI D 207 38) D)) else (some (0, D))
set_option maxHeartbeats 4000000 in
theorem w_X12_labelToken {X : Cx} {n nu c u : Nat} {K : Nat → Nat} {N : Nat} {z : Int32 × Dat} (O : Ok X cX12_labelToken RX12 (some .int) 3 63) (hm : wlm (xw X) = true) (hn : xn X = 2) (hz : Z0 X (Ax nu K c u)) (D : Dat) (h : f_X12_labelToken N D = some z) : V X (Q0 X n (Ax nu K c u) (some (.int z.1)) z.2) n (Ax nu K c u) D 0 [(0, .ref (bo X + pp 207))] [] := by
  unfold f_X12_labelToken at h
  refine v_aload_n (pc := 0) O dX12_labelToken_0 0 rfl ?_
  refine v_getI (pc := 1) (a := 207) O gf_X12_40 fl_X12_253 kq_207 dX12_labelToken_1 ?_
  refine v_iflt (pc := 4) 9 O dX12_labelToken_4 (by decide) (fun c4 => ?_) (fun c4 => ?_)
  · have h := (if_pos c4).symm.trans h
    refine v_aload_n (pc := 9) O dX12_labelToken_9 0 rfl ?_
    refine v_getI (pc := 10) (a := 207) O gf_X12_38 fl_X12_235 kq_207 dX12_labelToken_10 ?_
    refine v_istore_n (pc := 13) (lv' := [(1, .int (dI D 207 38)), (0, .ref (bo X + pp 207))]) O dX12_labelToken_13 rfl (by rw [hn]; decide) rfl ?_
    refine v_aload_n (pc := 14) O dX12_labelToken_14 1 rfl ?_
    refine v_getI (pc := 15) (a := 207) O gf_X12_37 fl_X12_229 kq_207 dX12_labelToken_15 ?_
    refine v_bipush (pc := 18) O dX12_labelToken_18 bp_35 ?_
    refine v_icmpne (pc := 20) 31 O dX12_labelToken_20 (by decide) (fun c5 => ?_) (fun c5 => ?_)
    · have h := (if_neg c5).symm.trans h
      refine v_sub [1, 0] rfl ?_
      exact w_X12_labelToken_b31 O hm hn hz (dI D 207 38) D h
    · have h := (if_pos c5).symm.trans h
      refine v_iload_n (pc := 23) O dX12_labelToken_23 0 rfl ?_
      refine v_aload_n (pc := 24) O dX12_labelToken_24 1 rfl ?_
      refine v_getI (pc := 25) (a := 207) O gf_X12_1 fl_X12_180 kq_207 dX12_labelToken_25 ?_
      refine v_icmplt (pc := 28) 38 O dX12_labelToken_28 (by decide) (fun c6 => ?_) (fun c6 => ?_)
      · have h := (if_pos c6).symm.trans h
        refine v_aload_n (pc := 38) O dX12_labelToken_38 1 rfl ?_
        obtain ⟨p7, e8, h⟩ := bind_some h
        refine v_callV (pc := 39) (a := 207) (As := []) (rest := []) (r := none) (D' := p7) O (bb0 hz) (c_X12_next hm e8) mw_X12_next im_X12_next se_X12_next ml_X12_256 kq_207 (by decide) rfl rfl rfl (by decide) (by decide) (Nat.le_of_ble_eq_true rfl) dX12_labelToken_39 rfl rfl ?_
        refine v_sub [1, 0] rfl ?_
        exact w_X12_labelToken_b42 O hm hn hz (dI D 207 38) p7 h
      · have h := (if_neg c6).symm.trans h
        refine v_sub [1, 0] rfl ?_
        exact w_X12_labelToken_b31 O hm hn hz (dI D 207 38) D h
  · have h := (if_neg c4).symm.trans h
    refine v_iconst (pc := 7) O dX12_labelToken_7 ic_0 ?_
    obtain rfl := Option.some.inj h
    exact v_iret (pc := 8) O hz dX12_labelToken_8
theorem c_X12_labelToken {l : Launch} {w : Wx} {n nu c u : Nat} {K : Nat → Nat} {N : Nat} (hm : wlm w = true) {D : Dat} {z : Int32 × Dat} (h : f_X12_labelToken N D = some z) : C0 l w yX12_labelToken cX12_labelToken 2 (some .int) 3 63 [.ref (wb w + pp 207)] n (Ax nu K c u) D (some (.int z.1)) z.2 :=
  C0.of (by decide) (Nat.le_of_ble_eq_true rfl) (fun X e1 e2 e3 hz O => by
  subst e1
  subst e2
  exact w_X12_labelToken O hm e3 hz  D h)
def f_X12_emit_b30 (D : Dat) : Option (Dat) :=
  some D
set_option maxHeartbeats 4000000 in
theorem w_X12_emit_b30 {X : Cx} {n nu c u : Nat} {K : Nat → Nat} {z : Dat} (O : Ok X cX12_emit RX12 none 0 0) (hm : wlm (xw X) = true) (hn : xn X = 3) (hz : Z0 X (Ax nu K c u)) (D : Dat) (h : f_X12_emit_b30 D = some z) : V X (Q0 X n (Ax nu K c u) none z) n (Ax nu K c u) D 30 [] [] := by
  unfold f_X12_emit_b30 at h
  obtain rfl := Option.some.inj h
  exact v_ret (pc := 30) O hz dX12_emit_30
def f_X12_emit (x1 : Int32) (x2 : Int32) (D : Dat) : Option (Dat) :=
  if (dI D 207 34) < 0 ∨ 520 ≤ ((dI D 207 34)).toNatClampNeg then none else (if (dI (sI D 225 (dI D 207 34).toNatClampNeg x1) 207 34) < 0 ∨ 520 ≤ ((dI (sI D 225 (dI D 207 34).toNatClampNeg x1) 207 34)).toNatClampNeg then none else (f_X12_emit_b30 (sI (sI (sI D 225 (dI D 207 34).toNatClampNeg x1) 226 (dI (sI D 225 (dI D 207 34).toNatClampNeg x1) 207 34).toNatClampNeg x2) 207 34 ((dI (sI (sI D 225 (dI D 207 34).toNatClampNeg x1) 226 (dI (sI D 225 (dI D 207 34).toNatClampNeg x1) 207 34).toNatClampNeg x2) 207 34) + (1 : Int32)))))
set_option maxHeartbeats 4000000 in
theorem w_X12_emit {X : Cx} {n nu c u : Nat} {K : Nat → Nat} {z : Dat} (O : Ok X cX12_emit RX12 none 0 0) (hm : wlm (xw X) = true) (hn : xn X = 3) (hz : Z0 X (Ax nu K c u)) (x1 : Int32) (x2 : Int32) (D : Dat) (h : f_X12_emit x1 x2 D = some z) : V X (Q0 X n (Ax nu K c u) none z) n (Ax nu K c u) D 0 [(0, .ref (bo X + pp 207)), (1, .int x1), (2, .int x2)] [] := by
  unfold f_X12_emit at h
  refine v_aload_n (pc := 0) O dX12_emit_0 0 rfl ?_
  refine v_getK (pc := 1) (a := 207) O hm gf_X12_29 fl_X12_69 kq_207 lk_207_29 dX12_emit_1 ?_
  refine v_aload_n (pc := 4) O dX12_emit_4 0 rfl ?_
  refine v_getI (pc := 5) (a := 207) O gf_X12_34 fl_X12_265 kq_207 dX12_emit_5 ?_
  refine v_iload_n (pc := 8) O dX12_emit_8 1 rfl ?_
  obtain ⟨c1, h⟩ := or_none h
  refine v_iast (pc := 9) (a := 225) O kq_225 (inq lq_225 c1) dX12_emit_9 ?_
  refine v_aload_n (pc := 10) O dX12_emit_10 0 rfl ?_
  refine v_getK (pc := 11) (a := 207) O hm gf_X12_30 fl_X12_72 kq_207 lk_207_30 dX12_emit_11 ?_
  refine v_aload_n (pc := 14) O dX12_emit_14 0 rfl ?_
  refine v_getI (pc := 15) (a := 207) O gf_X12_34 fl_X12_265 kq_207 dX12_emit_15 ?_
  refine v_iload_n (pc := 18) O dX12_emit_18 2 rfl ?_
  obtain ⟨c2, h⟩ := or_none h
  refine v_iast (pc := 19) (a := 226) O kq_226 (inq lq_226 c2) dX12_emit_19 ?_
  refine v_aload_n (pc := 20) O dX12_emit_20 0 rfl ?_
  refine v_dup (pc := 21) O dX12_emit_21 rfl ?_
  refine v_getI (pc := 22) (a := 207) O gf_X12_34 fl_X12_265 kq_207 dX12_emit_22 ?_
  refine v_iconst (pc := 25) O dX12_emit_25 ic_1 ?_
  refine v_iadd (pc := 26) O dX12_emit_26 ?_
  refine v_putI (pc := 27) (a := 207) O pf_X12_34 fl_X12_265 kq_207 dX12_emit_27 ?_
  refine v_sub [] rfl ?_
  exact w_X12_emit_b30 O hm hn hz (sI (sI (sI D 225 (dI D 207 34).toNatClampNeg x1) 226 (dI (sI D 225 (dI D 207 34).toNatClampNeg x1) 207 34).toNatClampNeg x2) 207 34 ((dI (sI (sI D 225 (dI D 207 34).toNatClampNeg x1) 226 (dI (sI D 225 (dI D 207 34).toNatClampNeg x1) 207 34).toNatClampNeg x2) 207 34) + (1 : Int32))) h
theorem c_X12_emit {l : Launch} {w : Wx} {n nu c u : Nat} {K : Nat → Nat} (hm : wlm w = true) {x1 : Int32} {x2 : Int32} {D : Dat} {z : Dat} (h : f_X12_emit x1 x2 D = some z) : C0 l w yX12_emit cX12_emit 3 none 0 0 [.ref (wb w + pp 207), .int x1, .int x2] n (Ax nu K c u) D none z :=
  C0.of (by decide) (Nat.le_of_ble_eq_true rfl) (fun X e1 e2 e3 hz O => by
  subst e1
  subst e2
  exact w_X12_emit O hm e3 hz x1 x2 D h)
def f_X12_rank_b49 (s0 : Int32) (D : Dat) : Option (Int32 × Dat) :=
  some (s0, D)
set_option maxHeartbeats 4000000 in
theorem w_X12_rank_b49 {X : Cx} {n nu c u : Nat} {K : Nat → Nat} {z : Int32 × Dat} (O : Ok X cX12_rank RX12 (some .int) 0 0) (hm : wlm (xw X) = true) (hn : xn X = 2) (hz : Z0 X (Ax nu K c u)) (s0 : Int32) (D : Dat) (h : f_X12_rank_b49 s0 D = some z) : V X (Q0 X n (Ax nu K c u) (some (.int z.1)) z.2) n (Ax nu K c u) D 49 [] [.int s0] := by
  unfold f_X12_rank_b49 at h
  obtain rfl := Option.some.inj h
  exact v_iret (pc := 49) O hz dX12_rank_49
def f_X12_rank_b12 (D : Dat) : Option (Int32 × Dat) :=
  f_X12_rank_b49 3 D
set_option maxHeartbeats 4000000 in
theorem w_X12_rank_b12 {X : Cx} {n nu c u : Nat} {K : Nat → Nat} {z : Int32 × Dat} (O : Ok X cX12_rank RX12 (some .int) 0 0) (hm : wlm (xw X) = true) (hn : xn X = 2) (hz : Z0 X (Ax nu K c u)) (D : Dat) (h : f_X12_rank_b12 D = some z) : V X (Q0 X n (Ax nu K c u) (some (.int z.1)) z.2) n (Ax nu K c u) D 12 [] [] := by
  unfold f_X12_rank_b12 at h
  refine v_iconst (pc := 12) O dX12_rank_12 ic_3 ?_
  refine v_goto (pc := 13) 49 O dX12_rank_13 (by decide) ?_
  refine v_sub [] rfl ?_
  exact w_X12_rank_b49 O hm hn hz 3 D h
def f_X12_rank_b28 (D : Dat) : Option (Int32 × Dat) :=
  f_X12_rank_b49 2 D
set_option maxHeartbeats 4000000 in
theorem w_X12_rank_b28 {X : Cx} {n nu c u : Nat} {K : Nat → Nat} {z : Int32 × Dat} (O : Ok X cX12_rank RX12 (some .int) 0 0) (hm : wlm (xw X) = true) (hn : xn X = 2) (hz : Z0 X (Ax nu K c u)) (D : Dat) (h : f_X12_rank_b28 D = some z) : V X (Q0 X n (Ax nu K c u) (some (.int z.1)) z.2) n (Ax nu K c u) D 28 [] [] := by
  unfold f_X12_rank_b28 at h
  refine v_iconst (pc := 28) O dX12_rank_28 ic_2 ?_
  refine v_goto (pc := 29) 49 O dX12_rank_29 (by decide) ?_
  refine v_sub [] rfl ?_
  exact w_X12_rank_b49 O hm hn hz 2 D h
def f_X12_rank_b44 (D : Dat) : Option (Int32 × Dat) :=
  f_X12_rank_b49 1 D
set_option maxHeartbeats 4000000 in
theorem w_X12_rank_b44 {X : Cx} {n nu c u : Nat} {K : Nat → Nat} {z : Int32 × Dat} (O : Ok X cX12_rank RX12 (some .int) 0 0) (hm : wlm (xw X) = true) (hn : xn X = 2) (hz : Z0 X (Ax nu K c u)) (D : Dat) (h : f_X12_rank_b44 D = some z) : V X (Q0 X n (Ax nu K c u) (some (.int z.1)) z.2) n (Ax nu K c u) D 44 [] [] := by
  unfold f_X12_rank_b44 at h
  refine v_iconst (pc := 44) O dX12_rank_44 ic_1 ?_
  refine v_goto (pc := 45) 49 O dX12_rank_45 (by decide) ?_
  refine v_sub [] rfl ?_
  exact w_X12_rank_b49 O hm hn hz 1 D h
def f_X12_rank (x1 : Int32) (D : Dat) : Option (Int32 × Dat) :=
  if x1 = 42 then (f_X12_rank_b12 D) else (if x1 = 47 then (f_X12_rank_b12 D) else (if x1 = 43 then (f_X12_rank_b28 D) else (if x1 = 45 then (f_X12_rank_b28 D) else (if x1 = 60 then (f_X12_rank_b44 D) else (if x1 = 61 then (f_X12_rank_b44 D) else (f_X12_rank_b49 0 D))))))
set_option maxHeartbeats 4000000 in
theorem w_X12_rank {X : Cx} {n nu c u : Nat} {K : Nat → Nat} {z : Int32 × Dat} (O : Ok X cX12_rank RX12 (some .int) 0 0) (hm : wlm (xw X) = true) (hn : xn X = 2) (hz : Z0 X (Ax nu K c u)) (x1 : Int32) (D : Dat) (h : f_X12_rank x1 D = some z) : V X (Q0 X n (Ax nu K c u) (some (.int z.1)) z.2) n (Ax nu K c u) D 0 [(0, .ref (bo X + pp 207)), (1, .int x1)] [] := by
  unfold f_X12_rank at h
  refine v_iload_n (pc := 0) O dX12_rank_0 1 rfl ?_
  refine v_bipush (pc := 1) O dX12_rank_1 bp_42 ?_
  refine v_icmpeq (pc := 3) 12 O dX12_rank_3 (by decide) (fun c1 => ?_) (fun c1 => ?_)
  · have h := (if_pos c1).symm.trans h
    refine v_sub [] rfl ?_
    exact w_X12_rank_b12 O hm hn hz D h
  · have h := (if_neg c1).symm.trans h
    refine v_iload_n (pc := 6) O dX12_rank_6 1 rfl ?_
    refine v_bipush (pc := 7) O dX12_rank_7 bp_47 ?_
    refine v_icmpne (pc := 9) 16 O dX12_rank_9 (by decide) (fun c2 => ?_) (fun c2 => ?_)
    · have h := (if_neg c2).symm.trans h
      refine v_iload_n (pc := 16) O dX12_rank_16 1 rfl ?_
      refine v_bipush (pc := 17) O dX12_rank_17 bp_43 ?_
      refine v_icmpeq (pc := 19) 28 O dX12_rank_19 (by decide) (fun c3 => ?_) (fun c3 => ?_)
      · have h := (if_pos c3).symm.trans h
        refine v_sub [] rfl ?_
        exact w_X12_rank_b28 O hm hn hz D h
      · have h := (if_neg c3).symm.trans h
        refine v_iload_n (pc := 22) O dX12_rank_22 1 rfl ?_
        refine v_bipush (pc := 23) O dX12_rank_23 bp_45 ?_
        refine v_icmpne (pc := 25) 32 O dX12_rank_25 (by decide) (fun c4 => ?_) (fun c4 => ?_)
        · have h := (if_neg c4).symm.trans h
          refine v_iload_n (pc := 32) O dX12_rank_32 1 rfl ?_
          refine v_bipush (pc := 33) O dX12_rank_33 bp_60 ?_
          refine v_icmpeq (pc := 35) 44 O dX12_rank_35 (by decide) (fun c5 => ?_) (fun c5 => ?_)
          · have h := (if_pos c5).symm.trans h
            refine v_sub [] rfl ?_
            exact w_X12_rank_b44 O hm hn hz D h
          · have h := (if_neg c5).symm.trans h
            refine v_iload_n (pc := 38) O dX12_rank_38 1 rfl ?_
            refine v_bipush (pc := 39) O dX12_rank_39 bp_61 ?_
            refine v_icmpne (pc := 41) 48 O dX12_rank_41 (by decide) (fun c6 => ?_) (fun c6 => ?_)
            · have h := (if_neg c6).symm.trans h
              refine v_iconst (pc := 48) O dX12_rank_48 ic_0 ?_
              refine v_sub [] rfl ?_
              exact w_X12_rank_b49 O hm hn hz 0 D h
            · have h := (if_pos c6).symm.trans h
              refine v_sub [] rfl ?_
              exact w_X12_rank_b44 O hm hn hz D h
        · have h := (if_pos c4).symm.trans h
          refine v_sub [] rfl ?_
          exact w_X12_rank_b28 O hm hn hz D h
    · have h := (if_pos c2).symm.trans h
      refine v_sub [] rfl ?_
      exact w_X12_rank_b12 O hm hn hz D h
theorem c_X12_rank {l : Launch} {w : Wx} {n nu c u : Nat} {K : Nat → Nat} (hm : wlm w = true) {x1 : Int32} {D : Dat} {z : Int32 × Dat} (h : f_X12_rank x1 D = some z) : C0 l w yX12_rank cX12_rank 2 (some .int) 0 0 [.ref (wb w + pp 207), .int x1] n (Ax nu K c u) D (some (.int z.1)) z.2 :=
  C0.of (by decide) (Nat.le_of_ble_eq_true rfl) (fun X e1 e2 e3 hz O => by
  subst e1
  subst e2
  exact w_X12_rank O hm e3 hz x1 D h)
def f_X12_operation (x1 : Int32) (D : Dat) : Option (Int32 × Dat) :=
  (if x1 = (42 : Int32) then (some (7, D)) else (if x1 = (43 : Int32) then (some (5, D)) else (if x1 = (45 : Int32) then (some (6, D)) else (if x1 = (47 : Int32) then (some (8, D)) else (if x1 = (60 : Int32) then (some (9, D)) else (some (10, D)))))))
set_option maxHeartbeats 4000000 in
theorem w_X12_operation {X : Cx} {n nu c u : Nat} {K : Nat → Nat} {z : Int32 × Dat} (O : Ok X cX12_operation RX12 (some .int) 0 0) (hm : wlm (xw X) = true) (hn : xn X = 2) (hz : Z0 X (Ax nu K c u)) (x1 : Int32) (D : Dat) (h : f_X12_operation x1 D = some z) : V X (Q0 X n (Ax nu K c u) (some (.int z.1)) z.2) n (Ax nu K c u) D 0 [(0, .ref (bo X + pp 207)), (1, .int x1)] [] := by
  unfold f_X12_operation at h
  refine v_iload_n (pc := 0) O dX12_operation_0 1 rfl ?_
  by_cases c1 : x1 = (42 : Int32)
  · have h := (if_pos c1).symm.trans h
    refine v_lookup (pc := 1) 57 O dX12_operation_1 (by decide) (by rw [c1]) (by decide) ?_
    refine v_bipush (pc := 57) O dX12_operation_57 bp_7 ?_
    obtain rfl := Option.some.inj h
    exact v_iret (pc := 59) O hz dX12_operation_59
  · have h := (if_neg c1).symm.trans h
    by_cases c2 : x1 = (43 : Int32)
    · have h := (if_pos c2).symm.trans h
      refine v_lookup (pc := 1) 52 O dX12_operation_1 (by decide) (by rw [c2]) (by decide) ?_
      refine v_iconst (pc := 52) O dX12_operation_52 ic_5 ?_
      obtain rfl := Option.some.inj h
      exact v_iret (pc := 53) O hz dX12_operation_53
    · have h := (if_neg c2).symm.trans h
      by_cases c3 : x1 = (45 : Int32)
      · have h := (if_pos c3).symm.trans h
        refine v_lookup (pc := 1) 54 O dX12_operation_1 (by decide) (by rw [c3]) (by decide) ?_
        refine v_bipush (pc := 54) O dX12_operation_54 bp_6 ?_
        obtain rfl := Option.some.inj h
        exact v_iret (pc := 56) O hz dX12_operation_56
      · have h := (if_neg c3).symm.trans h
        by_cases c4 : x1 = (47 : Int32)
        · have h := (if_pos c4).symm.trans h
          refine v_lookup (pc := 1) 60 O dX12_operation_1 (by decide) (by rw [c4]) (by decide) ?_
          refine v_bipush (pc := 60) O dX12_operation_60 bp_8 ?_
          obtain rfl := Option.some.inj h
          exact v_iret (pc := 62) O hz dX12_operation_62
        · have h := (if_neg c4).symm.trans h
          by_cases c5 : x1 = (60 : Int32)
          · have h := (if_pos c5).symm.trans h
            refine v_lookup (pc := 1) 63 O dX12_operation_1 (by decide) (by rw [c5]) (by decide) ?_
            refine v_bipush (pc := 63) O dX12_operation_63 bp_9 ?_
            obtain rfl := Option.some.inj h
            exact v_iret (pc := 65) O hz dX12_operation_65
          · have h := (if_neg c5).symm.trans h
            refine v_lookup (pc := 1) 66 O dX12_operation_1 (by decide) (by have c1i := ne_i (42) rfl c1; have c2i := ne_i (43) rfl c2; have c3i := ne_i (45) rfl c3; have c4i := ne_i (47) rfl c4; have c5i := ne_i (60) rfl c5; exact lk_out _ _ _ (by simp [Ne.symm c1i, Ne.symm c2i, Ne.symm c3i, Ne.symm c4i, Ne.symm c5i])) (by decide) ?_
            refine v_bipush (pc := 66) O dX12_operation_66 bp_10 ?_
            obtain rfl := Option.some.inj h
            exact v_iret (pc := 68) O hz dX12_operation_68
theorem c_X12_operation {l : Launch} {w : Wx} {n nu c u : Nat} {K : Nat → Nat} (hm : wlm w = true) {x1 : Int32} {D : Dat} {z : Int32 × Dat} (h : f_X12_operation x1 D = some z) : C0 l w yX12_operation cX12_operation 2 (some .int) 0 0 [.ref (wb w + pp 207), .int x1] n (Ax nu K c u) D (some (.int z.1)) z.2 :=
  C0.of (by decide) (Nat.le_of_ble_eq_true rfl) (fun X e1 e2 e3 hz O => by
  subst e1
  subst e2
  exact w_X12_operation O hm e3 hz x1 D h)
def f_X12_flush_b57 (N : Nat) (D : Dat) : Option (Dat) :=
  some D
set_option maxHeartbeats 4000000 in
theorem w_X12_flush_b57 {X : Cx} {n nu c u : Nat} {K : Nat → Nat} {N : Nat} {z : Dat} (O : Ok X cX12_flush RX12 none 1 22) (hm : wlm (xw X) = true) (hn : xn X = 2) (hz : Z0 X (Ax nu K c u)) (D : Dat) (h : f_X12_flush_b57 N D = some z) : V X (Q0 X n (Ax nu K c u) none z) n (Ax nu K c u) D 57 [] [] := by
  unfold f_X12_flush_b57 at h
  obtain rfl := Option.some.inj h
  exact v_ret (pc := 57) O hz dX12_flush_57
def f_X12_flush_b0 (N : Nat) : Nat → Int32 → Dat → Option (Dat)
  | 0, _, _ => none
  | g + 1, x1, D => if (dI D 207 48) ≤ 0 then (f_X12_flush_b57 N D) else (if ((dI D 207 48) - (1 : Int32)) < 0 ∨ 64 ≤ (((dI D 207 48) - (1 : Int32))).toNatClampNeg then none else ((f_X12_rank (dI D 234 ((dI D 207 48) - (1 : Int32)).toNatClampNeg) D).bind (fun p3 => if p3.1 < x1 then (f_X12_flush_b57 N p3.2) else (if (dI (sI p3.2 207 48 ((dI p3.2 207 48) - (1 : Int32))) 207 48) < 0 ∨ 64 ≤ ((dI (sI p3.2 207 48 ((dI p3.2 207 48) - (1 : Int32))) 207 48)).toNatClampNeg then none else ((f_X12_operation (dI (sI p3.2 207 48 ((dI p3.2 207 48) - (1 : Int32))) 234 (dI (sI p3.2 207 48 ((dI p3.2 207 48) - (1 : Int32))) 207 48).toNatClampNeg) (sI p3.2 207 48 ((dI p3.2 207 48) - (1 : Int32)))).bind (fun p7 => (f_X12_emit p7.1 0 p7.2).bind (fun p9 => (f_X12_flush_b0 N g) x1 p9)))))))
set_option maxHeartbeats 4000000 in
theorem w_X12_flush_b0 {X : Cx} {n nu c u : Nat} {K : Nat → Nat} {N : Nat} {z : Dat} (O : Ok X cX12_flush RX12 none 1 22) (hm : wlm (xw X) = true) (hn : xn X = 2) (hz : Z0 X (Ax nu K c u)) : ∀ (g : Nat) (x1 : Int32) (D : Dat), f_X12_flush_b0 N g x1 D = some z → V X (Q0 X n (Ax nu K c u) none z) n (Ax nu K c u) D 0 [(0, .ref (bo X + pp 207)), (1, .int x1)] [] := by
  intro g
  induction g with
  | zero => intro x1 D h; exact absurd h (by simp [f_X12_flush_b0])
  | succ g ih =>
    intro x1 D h
    rw [f_X12_flush_b0] at h
    refine v_aload_n (pc := 0) O dX12_flush_0 0 rfl ?_
    refine v_getI (pc := 1) (a := 207) O gf_X12_48 fl_X12_268 kq_207 dX12_flush_1 ?_
    refine v_ifle (pc := 4) 57 O dX12_flush_4 (by decide) (fun c1 => ?_) (fun c1 => ?_)
    · have h := (if_pos c1).symm.trans h
      refine v_sub [] rfl ?_
      exact w_X12_flush_b57 O hm hn hz D h
    · have h := (if_neg c1).symm.trans h
      refine v_aload_n (pc := 7) O dX12_flush_7 0 rfl ?_
      refine v_aload_n (pc := 8) O dX12_flush_8 0 rfl ?_
      refine v_getK (pc := 9) (a := 207) O hm gf_X12_49 fl_X12_96 kq_207 lk_207_49 dX12_flush_9 ?_
      refine v_aload_n (pc := 12) O dX12_flush_12 0 rfl ?_
      refine v_getI (pc := 13) (a := 207) O gf_X12_48 fl_X12_268 kq_207 dX12_flush_13 ?_
      refine v_iconst (pc := 16) O dX12_flush_16 ic_1 ?_
      refine v_isub (pc := 17) O dX12_flush_17 ?_
      obtain ⟨c2, h⟩ := or_none h
      refine v_iald (pc := 18) (a := 234) O kq_234 (inq lq_234 c2) dX12_flush_18 ?_
      obtain ⟨p3, e4, h⟩ := bind_some h
      refine v_callV (pc := 19) (a := 207) (As := [.int (dI D 234 ((dI D 207 48) - (1 : Int32)).toNatClampNeg)]) (rest := []) (r := (some (.int p3.1))) (D' := p3.2) O (bb0 hz) (c_X12_rank hm e4) mw_X12_rank im_X12_rank se_X12_rank ml_X12_271 kq_207 (by decide) rfl rfl rfl (by decide) (by decide) (Nat.le_of_ble_eq_true rfl) dX12_flush_19 rfl rfl ?_
      refine v_iload_n (pc := 22) O dX12_flush_22 1 rfl ?_
      refine v_icmplt (pc := 23) 57 O dX12_flush_23 (by decide) (fun c5 => ?_) (fun c5 => ?_)
      · have h := (if_pos c5).symm.trans h
        refine v_sub [] rfl ?_
        exact w_X12_flush_b57 O hm hn hz p3.2 h
      · have h := (if_neg c5).symm.trans h
        refine v_aload_n (pc := 26) O dX12_flush_26 0 rfl ?_
        refine v_dup (pc := 27) O dX12_flush_27 rfl ?_
        refine v_getI (pc := 28) (a := 207) O gf_X12_48 fl_X12_268 kq_207 dX12_flush_28 ?_
        refine v_iconst (pc := 31) O dX12_flush_31 ic_1 ?_
        refine v_isub (pc := 32) O dX12_flush_32 ?_
        refine v_putI (pc := 33) (a := 207) O pf_X12_48 fl_X12_268 kq_207 dX12_flush_33 ?_
        refine v_aload_n (pc := 36) O dX12_flush_36 0 rfl ?_
        refine v_aload_n (pc := 37) O dX12_flush_37 0 rfl ?_
        refine v_aload_n (pc := 38) O dX12_flush_38 0 rfl ?_
        refine v_getK (pc := 39) (a := 207) O hm gf_X12_49 fl_X12_96 kq_207 lk_207_49 dX12_flush_39 ?_
        refine v_aload_n (pc := 42) O dX12_flush_42 0 rfl ?_
        refine v_getI (pc := 43) (a := 207) O gf_X12_48 fl_X12_268 kq_207 dX12_flush_43 ?_
        obtain ⟨c6, h⟩ := or_none h
        refine v_iald (pc := 46) (a := 234) O kq_234 (inq lq_234 c6) dX12_flush_46 ?_
        obtain ⟨p7, e8, h⟩ := bind_some h
        refine v_callV (pc := 47) (a := 207) (As := [.int (dI (sI p3.2 207 48 ((dI p3.2 207 48) - (1 : Int32))) 234 (dI (sI p3.2 207 48 ((dI p3.2 207 48) - (1 : Int32))) 207 48).toNatClampNeg)]) (rest := [.ref (bo X + pp 207)]) (r := (some (.int p7.1))) (D' := p7.2) O (bb0 hz) (c_X12_operation hm e8) mw_X12_operation im_X12_operation se_X12_operation ml_X12_274 kq_207 (by decide) rfl rfl rfl (by decide) (by decide) (Nat.le_of_ble_eq_true rfl) dX12_flush_47 rfl rfl ?_
        refine v_iconst (pc := 50) O dX12_flush_50 ic_0 ?_
        obtain ⟨p9, e10, h⟩ := bind_some h
        refine v_callV (pc := 51) (a := 207) (As := [.int p7.1, .int 0]) (rest := []) (r := none) (D' := p9) O (bb0 hz) (c_X12_emit hm e10) mw_X12_emit im_X12_emit se_X12_emit ml_X12_277 kq_207 (by decide) rfl rfl rfl (by decide) (by decide) (Nat.le_of_ble_eq_true rfl) dX12_flush_51 rfl rfl ?_
        refine v_goto (pc := 54) 0 O dX12_flush_54 (by decide) ?_
        refine v_sub [0, 1] rfl ?_
        exact ih x1 p9 h
def f_X12_flush (N : Nat) (x1 : Int32) (D : Dat) : Option (Dat) :=
  f_X12_flush_b0 N N x1 D
set_option maxHeartbeats 4000000 in
theorem w_X12_flush {X : Cx} {n nu c u : Nat} {K : Nat → Nat} {N : Nat} {z : Dat} (O : Ok X cX12_flush RX12 none 1 22) (hm : wlm (xw X) = true) (hn : xn X = 2) (hz : Z0 X (Ax nu K c u)) (x1 : Int32) (D : Dat) (h : f_X12_flush N x1 D = some z) : V X (Q0 X n (Ax nu K c u) none z) n (Ax nu K c u) D 0 [(0, .ref (bo X + pp 207)), (1, .int x1)] [] := by
  unfold f_X12_flush at h
  refine v_sub [0, 1] rfl ?_
  exact w_X12_flush_b0 O hm hn hz N x1 D h
theorem c_X12_flush {l : Launch} {w : Wx} {n nu c u : Nat} {K : Nat → Nat} {N : Nat} (hm : wlm w = true) {x1 : Int32} {D : Dat} {z : Dat} (h : f_X12_flush N x1 D = some z) : C0 l w yX12_flush cX12_flush 2 none 1 22 [.ref (wb w + pp 207), .int x1] n (Ax nu K c u) D none z :=
  C0.of (by decide) (Nat.le_of_ble_eq_true rfl) (fun X e1 e2 e3 hz O => by
  subst e1
  subst e2
  exact w_X12_flush O hm e3 hz x1 D h)
def f_X12_enter_b35 (N : Nat) (D : Dat) : Option (Dat) :=
  if (dI (sI D 207 51 ((dI D 207 51) + (1 : Int32))) 207 51) < 0 ∨ 10 ≤ ((dI (sI D 207 51 ((dI D 207 51) + (1 : Int32))) 207 51)).toNatClampNeg then none else (some (sI (sI D 207 51 ((dI D 207 51) + (1 : Int32))) 236 (dI (sI D 207 51 ((dI D 207 51) + (1 : Int32))) 207 51).toNatClampNeg ((0 : Int32) &&& 1)))
set_option maxHeartbeats 4000000 in
theorem w_X12_enter_b35 {X : Cx} {n nu c u : Nat} {K : Nat → Nat} {N : Nat} {z : Dat} (O : Ok X cX12_enter RX12 none 4 84) (hm : wlm (xw X) = true) (hn : xn X = 3) (hz : Z0 X (Ax nu K c u)) (D : Dat) (h : f_X12_enter_b35 N D = some z) : V X (Q0 X n (Ax nu K c u) none z) n (Ax nu K c u) D 35 [(0, .ref (bo X + pp 207))] [] := by
  unfold f_X12_enter_b35 at h
  refine v_aload_n (pc := 35) O dX12_enter_35 0 rfl ?_
  refine v_dup (pc := 36) O dX12_enter_36 rfl ?_
  refine v_getI (pc := 37) (a := 207) O gf_X12_51 fl_X12_285 kq_207 dX12_enter_37 ?_
  refine v_iconst (pc := 40) O dX12_enter_40 ic_1 ?_
  refine v_iadd (pc := 41) O dX12_enter_41 ?_
  refine v_putI (pc := 42) (a := 207) O pf_X12_51 fl_X12_285 kq_207 dX12_enter_42 ?_
  refine v_aload_n (pc := 45) O dX12_enter_45 0 rfl ?_
  refine v_getK (pc := 46) (a := 207) O hm gf_X12_52 fl_X12_102 kq_207 lk_207_52 dX12_enter_46 ?_
  refine v_aload_n (pc := 49) O dX12_enter_49 0 rfl ?_
  refine v_getI (pc := 50) (a := 207) O gf_X12_51 fl_X12_285 kq_207 dX12_enter_50 ?_
  refine v_iconst (pc := 53) O dX12_enter_53 ic_0 ?_
  obtain ⟨c1, h⟩ := or_none h
  refine v_zast (pc := 54) (a := 236) O kq_236 (inq lq_236 c1) dX12_enter_54 ?_
  obtain rfl := Option.some.inj h
  exact v_ret (pc := 55) O hz dX12_enter_55
def f_X12_enter (N : Nat) (x1 : Int32) (x2 : Int32) (D : Dat) : Option (Dat) :=
  (f_X12_opening N x1 D).bind (fun p2 => if (dI p2 207 48) < 0 ∨ 64 ≤ ((dI p2 207 48)).toNatClampNeg then none else (if (dI (sI p2 234 (dI p2 207 48).toNatClampNeg x1) 207 48) < 0 ∨ 64 ≤ ((dI (sI p2 234 (dI p2 207 48).toNatClampNeg x1) 207 48)).toNatClampNeg then none else (f_X12_enter_b35 N (sI (sI (sI p2 234 (dI p2 207 48).toNatClampNeg x1) 235 (dI (sI p2 234 (dI p2 207 48).toNatClampNeg x1) 207 48).toNatClampNeg x2) 207 48 ((dI (sI (sI p2 234 (dI p2 207 48).toNatClampNeg x1) 235 (dI (sI p2 234 (dI p2 207 48).toNatClampNeg x1) 207 48).toNatClampNeg x2) 207 48) + (1 : Int32))))))
set_option maxHeartbeats 4000000 in
theorem w_X12_enter {X : Cx} {n nu c u : Nat} {K : Nat → Nat} {N : Nat} {z : Dat} (O : Ok X cX12_enter RX12 none 4 84) (hm : wlm (xw X) = true) (hn : xn X = 3) (hz : Z0 X (Ax nu K c u)) (x1 : Int32) (x2 : Int32) (D : Dat) (h : f_X12_enter N x1 x2 D = some z) : V X (Q0 X n (Ax nu K c u) none z) n (Ax nu K c u) D 0 [(0, .ref (bo X + pp 207)), (1, .int x1), (2, .int x2)] [] := by
  unfold f_X12_enter at h
  refine v_aload_n (pc := 0) O dX12_enter_0 0 rfl ?_
  refine v_iload_n (pc := 1) O dX12_enter_1 1 rfl ?_
  obtain ⟨p2, e3, h⟩ := bind_some h
  refine v_callV (pc := 2) (a := 207) (As := [.int x1]) (rest := []) (r := none) (D' := p2) O (bb0 hz) (c_X12_opening hm e3) mw_X12_opening im_X12_opening se_X12_opening ml_X12_281 kq_207 (by decide) rfl rfl rfl (by decide) (by decide) (Nat.le_of_ble_eq_true rfl) dX12_enter_2 rfl rfl ?_
  refine v_aload_n (pc := 5) O dX12_enter_5 0 rfl ?_
  refine v_getK (pc := 6) (a := 207) O hm gf_X12_49 fl_X12_96 kq_207 lk_207_49 dX12_enter_6 ?_
  refine v_aload_n (pc := 9) O dX12_enter_9 0 rfl ?_
  refine v_getI (pc := 10) (a := 207) O gf_X12_48 fl_X12_268 kq_207 dX12_enter_10 ?_
  refine v_iload_n (pc := 13) O dX12_enter_13 1 rfl ?_
  obtain ⟨c4, h⟩ := or_none h
  refine v_iast (pc := 14) (a := 234) O kq_234 (inq lq_234 c4) dX12_enter_14 ?_
  refine v_aload_n (pc := 15) O dX12_enter_15 0 rfl ?_
  refine v_getK (pc := 16) (a := 207) O hm gf_X12_50 fl_X12_99 kq_207 lk_207_50 dX12_enter_16 ?_
  refine v_aload_n (pc := 19) O dX12_enter_19 0 rfl ?_
  refine v_getI (pc := 20) (a := 207) O gf_X12_48 fl_X12_268 kq_207 dX12_enter_20 ?_
  refine v_iload_n (pc := 23) O dX12_enter_23 2 rfl ?_
  obtain ⟨c5, h⟩ := or_none h
  refine v_iast (pc := 24) (a := 235) O kq_235 (inq lq_235 c5) dX12_enter_24 ?_
  refine v_aload_n (pc := 25) O dX12_enter_25 0 rfl ?_
  refine v_dup (pc := 26) O dX12_enter_26 rfl ?_
  refine v_getI (pc := 27) (a := 207) O gf_X12_48 fl_X12_268 kq_207 dX12_enter_27 ?_
  refine v_iconst (pc := 30) O dX12_enter_30 ic_1 ?_
  refine v_iadd (pc := 31) O dX12_enter_31 ?_
  refine v_putI (pc := 32) (a := 207) O pf_X12_48 fl_X12_268 kq_207 dX12_enter_32 ?_
  refine v_sub [0] rfl ?_
  exact w_X12_enter_b35 O hm hn hz (sI (sI (sI p2 234 (dI p2 207 48).toNatClampNeg x1) 235 (dI (sI p2 234 (dI p2 207 48).toNatClampNeg x1) 207 48).toNatClampNeg x2) 207 48 ((dI (sI (sI p2 234 (dI p2 207 48).toNatClampNeg x1) 235 (dI (sI p2 234 (dI p2 207 48).toNatClampNeg x1) 207 48).toNatClampNeg x2) 207 48) + (1 : Int32))) h
theorem c_X12_enter {l : Launch} {w : Wx} {n nu c u : Nat} {K : Nat → Nat} {N : Nat} (hm : wlm w = true) {x1 : Int32} {x2 : Int32} {D : Dat} {z : Dat} (h : f_X12_enter N x1 x2 D = some z) : C0 l w yX12_enter cX12_enter 3 none 4 84 [.ref (wb w + pp 207), .int x1, .int x2] n (Ax nu K c u) D none z :=
  C0.of (by decide) (Nat.le_of_ble_eq_true rfl) (fun X e1 e2 e3 hz O => by
  subst e1
  subst e2
  exact w_X12_enter O hm e3 hz x1 x2 D h)
def f_X12_operand_b64 (N : Nat) (D : Dat) : Option (Int32 × Dat) :=
  (f_X12_wrong D).bind (fun p1 => some (0, p1))
set_option maxHeartbeats 4000000 in
theorem w_X12_operand_b64 {X : Cx} {n nu c u : Nat} {K : Nat → Nat} {N : Nat} {z : Int32 × Dat} (O : Ok X cX12_operand RX12 (some .boolean) 5 106) (hm : wlm (xw X) = true) (hn : xn X = 2) (hz : Z0 X (Ax nu K c u)) (D : Dat) (h : f_X12_operand_b64 N D = some z) : V X (Q0 X n (Ax nu K c u) (some (.int z.1)) z.2) n (Ax nu K c u) D 64 [(0, .ref (bo X + pp 207))] [] := by
  unfold f_X12_operand_b64 at h
  refine v_aload_n (pc := 64) O dX12_operand_64 0 rfl ?_
  obtain ⟨p1, e2, h⟩ := bind_some h
  refine v_callV (pc := 65) (a := 207) (As := []) (rest := []) (r := none) (D' := p1) O (bb0 hz) (c_X12_wrong hm e2) mw_X12_wrong im_X12_wrong se_X12_wrong ml_X12_259 kq_207 (by decide) rfl rfl rfl (by decide) (by decide) (Nat.le_of_ble_eq_true rfl) dX12_operand_65 rfl rfl ?_
  refine v_iconst (pc := 68) O dX12_operand_68 ic_0 ?_
  obtain rfl := Option.some.inj h
  exact v_zret (pc := 69) O hz narrow_b0 dX12_operand_69
def f_X12_operand_b114 (N : Nat) (x1 : Int32) (D : Dat) : Option (Int32 × Dat) :=
  (f_X12_emit 1 x1 D).bind (fun p3 => some (1, p3))
set_option maxHeartbeats 4000000 in
theorem w_X12_operand_b114 {X : Cx} {n nu c u : Nat} {K : Nat → Nat} {N : Nat} {z : Int32 × Dat} (O : Ok X cX12_operand RX12 (some .boolean) 5 106) (hm : wlm (xw X) = true) (hn : xn X = 2) (hz : Z0 X (Ax nu K c u)) (x1 : Int32) (D : Dat) (h : f_X12_operand_b114 N x1 D = some z) : V X (Q0 X n (Ax nu K c u) (some (.int z.1)) z.2) n (Ax nu K c u) D 114 [(0, .ref (bo X + pp 207)), (1, .int x1)] [] := by
  unfold f_X12_operand_b114 at h
  refine v_aload_n (pc := 114) O dX12_operand_114 0 rfl ?_
  refine v_iconst (pc := 115) O dX12_operand_115 ic_1 ?_
  refine v_iload_n (pc := 116) O dX12_operand_116 1 rfl ?_
  obtain ⟨p3, e4, h⟩ := bind_some h
  refine v_callV (pc := 117) (a := 207) (As := [.int 1, .int x1]) (rest := []) (r := none) (D' := p3) O (bb0 hz) (c_X12_emit hm e4) mw_X12_emit im_X12_emit se_X12_emit ml_X12_277 kq_207 (by decide) rfl rfl rfl (by decide) (by decide) (Nat.le_of_ble_eq_true rfl) dX12_operand_117 rfl rfl ?_
  refine v_iconst (pc := 120) O dX12_operand_120 ic_1 ?_
  obtain rfl := Option.some.inj h
  exact v_zret (pc := 121) O hz narrow_b1 dX12_operand_121
def f_X12_operand (N : Nat) (D : Dat) : Option (Int32 × Dat) :=
  if (dI D 207 37) = 35 then ((f_X12_emit 0 (dI D 207 38) D).bind (fun p21 => (f_X12_next N p21).bind (fun p23 => some (1, p23)))) else (if (dI D 207 37) = 40 then ((f_X12_enter N 40 0 D).bind (fun p19 => some (0, p19))) else (if (dI D 207 37) = 110 then (if (dI D 207 38) < 0 ∨ 26 ≤ ((dI D 207 38)).toNatClampNeg then none else (if (dI D 229 (dI D 207 38).toNatClampNeg) ≤ 3 then ((f_X12_next N D).bind (fun p10 => if (dI D 207 38) < 0 ∨ 26 ≤ ((dI D 207 38)).toNatClampNeg then none else (if (dI p10 229 (dI D 207 38).toNatClampNeg) = 3 then ((f_X12_enter N 91 (dI D 207 38) p10).bind (fun p17 => some (0, p17))) else (if (dI D 207 38) < 0 ∨ 26 ≤ ((dI D 207 38)).toNatClampNeg then none else (if (dI p10 229 (dI D 207 38).toNatClampNeg) = 0 then (if (dI D 207 38) < 0 ∨ 26 ≤ ((dI D 207 38)).toNatClampNeg then none else (f_X12_operand_b114 N (dI D 207 38) (sI p10 229 (dI D 207 38).toNatClampNeg 1))) else (f_X12_operand_b114 N (dI D 207 38) p10)))))) else (f_X12_operand_b64 N D))) else (f_X12_operand_b64 N D)))
set_option maxHeartbeats 4000000 in
theorem w_X12_operand {X : Cx} {n nu c u : Nat} {K : Nat → Nat} {N : Nat} {z : Int32 × Dat} (O : Ok X cX12_operand RX12 (some .boolean) 5 106) (hm : wlm (xw X) = true) (hn : xn X = 2) (hz : Z0 X (Ax nu K c u)) (D : Dat) (h : f_X12_operand N D = some z) : V X (Q0 X n (Ax nu K c u) (some (.int z.1)) z.2) n (Ax nu K c u) D 0 [(0, .ref (bo X + pp 207))] [] := by
  unfold f_X12_operand at h
  refine v_aload_n (pc := 0) O dX12_operand_0 0 rfl ?_
  refine v_getI (pc := 1) (a := 207) O gf_X12_37 fl_X12_229 kq_207 dX12_operand_1 ?_
  refine v_bipush (pc := 4) O dX12_operand_4 bp_35 ?_
  refine v_icmpne (pc := 6) 24 O dX12_operand_6 (by decide) (fun c5 => ?_) (fun c5 => ?_)
  · have h := (if_neg c5).symm.trans h
    refine v_aload_n (pc := 24) O dX12_operand_24 0 rfl ?_
    refine v_getI (pc := 25) (a := 207) O gf_X12_37 fl_X12_229 kq_207 dX12_operand_25 ?_
    refine v_bipush (pc := 28) O dX12_operand_28 bp_40 ?_
    refine v_icmpne (pc := 30) 42 O dX12_operand_30 (by decide) (fun c6 => ?_) (fun c6 => ?_)
    · have h := (if_neg c6).symm.trans h
      refine v_aload_n (pc := 42) O dX12_operand_42 0 rfl ?_
      refine v_getI (pc := 43) (a := 207) O gf_X12_37 fl_X12_229 kq_207 dX12_operand_43 ?_
      refine v_bipush (pc := 46) O dX12_operand_46 bp_110 ?_
      refine v_icmpne (pc := 48) 64 O dX12_operand_48 (by decide) (fun c7 => ?_) (fun c7 => ?_)
      · have h := (if_neg c7).symm.trans h
        refine v_sub [0] rfl ?_
        exact w_X12_operand_b64 O hm hn hz D h
      · have h := (if_pos c7).symm.trans h
        refine v_aload_n (pc := 51) O dX12_operand_51 0 rfl ?_
        refine v_getK (pc := 52) (a := 207) O hm gf_X12_42 fl_X12_81 kq_207 lk_207_42 dX12_operand_52 ?_
        refine v_aload_n (pc := 55) O dX12_operand_55 0 rfl ?_
        refine v_getI (pc := 56) (a := 207) O gf_X12_38 fl_X12_235 kq_207 dX12_operand_56 ?_
        obtain ⟨c8, h⟩ := or_none h
        refine v_iald (pc := 59) (a := 229) O kq_229 (inq lq_229 c8) dX12_operand_59 ?_
        refine v_iconst (pc := 60) O dX12_operand_60 ic_3 ?_
        refine v_icmple (pc := 61) 70 O dX12_operand_61 (by decide) (fun c9 => ?_) (fun c9 => ?_)
        · have h := (if_pos c9).symm.trans h
          refine v_aload_n (pc := 70) O dX12_operand_70 0 rfl ?_
          refine v_getI (pc := 71) (a := 207) O gf_X12_38 fl_X12_235 kq_207 dX12_operand_71 ?_
          refine v_istore_n (pc := 74) (lv' := [(1, .int (dI D 207 38)), (0, .ref (bo X + pp 207))]) O dX12_operand_74 rfl (by rw [hn]; decide) rfl ?_
          refine v_aload_n (pc := 75) O dX12_operand_75 1 rfl ?_
          obtain ⟨p10, e11, h⟩ := bind_some h
          refine v_callV (pc := 76) (a := 207) (As := []) (rest := []) (r := none) (D' := p10) O (bb0 hz) (c_X12_next hm e11) mw_X12_next im_X12_next se_X12_next ml_X12_256 kq_207 (by decide) rfl rfl rfl (by decide) (by decide) (Nat.le_of_ble_eq_true rfl) dX12_operand_76 rfl rfl ?_
          refine v_aload_n (pc := 79) O dX12_operand_79 1 rfl ?_
          refine v_getK (pc := 80) (a := 207) O hm gf_X12_42 fl_X12_81 kq_207 lk_207_42 dX12_operand_80 ?_
          refine v_iload_n (pc := 83) O dX12_operand_83 0 rfl ?_
          obtain ⟨c12, h⟩ := or_none h
          refine v_iald (pc := 84) (a := 229) O kq_229 (inq lq_229 c12) dX12_operand_84 ?_
          refine v_iconst (pc := 85) O dX12_operand_85 ic_3 ?_
          refine v_icmpne (pc := 86) 98 O dX12_operand_86 (by decide) (fun c13 => ?_) (fun c13 => ?_)
          · have h := (if_neg c13).symm.trans h
            refine v_aload_n (pc := 98) O dX12_operand_98 1 rfl ?_
            refine v_getK (pc := 99) (a := 207) O hm gf_X12_42 fl_X12_81 kq_207 lk_207_42 dX12_operand_99 ?_
            refine v_iload_n (pc := 102) O dX12_operand_102 0 rfl ?_
            obtain ⟨c14, h⟩ := or_none h
            refine v_iald (pc := 103) (a := 229) O kq_229 (inq lq_229 c14) dX12_operand_103 ?_
            refine v_ifne (pc := 104) 114 O dX12_operand_104 (by decide) (fun c15 => ?_) (fun c15 => ?_)
            · have h := (if_neg c15).symm.trans h
              refine v_sub [1, 0] rfl ?_
              exact w_X12_operand_b114 O hm hn hz (dI D 207 38) p10 h
            · have h := (if_pos c15).symm.trans h
              refine v_aload_n (pc := 107) O dX12_operand_107 1 rfl ?_
              refine v_getK (pc := 108) (a := 207) O hm gf_X12_42 fl_X12_81 kq_207 lk_207_42 dX12_operand_108 ?_
              refine v_iload_n (pc := 111) O dX12_operand_111 0 rfl ?_
              refine v_iconst (pc := 112) O dX12_operand_112 ic_1 ?_
              obtain ⟨c16, h⟩ := or_none h
              refine v_iast (pc := 113) (a := 229) O kq_229 (inq lq_229 c16) dX12_operand_113 ?_
              refine v_sub [1, 0] rfl ?_
              exact w_X12_operand_b114 O hm hn hz (dI D 207 38) (sI p10 229 (dI D 207 38).toNatClampNeg 1) h
          · have h := (if_pos c13).symm.trans h
            refine v_aload_n (pc := 89) O dX12_operand_89 1 rfl ?_
            refine v_bipush (pc := 90) O dX12_operand_90 bp_91 ?_
            refine v_iload_n (pc := 92) O dX12_operand_92 0 rfl ?_
            obtain ⟨p17, e18, h⟩ := bind_some h
            refine v_callV (pc := 93) (a := 207) (As := [.int 91, .int (dI D 207 38)]) (rest := []) (r := none) (D' := p17) O (bb0 hz) (c_X12_enter hm e18) mw_X12_enter im_X12_enter se_X12_enter ml_X12_288 kq_207 (by decide) rfl rfl rfl (by decide) (by decide) (Nat.le_of_ble_eq_true rfl) dX12_operand_93 rfl rfl ?_
            refine v_iconst (pc := 96) O dX12_operand_96 ic_0 ?_
            obtain rfl := Option.some.inj h
            exact v_zret (pc := 97) O hz narrow_b0 dX12_operand_97
        · have h := (if_neg c9).symm.trans h
          refine v_sub [0] rfl ?_
          exact w_X12_operand_b64 O hm hn hz D h
    · have h := (if_pos c6).symm.trans h
      refine v_aload_n (pc := 33) O dX12_operand_33 0 rfl ?_
      refine v_bipush (pc := 34) O dX12_operand_34 bp_40 ?_
      refine v_iconst (pc := 36) O dX12_operand_36 ic_0 ?_
      obtain ⟨p19, e20, h⟩ := bind_some h
      refine v_callV (pc := 37) (a := 207) (As := [.int 40, .int 0]) (rest := []) (r := none) (D' := p19) O (bb0 hz) (c_X12_enter hm e20) mw_X12_enter im_X12_enter se_X12_enter ml_X12_288 kq_207 (by decide) rfl rfl rfl (by decide) (by decide) (Nat.le_of_ble_eq_true rfl) dX12_operand_37 rfl rfl ?_
      refine v_iconst (pc := 40) O dX12_operand_40 ic_0 ?_
      obtain rfl := Option.some.inj h
      exact v_zret (pc := 41) O hz narrow_b0 dX12_operand_41
  · have h := (if_pos c5).symm.trans h
    refine v_aload_n (pc := 9) O dX12_operand_9 0 rfl ?_
    refine v_iconst (pc := 10) O dX12_operand_10 ic_0 ?_
    refine v_aload_n (pc := 11) O dX12_operand_11 0 rfl ?_
    refine v_getI (pc := 12) (a := 207) O gf_X12_38 fl_X12_235 kq_207 dX12_operand_12 ?_
    obtain ⟨p21, e22, h⟩ := bind_some h
    refine v_callV (pc := 15) (a := 207) (As := [.int 0, .int (dI D 207 38)]) (rest := []) (r := none) (D' := p21) O (bb0 hz) (c_X12_emit hm e22) mw_X12_emit im_X12_emit se_X12_emit ml_X12_277 kq_207 (by decide) rfl rfl rfl (by decide) (by decide) (Nat.le_of_ble_eq_true rfl) dX12_operand_15 rfl rfl ?_
    refine v_aload_n (pc := 18) O dX12_operand_18 0 rfl ?_
    obtain ⟨p23, e24, h⟩ := bind_some h
    refine v_callV (pc := 19) (a := 207) (As := []) (rest := []) (r := none) (D' := p23) O (bb0 hz) (c_X12_next hm e24) mw_X12_next im_X12_next se_X12_next ml_X12_256 kq_207 (by decide) rfl rfl rfl (by decide) (by decide) (Nat.le_of_ble_eq_true rfl) dX12_operand_19 rfl rfl ?_
    refine v_iconst (pc := 22) O dX12_operand_22 ic_1 ?_
    obtain rfl := Option.some.inj h
    exact v_zret (pc := 23) O hz narrow_b1 dX12_operand_23
theorem c_X12_operand {l : Launch} {w : Wx} {n nu c u : Nat} {K : Nat → Nat} {N : Nat} (hm : wlm w = true) {D : Dat} {z : Int32 × Dat} (h : f_X12_operand N D = some z) : C0 l w yX12_operand cX12_operand 2 (some .boolean) 5 106 [.ref (wb w + pp 207)] n (Ax nu K c u) D (some (.int z.1)) z.2 :=
  C0.of (by decide) (Nat.le_of_ble_eq_true rfl) (fun X e1 e2 e3 hz O => by
  subst e1
  subst e2
  exact w_X12_operand O hm e3 hz  D h)
def f_X12_behind_b51 (N : Nat) (D : Dat) : Option (Int32 × Dat) :=
  if (dI D 207 48) < 0 ∨ 64 ≤ ((dI D 207 48)).toNatClampNeg then none else ((f_X12_next N (sI (sI D 234 (dI D 207 48).toNatClampNeg (dI D 207 37)) 207 48 ((dI (sI D 234 (dI D 207 48).toNatClampNeg (dI D 207 37)) 207 48) + (1 : Int32)))).bind (fun p2 => some (1, p2)))
set_option maxHeartbeats 4000000 in
theorem w_X12_behind_b51 {X : Cx} {n nu c u : Nat} {K : Nat → Nat} {N : Nat} {z : Int32 × Dat} (O : Ok X cX12_behind RX12 (some .int) 3 63) (hm : wlm (xw X) = true) (hn : xn X = 3) (hz : Z0 X (Ax nu K c u)) (D : Dat) (h : f_X12_behind_b51 N D = some z) : V X (Q0 X n (Ax nu K c u) (some (.int z.1)) z.2) n (Ax nu K c u) D 51 [(0, .ref (bo X + pp 207))] [] := by
  unfold f_X12_behind_b51 at h
  refine v_aload_n (pc := 51) O dX12_behind_51 0 rfl ?_
  refine v_getK (pc := 52) (a := 207) O hm gf_X12_49 fl_X12_96 kq_207 lk_207_49 dX12_behind_52 ?_
  refine v_aload_n (pc := 55) O dX12_behind_55 0 rfl ?_
  refine v_getI (pc := 56) (a := 207) O gf_X12_48 fl_X12_268 kq_207 dX12_behind_56 ?_
  refine v_aload_n (pc := 59) O dX12_behind_59 0 rfl ?_
  refine v_getI (pc := 60) (a := 207) O gf_X12_37 fl_X12_229 kq_207 dX12_behind_60 ?_
  obtain ⟨c1, h⟩ := or_none h
  refine v_iast (pc := 63) (a := 234) O kq_234 (inq lq_234 c1) dX12_behind_63 ?_
  refine v_aload_n (pc := 64) O dX12_behind_64 0 rfl ?_
  refine v_dup (pc := 65) O dX12_behind_65 rfl ?_
  refine v_getI (pc := 66) (a := 207) O gf_X12_48 fl_X12_268 kq_207 dX12_behind_66 ?_
  refine v_iconst (pc := 69) O dX12_behind_69 ic_1 ?_
  refine v_iadd (pc := 70) O dX12_behind_70 ?_
  refine v_putI (pc := 71) (a := 207) O pf_X12_48 fl_X12_268 kq_207 dX12_behind_71 ?_
  refine v_aload_n (pc := 74) O dX12_behind_74 0 rfl ?_
  obtain ⟨p2, e3, h⟩ := bind_some h
  refine v_callV (pc := 75) (a := 207) (As := []) (rest := []) (r := none) (D' := p2) O (bb0 hz) (c_X12_next hm e3) mw_X12_next im_X12_next se_X12_next ml_X12_256 kq_207 (by decide) rfl rfl rfl (by decide) (by decide) (Nat.le_of_ble_eq_true rfl) dX12_behind_75 rfl rfl ?_
  refine v_iconst (pc := 78) O dX12_behind_78 ic_1 ?_
  obtain rfl := Option.some.inj h
  exact v_iret (pc := 79) O hz dX12_behind_79
def f_X12_behind_b31 (N : Nat) (x1 : Int32) (D : Dat) : Option (Int32 × Dat) :=
  (f_X12_flush N x1 D).bind (fun p4 => if x1 = 1 then (if (dI p4 207 51) < 0 ∨ 10 ≤ ((dI p4 207 51)).toNatClampNeg then none else (f_X12_behind_b51 N (sI p4 236 (dI p4 207 51).toNatClampNeg ((1 : Int32) &&& 1)))) else (f_X12_behind_b51 N p4))
set_option maxHeartbeats 4000000 in
theorem w_X12_behind_b31 {X : Cx} {n nu c u : Nat} {K : Nat → Nat} {N : Nat} {z : Int32 × Dat} (O : Ok X cX12_behind RX12 (some .int) 3 63) (hm : wlm (xw X) = true) (hn : xn X = 3) (hz : Z0 X (Ax nu K c u)) (x1 : Int32) (D : Dat) (h : f_X12_behind_b31 N x1 D = some z) : V X (Q0 X n (Ax nu K c u) (some (.int z.1)) z.2) n (Ax nu K c u) D 31 [(0, .ref (bo X + pp 207)), (1, .int x1)] [] := by
  unfold f_X12_behind_b31 at h
  refine v_aload_n (pc := 31) O dX12_behind_31 0 rfl ?_
  refine v_iload_n (pc := 32) O dX12_behind_32 1 rfl ?_
  obtain ⟨p4, e5, h⟩ := bind_some h
  refine v_callV (pc := 33) (a := 207) (As := [.int x1]) (rest := []) (r := none) (D' := p4) O (bb0 hz) (c_X12_flush hm e5) mw_X12_flush im_X12_flush se_X12_flush ml_X12_291 kq_207 (by decide) rfl rfl rfl (by decide) (by decide) (Nat.le_of_ble_eq_true rfl) dX12_behind_33 rfl rfl ?_
  refine v_iload_n (pc := 36) O dX12_behind_36 1 rfl ?_
  refine v_iconst (pc := 37) O dX12_behind_37 ic_1 ?_
  refine v_icmpne (pc := 38) 51 O dX12_behind_38 (by decide) (fun c6 => ?_) (fun c6 => ?_)
  · have h := (if_neg c6).symm.trans h
    refine v_sub [0] rfl ?_
    exact w_X12_behind_b51 O hm hn hz p4 h
  · have h := (if_pos c6).symm.trans h
    refine v_aload_n (pc := 41) O dX12_behind_41 0 rfl ?_
    refine v_getK (pc := 42) (a := 207) O hm gf_X12_52 fl_X12_102 kq_207 lk_207_52 dX12_behind_42 ?_
    refine v_aload_n (pc := 45) O dX12_behind_45 0 rfl ?_
    refine v_getI (pc := 46) (a := 207) O gf_X12_51 fl_X12_285 kq_207 dX12_behind_46 ?_
    refine v_iconst (pc := 49) O dX12_behind_49 ic_1 ?_
    obtain ⟨c7, h⟩ := or_none h
    refine v_zast (pc := 50) (a := 236) O kq_236 (inq lq_236 c7) dX12_behind_50 ?_
    refine v_sub [0] rfl ?_
    exact w_X12_behind_b51 O hm hn hz (sI p4 236 (dI p4 207 51).toNatClampNeg ((1 : Int32) &&& 1)) h
def f_X12_behind_b197 (N : Nat) (D : Dat) : Option (Int32 × Dat) :=
  some (2, D)
set_option maxHeartbeats 4000000 in
theorem w_X12_behind_b197 {X : Cx} {n nu c u : Nat} {K : Nat → Nat} {N : Nat} {z : Int32 × Dat} (O : Ok X cX12_behind RX12 (some .int) 3 63) (hm : wlm (xw X) = true) (hn : xn X = 3) (hz : Z0 X (Ax nu K c u)) (D : Dat) (h : f_X12_behind_b197 N D = some z) : V X (Q0 X n (Ax nu K c u) (some (.int z.1)) z.2) n (Ax nu K c u) D 197 [] [] := by
  unfold f_X12_behind_b197 at h
  refine v_iconst (pc := 197) O dX12_behind_197 ic_2 ?_
  obtain rfl := Option.some.inj h
  exact v_iret (pc := 198) O hz dX12_behind_198
def f_X12_behind_b177 (N : Nat) (x2 : Int32) (D : Dat) : Option (Int32 × Dat) :=
  if x2 = 91 then (if (dI D 207 48) < 0 ∨ 64 ≤ ((dI D 207 48)).toNatClampNeg then none else ((f_X12_emit 3 (dI D 235 (dI D 207 48).toNatClampNeg) D).bind (fun p10 => f_X12_behind_b197 N p10))) else (f_X12_behind_b197 N D)
set_option maxHeartbeats 4000000 in
theorem w_X12_behind_b177 {X : Cx} {n nu c u : Nat} {K : Nat → Nat} {N : Nat} {z : Int32 × Dat} (O : Ok X cX12_behind RX12 (some .int) 3 63) (hm : wlm (xw X) = true) (hn : xn X = 3) (hz : Z0 X (Ax nu K c u)) (x2 : Int32) (D : Dat) (h : f_X12_behind_b177 N x2 D = some z) : V X (Q0 X n (Ax nu K c u) (some (.int z.1)) z.2) n (Ax nu K c u) D 177 [(0, .ref (bo X + pp 207)), (2, .int x2)] [] := by
  unfold f_X12_behind_b177 at h
  refine v_iload_n (pc := 177) O dX12_behind_177 1 rfl ?_
  refine v_bipush (pc := 178) O dX12_behind_178 bp_91 ?_
  refine v_icmpne (pc := 180) 197 O dX12_behind_180 (by decide) (fun c8 => ?_) (fun c8 => ?_)
  · have h := (if_neg c8).symm.trans h
    refine v_sub [] rfl ?_
    exact w_X12_behind_b197 O hm hn hz D h
  · have h := (if_pos c8).symm.trans h
    refine v_aload_n (pc := 183) O dX12_behind_183 0 rfl ?_
    refine v_iconst (pc := 184) O dX12_behind_184 ic_3 ?_
    refine v_aload_n (pc := 185) O dX12_behind_185 0 rfl ?_
    refine v_getK (pc := 186) (a := 207) O hm gf_X12_50 fl_X12_99 kq_207 lk_207_50 dX12_behind_186 ?_
    refine v_aload_n (pc := 189) O dX12_behind_189 0 rfl ?_
    refine v_getI (pc := 190) (a := 207) O gf_X12_48 fl_X12_268 kq_207 dX12_behind_190 ?_
    obtain ⟨c9, h⟩ := or_none h
    refine v_iald (pc := 193) (a := 235) O kq_235 (inq lq_235 c9) dX12_behind_193 ?_
    obtain ⟨p10, e11, h⟩ := bind_some h
    refine v_callV (pc := 194) (a := 207) (As := [.int 3, .int (dI D 235 (dI D 207 48).toNatClampNeg)]) (rest := []) (r := none) (D' := p10) O (bb0 hz) (c_X12_emit hm e11) mw_X12_emit im_X12_emit se_X12_emit ml_X12_277 kq_207 (by decide) rfl rfl rfl (by decide) (by decide) (Nat.le_of_ble_eq_true rfl) dX12_behind_194 rfl rfl ?_
    refine v_sub [] rfl ?_
    exact w_X12_behind_b197 O hm hn hz p10 h
def f_X12_behind_b134 (N : Nat) (x2 : Int32) (s0 : Int32) (s1 : Int32) (D : Dat) : Option (Int32 × Dat) :=
  if s1 = s0 then ((f_X12_next N D).bind (fun p13 => f_X12_behind_b177 N x2 (sI (sI (sI p13 207 48 ((dI p13 207 48) - (1 : Int32))) 207 51 ((dI (sI p13 207 48 ((dI p13 207 48) - (1 : Int32))) 207 51) - (1 : Int32))) 207 41 ((dI (sI (sI p13 207 48 ((dI p13 207 48) - (1 : Int32))) 207 51 ((dI (sI p13 207 48 ((dI p13 207 48) - (1 : Int32))) 207 51) - (1 : Int32))) 207 41) - (1 : Int32))))) else ((f_X12_wrong D).bind (fun p15 => some (0, p15)))
set_option maxHeartbeats 4000000 in
theorem w_X12_behind_b134 {X : Cx} {n nu c u : Nat} {K : Nat → Nat} {N : Nat} {z : Int32 × Dat} (O : Ok X cX12_behind RX12 (some .int) 3 63) (hm : wlm (xw X) = true) (hn : xn X = 3) (hz : Z0 X (Ax nu K c u)) (x2 : Int32) (s0 : Int32) (s1 : Int32) (D : Dat) (h : f_X12_behind_b134 N x2 s0 s1 D = some z) : V X (Q0 X n (Ax nu K c u) (some (.int z.1)) z.2) n (Ax nu K c u) D 134 [(0, .ref (bo X + pp 207)), (2, .int x2)] [.int s0, .int s1] := by
  unfold f_X12_behind_b134 at h
  refine v_icmpeq (pc := 134) 143 O dX12_behind_134 (by decide) (fun c12 => ?_) (fun c12 => ?_)
  · have h := (if_pos c12).symm.trans h
    refine v_aload_n (pc := 143) O dX12_behind_143 0 rfl ?_
    obtain ⟨p13, e14, h⟩ := bind_some h
    refine v_callV (pc := 144) (a := 207) (As := []) (rest := []) (r := none) (D' := p13) O (bb0 hz) (c_X12_next hm e14) mw_X12_next im_X12_next se_X12_next ml_X12_256 kq_207 (by decide) rfl rfl rfl (by decide) (by decide) (Nat.le_of_ble_eq_true rfl) dX12_behind_144 rfl rfl ?_
    refine v_aload_n (pc := 147) O dX12_behind_147 0 rfl ?_
    refine v_dup (pc := 148) O dX12_behind_148 rfl ?_
    refine v_getI (pc := 149) (a := 207) O gf_X12_48 fl_X12_268 kq_207 dX12_behind_149 ?_
    refine v_iconst (pc := 152) O dX12_behind_152 ic_1 ?_
    refine v_isub (pc := 153) O dX12_behind_153 ?_
    refine v_putI (pc := 154) (a := 207) O pf_X12_48 fl_X12_268 kq_207 dX12_behind_154 ?_
    refine v_aload_n (pc := 157) O dX12_behind_157 0 rfl ?_
    refine v_dup (pc := 158) O dX12_behind_158 rfl ?_
    refine v_getI (pc := 159) (a := 207) O gf_X12_51 fl_X12_285 kq_207 dX12_behind_159 ?_
    refine v_iconst (pc := 162) O dX12_behind_162 ic_1 ?_
    refine v_isub (pc := 163) O dX12_behind_163 ?_
    refine v_putI (pc := 164) (a := 207) O pf_X12_51 fl_X12_285 kq_207 dX12_behind_164 ?_
    refine v_aload_n (pc := 167) O dX12_behind_167 0 rfl ?_
    refine v_dup (pc := 168) O dX12_behind_168 rfl ?_
    refine v_getI (pc := 169) (a := 207) O gf_X12_41 fl_X12_262 kq_207 dX12_behind_169 ?_
    refine v_iconst (pc := 172) O dX12_behind_172 ic_1 ?_
    refine v_isub (pc := 173) O dX12_behind_173 ?_
    refine v_putI (pc := 174) (a := 207) O pf_X12_41 fl_X12_262 kq_207 dX12_behind_174 ?_
    refine v_sub [0, 1] rfl ?_
    exact w_X12_behind_b177 O hm hn hz x2 (sI (sI (sI p13 207 48 ((dI p13 207 48) - (1 : Int32))) 207 51 ((dI (sI p13 207 48 ((dI p13 207 48) - (1 : Int32))) 207 51) - (1 : Int32))) 207 41 ((dI (sI (sI p13 207 48 ((dI p13 207 48) - (1 : Int32))) 207 51 ((dI (sI p13 207 48 ((dI p13 207 48) - (1 : Int32))) 207 51) - (1 : Int32))) 207 41) - (1 : Int32))) h
  · have h := (if_neg c12).symm.trans h
    refine v_aload_n (pc := 137) O dX12_behind_137 0 rfl ?_
    obtain ⟨p15, e16, h⟩ := bind_some h
    refine v_callV (pc := 138) (a := 207) (As := []) (rest := []) (r := none) (D' := p15) O (bb0 hz) (c_X12_wrong hm e16) mw_X12_wrong im_X12_wrong se_X12_wrong ml_X12_259 kq_207 (by decide) rfl rfl rfl (by decide) (by decide) (Nat.le_of_ble_eq_true rfl) dX12_behind_138 rfl rfl ?_
    refine v_iconst (pc := 141) O dX12_behind_141 ic_0 ?_
    obtain rfl := Option.some.inj h
    exact v_iret (pc := 142) O hz dX12_behind_142
def f_X12_behind_b80 (N : Nat) (D : Dat) : Option (Int32 × Dat) :=
  if (dI D 207 51) = 0 then ((f_X12_flush N 1 D).bind (fun p22 => (f_X12_emit (-1) 0 p22).bind (fun p24 => some (0, p24)))) else ((f_X12_flush N 1 D).bind (fun p18 => if ((dI p18 207 48) - (1 : Int32)) < 0 ∨ 64 ≤ (((dI p18 207 48) - (1 : Int32))).toNatClampNeg then none else (if (dI p18 234 ((dI p18 207 48) - (1 : Int32)).toNatClampNeg) = 40 then (f_X12_behind_b134 N (dI p18 234 ((dI p18 207 48) - (1 : Int32)).toNatClampNeg) 41 (dI p18 207 37) p18) else (f_X12_behind_b134 N (dI p18 234 ((dI p18 207 48) - (1 : Int32)).toNatClampNeg) 93 (dI p18 207 37) p18))))
set_option maxHeartbeats 4000000 in
theorem w_X12_behind_b80 {X : Cx} {n nu c u : Nat} {K : Nat → Nat} {N : Nat} {z : Int32 × Dat} (O : Ok X cX12_behind RX12 (some .int) 3 63) (hm : wlm (xw X) = true) (hn : xn X = 3) (hz : Z0 X (Ax nu K c u)) (D : Dat) (h : f_X12_behind_b80 N D = some z) : V X (Q0 X n (Ax nu K c u) (some (.int z.1)) z.2) n (Ax nu K c u) D 80 [(0, .ref (bo X + pp 207))] [] := by
  unfold f_X12_behind_b80 at h
  refine v_aload_n (pc := 80) O dX12_behind_80 0 rfl ?_
  refine v_getI (pc := 81) (a := 207) O gf_X12_51 fl_X12_285 kq_207 dX12_behind_81 ?_
  refine v_ifne (pc := 84) 100 O dX12_behind_84 (by decide) (fun c17 => ?_) (fun c17 => ?_)
  · have h := (if_neg c17).symm.trans h
    refine v_aload_n (pc := 100) O dX12_behind_100 0 rfl ?_
    refine v_iconst (pc := 101) O dX12_behind_101 ic_1 ?_
    obtain ⟨p18, e19, h⟩ := bind_some h
    refine v_callV (pc := 102) (a := 207) (As := [.int 1]) (rest := []) (r := none) (D' := p18) O (bb0 hz) (c_X12_flush hm e19) mw_X12_flush im_X12_flush se_X12_flush ml_X12_291 kq_207 (by decide) rfl rfl rfl (by decide) (by decide) (Nat.le_of_ble_eq_true rfl) dX12_behind_102 rfl rfl ?_
    refine v_aload_n (pc := 105) O dX12_behind_105 0 rfl ?_
    refine v_getK (pc := 106) (a := 207) O hm gf_X12_49 fl_X12_96 kq_207 lk_207_49 dX12_behind_106 ?_
    refine v_aload_n (pc := 109) O dX12_behind_109 0 rfl ?_
    refine v_getI (pc := 110) (a := 207) O gf_X12_48 fl_X12_268 kq_207 dX12_behind_110 ?_
    refine v_iconst (pc := 113) O dX12_behind_113 ic_1 ?_
    refine v_isub (pc := 114) O dX12_behind_114 ?_
    obtain ⟨c20, h⟩ := or_none h
    refine v_iald (pc := 115) (a := 234) O kq_234 (inq lq_234 c20) dX12_behind_115 ?_
    refine v_istore_n (pc := 116) (lv' := [(2, .int (dI p18 234 ((dI p18 207 48) - (1 : Int32)).toNatClampNeg)), (0, .ref (bo X + pp 207))]) O dX12_behind_116 rfl (by rw [hn]; decide) rfl ?_
    refine v_aload_n (pc := 117) O dX12_behind_117 1 rfl ?_
    refine v_getI (pc := 118) (a := 207) O gf_X12_37 fl_X12_229 kq_207 dX12_behind_118 ?_
    refine v_iload_n (pc := 121) O dX12_behind_121 0 rfl ?_
    refine v_bipush (pc := 122) O dX12_behind_122 bp_40 ?_
    refine v_icmpne (pc := 124) 132 O dX12_behind_124 (by decide) (fun c21 => ?_) (fun c21 => ?_)
    · have h := (if_neg c21).symm.trans h
      refine v_bipush (pc := 132) O dX12_behind_132 bp_93 ?_
      refine v_sub [1, 0] rfl ?_
      exact w_X12_behind_b134 O hm hn hz (dI p18 234 ((dI p18 207 48) - (1 : Int32)).toNatClampNeg) 93 (dI p18 207 37) p18 h
    · have h := (if_pos c21).symm.trans h
      refine v_bipush (pc := 127) O dX12_behind_127 bp_41 ?_
      refine v_goto (pc := 129) 134 O dX12_behind_129 (by decide) ?_
      refine v_sub [1, 0] rfl ?_
      exact w_X12_behind_b134 O hm hn hz (dI p18 234 ((dI p18 207 48) - (1 : Int32)).toNatClampNeg) 41 (dI p18 207 37) p18 h
  · have h := (if_pos c17).symm.trans h
    refine v_aload_n (pc := 87) O dX12_behind_87 0 rfl ?_
    refine v_iconst (pc := 88) O dX12_behind_88 ic_1 ?_
    obtain ⟨p22, e23, h⟩ := bind_some h
    refine v_callV (pc := 89) (a := 207) (As := [.int 1]) (rest := []) (r := none) (D' := p22) O (bb0 hz) (c_X12_flush hm e23) mw_X12_flush im_X12_flush se_X12_flush ml_X12_291 kq_207 (by decide) rfl rfl rfl (by decide) (by decide) (Nat.le_of_ble_eq_true rfl) dX12_behind_89 rfl rfl ?_
    refine v_aload_n (pc := 92) O dX12_behind_92 0 rfl ?_
    refine v_iconst (pc := 93) O dX12_behind_93 ic_m1 ?_
    refine v_iconst (pc := 94) O dX12_behind_94 ic_0 ?_
    obtain ⟨p24, e25, h⟩ := bind_some h
    refine v_callV (pc := 95) (a := 207) (As := [.int (-1), .int 0]) (rest := []) (r := none) (D' := p24) O (bb0 hz) (c_X12_emit hm e25) mw_X12_emit im_X12_emit se_X12_emit ml_X12_277 kq_207 (by decide) rfl rfl rfl (by decide) (by decide) (Nat.le_of_ble_eq_true rfl) dX12_behind_95 rfl rfl ?_
    refine v_iconst (pc := 98) O dX12_behind_98 ic_0 ?_
    obtain rfl := Option.some.inj h
    exact v_iret (pc := 99) O hz dX12_behind_99
def f_X12_behind (N : Nat) (D : Dat) : Option (Int32 × Dat) :=
  (f_X12_rank (dI D 207 37) D).bind (fun p26 => if 1 < p26.1 then (f_X12_behind_b31 N p26.1 p26.2) else (if p26.1 = 1 then (if (dI p26.2 207 51) < 0 ∨ 10 ≤ ((dI p26.2 207 51)).toNatClampNeg then none else (if (dI p26.2 236 (dI p26.2 207 51).toNatClampNeg) = 0 then (f_X12_behind_b31 N p26.1 p26.2) else (f_X12_behind_b80 N p26.2))) else (f_X12_behind_b80 N p26.2)))
set_option maxHeartbeats 4000000 in
theorem w_X12_behind {X : Cx} {n nu c u : Nat} {K : Nat → Nat} {N : Nat} {z : Int32 × Dat} (O : Ok X cX12_behind RX12 (some .int) 3 63) (hm : wlm (xw X) = true) (hn : xn X = 3) (hz : Z0 X (Ax nu K c u)) (D : Dat) (h : f_X12_behind N D = some z) : V X (Q0 X n (Ax nu K c u) (some (.int z.1)) z.2) n (Ax nu K c u) D 0 [(0, .ref (bo X + pp 207))] [] := by
  unfold f_X12_behind at h
  refine v_aload_n (pc := 0) O dX12_behind_0 0 rfl ?_
  refine v_aload_n (pc := 1) O dX12_behind_1 0 rfl ?_
  refine v_getI (pc := 2) (a := 207) O gf_X12_37 fl_X12_229 kq_207 dX12_behind_2 ?_
  obtain ⟨p26, e27, h⟩ := bind_some h
  refine v_callV (pc := 5) (a := 207) (As := [.int (dI D 207 37)]) (rest := []) (r := (some (.int p26.1))) (D' := p26.2) O (bb0 hz) (c_X12_rank hm e27) mw_X12_rank im_X12_rank se_X12_rank ml_X12_271 kq_207 (by decide) rfl rfl rfl (by decide) (by decide) (Nat.le_of_ble_eq_true rfl) dX12_behind_5 rfl rfl ?_
  refine v_istore_n (pc := 8) (lv' := [(1, .int p26.1), (0, .ref (bo X + pp 207))]) O dX12_behind_8 rfl (by rw [hn]; decide) rfl ?_
  refine v_iload_n (pc := 9) O dX12_behind_9 0 rfl ?_
  refine v_iconst (pc := 10) O dX12_behind_10 ic_1 ?_
  refine v_icmpgt (pc := 11) 31 O dX12_behind_11 (by decide) (fun c28 => ?_) (fun c28 => ?_)
  · have h := (if_pos c28).symm.trans h
    refine v_sub [1, 0] rfl ?_
    exact w_X12_behind_b31 O hm hn hz p26.1 p26.2 h
  · have h := (if_neg c28).symm.trans h
    refine v_iload_n (pc := 14) O dX12_behind_14 0 rfl ?_
    refine v_iconst (pc := 15) O dX12_behind_15 ic_1 ?_
    refine v_icmpne (pc := 16) 80 O dX12_behind_16 (by decide) (fun c29 => ?_) (fun c29 => ?_)
    · have h := (if_neg c29).symm.trans h
      refine v_sub [1] rfl ?_
      exact w_X12_behind_b80 O hm hn hz p26.2 h
    · have h := (if_pos c29).symm.trans h
      refine v_aload_n (pc := 19) O dX12_behind_19 1 rfl ?_
      refine v_getK (pc := 20) (a := 207) O hm gf_X12_52 fl_X12_102 kq_207 lk_207_52 dX12_behind_20 ?_
      refine v_aload_n (pc := 23) O dX12_behind_23 1 rfl ?_
      refine v_getI (pc := 24) (a := 207) O gf_X12_51 fl_X12_285 kq_207 dX12_behind_24 ?_
      obtain ⟨c30, h⟩ := or_none h
      refine v_zald (pc := 27) (a := 236) O kq_236 (inq lq_236 c30) dX12_behind_27 ?_
      refine v_ifne (pc := 28) 80 O dX12_behind_28 (by decide) (fun c31 => ?_) (fun c31 => ?_)
      · have h := (if_neg c31).symm.trans h
        refine v_sub [1] rfl ?_
        exact w_X12_behind_b80 O hm hn hz p26.2 h
      · have h := (if_pos c31).symm.trans h
        refine v_sub [1, 0] rfl ?_
        exact w_X12_behind_b31 O hm hn hz p26.1 p26.2 h
theorem c_X12_behind {l : Launch} {w : Wx} {n nu c u : Nat} {K : Nat → Nat} {N : Nat} (hm : wlm w = true) {D : Dat} {z : Int32 × Dat} (h : f_X12_behind N D = some z) : C0 l w yX12_behind cX12_behind 3 (some .int) 3 63 [.ref (wb w + pp 207)] n (Ax nu K c u) D (some (.int z.1)) z.2 :=
  C0.of (by decide) (Nat.le_of_ble_eq_true rfl) (fun X e1 e2 e3 hz O => by
  subst e1
  subst e2
  exact w_X12_behind O hm e3 hz  D h)
