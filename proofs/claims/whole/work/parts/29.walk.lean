theorem kq_6 {nu c u : Nat} {K : Nat → Nat} : (Ax nu K c u).1 6 = 1 := kd_lt (K := K) (a := 6) (by decide) rfl
theorem fl_X1_9 : Cond.fieldLink RX1 9 RX1 (TX1 2).2.1 (TX1 2).2.2.1 ∈ tb := tb_of 285 (by decide +kernel) (by decide +kernel)
theorem inb_X1 : ∀ w ∈ u_ws RX1 TX1 6, w ∈ tb := by decide +kernel
theorem gf_X1_2 : FI 1 RX1 TX1 6 tyX1 2 3 := ⟨rfl, inb_X1, tyX1_ok, nmX1, by decide, by decide, rfl, rfl, rfl⟩
theorem lk_6_2 : lks 6 2 = some 7 := by decide +kernel
theorem kq_7 {nu c u : Nat} {K : Nat → Nat} : (Ax nu K c u).1 7 = 14 := kd_lt (K := K) (a := 7) (by decide) rfl
theorem lq_7 {nu c u : Nat} {K : Nat → Nat} : (Ax nu K c u).2.1 7 = 26 := rfl
theorem kq_3 {nu c u : Nat} {K : Nat → Nat} : (Ax nu K c u).1 3 = 5 := kd_lt (K := K) (a := 3) (by decide) rfl
theorem fl_X11_96 : Cond.fieldLink RX11 96 RX11 (TX11 10).2.1 (TX11 10).2.2.1 ∈ tb := tb_of 504 (by decide +kernel) (by decide +kernel)
theorem gf_X11_10 : FI 11 RX11 TX11 16 tyX11 10 2 := ⟨rfl, inb_X11, tyX11_ok, nmX11, by decide, by decide, rfl, rfl, rfl⟩
theorem fl_X11_53 : Cond.fieldLink RX11 53 RX11 (TX11 4).2.1 (TX11 4).2.2.1 ∈ tb := tb_of 498 (by decide +kernel) (by decide +kernel)
theorem gf_X11_4 : FI 11 RX11 TX11 16 tyX11 4 3 := ⟨rfl, inb_X11, tyX11_ok, nmX11, by decide, by decide, rfl, rfl, rfl⟩
theorem lk_0_4 : lks 0 4 = some 107 := by decide +kernel
theorem ml_X11_226 : Cond.methodLink RX11 226 yX0_has ∈ tb := tb_of 1482 (by decide +kernel) (by decide +kernel)
theorem ml_X11_230 : Cond.methodLink RX11 230 yX0_operation ∈ tb := tb_of 1499 (by decide +kernel) (by decide +kernel)
theorem fl_X11_213 : Cond.fieldLink RX11 213 RX11 (TX11 13).2.1 (TX11 13).2.2.1 ∈ tb := tb_of 507 (by decide +kernel) (by decide +kernel)
theorem gf_X11_13 : FI 11 RX11 TX11 16 tyX11 13 0 := ⟨rfl, inb_X11, tyX11_ok, nmX11, by decide, by decide, rfl, rfl, rfl⟩
theorem fl_X11_262 : Cond.fieldLink RX11 262 RX11 (TX11 12).2.1 (TX11 12).2.2.1 ∈ tb := tb_of 506 (by decide +kernel) (by decide +kernel)
theorem gf_X11_12 : FI 11 RX11 TX11 16 tyX11 12 0 := ⟨rfl, inb_X11, tyX11_ok, nmX11, by decide, by decide, rfl, rfl, rfl⟩
theorem cw_X3_isCell : Cond.code yX3_isCell cX3_isCell 1 (some .boolean) ∈ tb := tb_of 1689 (by decide +kernel) (by decide +kernel)
theorem mw_X3_isCell : MW yX3_isCell cX3_isCell 1 (some .boolean) 1 := ⟨cw_X3_isCell, ini_X3, by decide +kernel⟩
theorem sm_X3_isCell : Cond.static yX3_isCell ∈ tb := tb_of 1688 (by decide +kernel) (by decide +kernel)
theorem ml_X11_274 : Cond.methodLink RX11 274 yX3_isCell ∈ tb := tb_of 1687 (by decide +kernel) (by decide +kernel)
theorem ml_X11_277 : Cond.methodLink RX11 277 yX3_cell ∈ tb := tb_of 1690 (by decide +kernel) (by decide +kernel)
theorem ml_X11_280 : Cond.methodLink RX11 280 yX0_argument ∈ tb := tb_of 1698 (by decide +kernel) (by decide +kernel)
theorem fl_X11_103 : Cond.fieldLink RX11 103 RX11 (TX11 14).2.1 (TX11 14).2.2.1 ∈ tb := tb_of 508 (by decide +kernel) (by decide +kernel)
theorem gf_X11_14 : FI 11 RX11 TX11 16 tyX11 14 0 := ⟨rfl, inb_X11, tyX11_ok, nmX11, by decide, by decide, rfl, rfl, rfl⟩
theorem pf_X11_14 : PI 11 RX11 TX11 16 tyX11 14 0 .int := ⟨gf_X11_14, rfl, rfl⟩
theorem fl_X11_107 : Cond.fieldLink RX11 107 RX11 (TX11 15).2.1 (TX11 15).2.2.1 ∈ tb := tb_of 509 (by decide +kernel) (by decide +kernel)
theorem gf_X11_15 : FI 11 RX11 TX11 16 tyX11 15 0 := ⟨rfl, inb_X11, tyX11_ok, nmX11, by decide, by decide, rfl, rfl, rfl⟩
theorem pf_X11_15 : PI 11 RX11 TX11 16 tyX11 15 0 .int := ⟨gf_X11_15, rfl, rfl⟩
theorem ini_X4 : Cond.initialized RX4 ∈ tb := tb_of 171 (by decide +kernel) (by decide +kernel)
theorem pf_X11_12 : PI 11 RX11 TX11 16 tyX11 12 0 .boolean := ⟨gf_X11_12, rfl, rfl⟩
theorem pf_X11_13 : PI 11 RX11 TX11 16 tyX11 13 0 .boolean := ⟨gf_X11_13, rfl, rfl⟩
theorem cw_X9_forget : Cond.code yX9_forget cX9_forget 1 none ∈ tb := tb_of 562 (by decide +kernel) (by decide +kernel)
theorem mw_X9_forget : MW yX9_forget cX9_forget 1 none 0 := ⟨cw_X9_forget, ini_X9, by decide +kernel⟩
theorem im_X9_forget : Cond.instanceMethod yX9_forget ∈ tb := tb_of 560 (by decide +kernel) (by decide +kernel)
theorem se_X9_forget : Cond.selects (yX9_forget).cls yX9_forget yX9_forget ∈ tb := tb_of 561 (by decide +kernel) (by decide +kernel)
theorem ml_X11_297 : Cond.methodLink RX11 297 yX9_forget ∈ tb := tb_of 559 (by decide +kernel) (by decide +kernel)
theorem ml_X11_298 : Cond.methodLink RX11 298 yJ13_bitCount_95d88 ∈ tb := tb_of 1339 (by decide +kernel) (by decide +kernel)
theorem fl_X1_27 : Cond.fieldLink RX1 27 RX1 (TX1 5).2.1 (TX1 5).2.2.1 ∈ tb := tb_of 288 (by decide +kernel) (by decide +kernel)
theorem gf_X1_5 : FI 1 RX1 TX1 6 tyX1 5 0 := ⟨rfl, inb_X1, tyX1_ok, nmX1, by decide, by decide, rfl, rfl, rfl⟩
theorem fl_X1_31 : Cond.fieldLink RX1 31 RX1 (TX1 1).2.1 (TX1 1).2.2.1 ∈ tb := tb_of 284 (by decide +kernel) (by decide +kernel)
theorem gf_X1_1 : FI 1 RX1 TX1 6 tyX1 1 2 := ⟨rfl, inb_X1, tyX1_ok, nmX1, by decide, by decide, rfl, rfl, rfl⟩
theorem fl_X1_23 : Cond.fieldLink RX1 23 RX1 (TX1 0).2.1 (TX1 0).2.2.1 ∈ tb := tb_of 283 (by decide +kernel) (by decide +kernel)
theorem gf_X1_0 : FI 1 RX1 TX1 6 tyX1 0 3 := ⟨rfl, inb_X1, tyX1_ok, nmX1, by decide, by decide, rfl, rfl, rfl⟩
theorem lk_6_0 : lks 6 0 = some 1 := by decide +kernel
theorem ml_X1_107 : Cond.methodLink RX1 107 yX2_fits ∈ tb := tb_of 1191 (by decide +kernel) (by decide +kernel)
theorem fl_X1_111 : Cond.fieldLink RX1 111 RX7 (TX7 1).2.1 (TX7 1).2.2.1 ∈ tb := tb_of 1032 (by decide +kernel) (by decide +kernel)
theorem pf_X1_5 : PI 1 RX1 TX1 6 tyX1 5 0 .int := ⟨gf_X1_5, rfl, rfl⟩
theorem tw_X1_112_114 : TW RX1 112 114 "java/lang/UnsupportedOperationException" := ⟨by decide +kernel, tb_of 1195 (by decide +kernel) (by decide +kernel), tb_of 180 (by decide +kernel) (by decide +kernel), by decide +kernel, by decide +kernel, by decide +kernel⟩
theorem fl_X1_115 : Cond.fieldLink RX1 115 RX7 (TX7 4).2.1 (TX7 4).2.2.1 ∈ tb := tb_of 1044 (by decide +kernel) (by decide +kernel)
theorem fl_X1_118 : Cond.fieldLink RX1 118 RX7 (TX7 5).2.1 (TX7 5).2.2.1 ∈ tb := tb_of 1048 (by decide +kernel) (by decide +kernel)
theorem cw_X4_argument : Cond.code yX4_argument cX4_argument 2 (some .int) ∈ tb := tb_of 1174 (by decide +kernel) (by decide +kernel)
theorem mw_X4_argument : MW yX4_argument cX4_argument 2 (some .int) 1 := ⟨cw_X4_argument, ini_X4, by decide +kernel⟩
theorem im_X4_argument : Cond.instanceMethod yX4_argument ∈ tb := tb_of 1172 (by decide +kernel) (by decide +kernel)
theorem se_X4_argument : Cond.selects (yX4_argument).cls yX4_argument yX4_argument ∈ tb := tb_of 1173 (by decide +kernel) (by decide +kernel)
theorem ml_X1_121 : Cond.methodLink RX1 121 yX4_argument ∈ tb := tb_of 1171 (by decide +kernel) (by decide +kernel)
theorem cw_X4_operation : Cond.code yX4_operation cX4_operation 2 (some .int) ∈ tb := tb_of 1178 (by decide +kernel) (by decide +kernel)
theorem mw_X4_operation : MW yX4_operation cX4_operation 2 (some .int) 1 := ⟨cw_X4_operation, ini_X4, by decide +kernel⟩
theorem im_X4_operation : Cond.instanceMethod yX4_operation ∈ tb := tb_of 1176 (by decide +kernel) (by decide +kernel)
theorem se_X4_operation : Cond.selects (yX4_operation).cls yX4_operation yX4_operation ∈ tb := tb_of 1177 (by decide +kernel) (by decide +kernel)
theorem ml_X1_124 : Cond.methodLink RX1 124 yX4_operation ∈ tb := tb_of 1175 (by decide +kernel) (by decide +kernel)
theorem cw_X4_rowMark : Cond.code yX4_rowMark cX4_rowMark 2 (some .int) ∈ tb := tb_of 1182 (by decide +kernel) (by decide +kernel)
theorem mw_X4_rowMark : MW yX4_rowMark cX4_rowMark 2 (some .int) 1 := ⟨cw_X4_rowMark, ini_X4, by decide +kernel⟩
theorem im_X4_rowMark : Cond.instanceMethod yX4_rowMark ∈ tb := tb_of 1180 (by decide +kernel) (by decide +kernel)
theorem se_X4_rowMark : Cond.selects (yX4_rowMark).cls yX4_rowMark yX4_rowMark ∈ tb := tb_of 1181 (by decide +kernel) (by decide +kernel)
theorem ml_X1_69 : Cond.methodLink RX1 69 yX4_rowMark ∈ tb := tb_of 1179 (by decide +kernel) (by decide +kernel)
theorem ml_X1_41 : Cond.methodLink RX1 41 yX2_shade ∈ tb := tb_of 1159 (by decide +kernel) (by decide +kernel)
theorem fl_X5_32 : Cond.fieldLink RX5 32 RX5 (TX5 2).2.1 (TX5 2).2.2.1 ∈ tb := tb_of 233 (by decide +kernel) (by decide +kernel)
theorem inb_X5 : ∀ w ∈ u_ws RX5 TX5 14, w ∈ tb := by decide +kernel
theorem gf_X5_2 : FI 5 RX5 TX5 14 tyX5 2 0 := ⟨rfl, inb_X5, tyX5_ok, nmX5, by decide, by decide, rfl, rfl, rfl⟩
theorem fl_X5_36 : Cond.fieldLink RX5 36 RX5 (TX5 7).2.1 (TX5 7).2.2.1 ∈ tb := tb_of 243 (by decide +kernel) (by decide +kernel)
theorem gf_X5_7 : FI 5 RX5 TX5 14 tyX5 7 0 := ⟨rfl, inb_X5, tyX5_ok, nmX5, by decide, by decide, rfl, rfl, rfl⟩
theorem pf_X5_2 : PI 5 RX5 TX5 14 tyX5 2 0 .int := ⟨gf_X5_2, rfl, rfl⟩
theorem cl_X5_39 : Cond.constantLong RX5 39 (255) ∈ tb := tb_of 761 (by decide +kernel) (by decide +kernel)
theorem cl_X5_41 : Cond.constantLong RX5 41 (32) ∈ tb := tb_of 762 (by decide +kernel) (by decide +kernel)
theorem cl_X5_43 : Cond.constantLong RX5 43 (126) ∈ tb := tb_of 763 (by decide +kernel) (by decide +kernel)
theorem fl_X5_9 : Cond.fieldLink RX5 9 RX5 (TX5 1).2.1 (TX5 1).2.2.1 ∈ tb := tb_of 232 (by decide +kernel) (by decide +kernel)
theorem gf_X5_1 : FI 5 RX5 TX5 14 tyX5 1 3 := ⟨rfl, inb_X5, tyX5_ok, nmX5, by decide, by decide, rfl, rfl, rfl⟩
theorem lk_3_1 : lks 3 1 = some 4 := by decide +kernel
theorem kq_4 {nu c u : Nat} {K : Nat → Nat} : (Ax nu K c u).1 4 = 13 := kd_lt (K := K) (a := 4) (by decide) rfl
theorem lq_4 {nu c u : Nat} {K : Nat → Nat} : (Ax nu K c u).2.1 4 = 240 := rfl
def f_X11_value (x1 : Int32) (D : Dat) : Option (Sum Nat Int32 × Dat) :=
  (f_X3_isCell x1 D).bind (fun p1 => if p1.1 = 0 then (some (.inl 0, p1.2)) else ((f_X3_cell x1 p1.2).bind (fun p4 => some (.inr p4.1, p4.2))))
set_option maxHeartbeats 4000000 in
theorem w_X11_value {X : Cx} {n nu c u : Nat} {K : Nat → Nat} {z : Sum Nat Int32 × Dat} (O : Ok X cX11_value RX11 (some .int) 6 100) (hm : wlm (xw X) = true) (hn : xn X = 2) (hz : Z0 X (Ax nu K c u)) (hT : T1 X (zi z)) (x1 : Int32) (D : Dat) (h : f_X11_value x1 D = some z) : V X (Q1 X n (Ax nu K c u) (zi z)) n (Ax nu K c u) D 0 [(0, .ref (bo X + pp 0)), (1, .int x1)] [] := by
  unfold f_X11_value at h
  refine v_iload_n (pc := 0) O dX11_value_0 1 rfl ?_
  obtain ⟨p1, e2, h⟩ := bind_some h
  refine v_callS (pc := 1) (As := [.int x1]) (rest := []) (r := (some (.int p1.1))) (D' := p1.2) O (bb0 hz) (c_X3_isCell hm e2) mw_X3_isCell sm_X3_isCell ml_X11_274 rfl (by decide) (by decide) (Nat.le_of_ble_eq_true rfl) dX11_value_1 rfl rfl ?_
  refine v_ifne (pc := 4) 15 O dX11_value_4 (by decide) (fun c3 => ?_) (fun c3 => ?_)
  · have h := (if_neg c3).symm.trans h
    refine v_aload_n (pc := 15) O dX11_value_15 0 rfl ?_
    refine v_getK (pc := 16) (a := 0) O hm gf_X11_5 fl_X11_60 kq_0 lk_0_5 dX11_value_16 ?_
    refine v_iload_n (pc := 19) O dX11_value_19 1 rfl ?_
    obtain ⟨p4, e5, h⟩ := bind_some h
    refine v_callV (pc := 20) (a := 181) (As := [.int x1]) (rest := []) (r := (some (.int p4.1))) (D' := p4.2) O (bb0 hz) (c_X3_cell hm e5) mw_X3_cell im_X3_cell se_X3_cell ml_X11_277 kq_181 (by decide) rfl rfl rfl (by decide) (by decide) (Nat.le_of_ble_eq_true rfl) dX11_value_20 rfl rfl ?_
    obtain rfl := Option.some.inj h
    exact v_r1 (v_iret (pc := 23) O hz dX11_value_23)
  · have h := (if_pos c3).symm.trans h
    obtain rfl := Option.some.inj h
    exact v_throw (pc := 7) (e := 0) O hz hT rfl tw_X11_114_116 (by decide) (Nat.le_of_ble_eq_true rfl) dX11_value_7 dX11_value_10 dX11_value_11 dX11_value_14
theorem c_X11_value {l : Launch} {w : Wx} {n nu c u : Nat} {K : Nat → Nat} (hl : l.stackTraces = false) (hm : wlm w = true) {x1 : Int32} {D : Dat} {z : Sum Nat Int32 × Dat} (h : f_X11_value x1 D = some z) : C1 l w yX11_value cX11_value 2 (some .int) 6 100 [.ref (wb w + pp 0), .int x1] n (Ax nu K c u) D (zi z) :=
  C1.of hl (by decide) (Nat.le_of_ble_eq_true rfl) (fun X e1 e2 e3 hz hT O => by
  subst e1
  subst e2
  exact w_X11_value O hm e3 hz hT x1 D h)
def f_X11_instruction_b42 (s0 : Int32) (D : Dat) : Option (Sum Nat Int32 × Dat) :=
  some (.inr s0, D)
set_option maxHeartbeats 4000000 in
theorem w_X11_instruction_b42 {X : Cx} {n nu c u : Nat} {K : Nat → Nat} {z : Sum Nat Int32 × Dat} (O : Ok X cX11_instruction RX11 (some .int) 6 100) (hm : wlm (xw X) = true) (hn : xn X = 3) (hz : Z0 X (Ax nu K c u)) (hT : T1 X (zi z)) (s0 : Int32) (D : Dat) (h : f_X11_instruction_b42 s0 D = some z) : V X (Q1 X n (Ax nu K c u) (zi z)) n (Ax nu K c u) D 42 [] [.int s0] := by
  unfold f_X11_instruction_b42 at h
  obtain rfl := Option.some.inj h
  exact v_r1 (v_iret (pc := 42) O hz dX11_instruction_42)
def f_X11_instruction (x1 : Int32) (x2 : Int32) (D : Dat) : Option (Sum Nat Int32 × Dat) :=
  ((dR D 0 10)).bind (fun a1 => if a1 = 201 ∨ a1 = 204 then ((f_X0_has a1 x1 D).bind (fun p4 => if p4.1 = 0 then (some (.inl 4, p4.2)) else (if x2 = 0 then (((dR p4.2 0 10)).bind (fun a8 => if a8 = 201 ∨ a8 = 204 then ((f_X0_operation a8 x1 p4.2).bind (fun p11 => f_X11_instruction_b42 p11.1 p11.2)) else none)) else (((dR p4.2 0 10)).bind (fun a13 => if a13 = 201 ∨ a13 = 204 then ((f_X0_argument a13 x1 p4.2).bind (fun p16 => f_X11_instruction_b42 p16.1 p16.2)) else none))))) else none)
set_option maxHeartbeats 4000000 in
theorem w_X11_instruction {X : Cx} {n nu c u : Nat} {K : Nat → Nat} {z : Sum Nat Int32 × Dat} (O : Ok X cX11_instruction RX11 (some .int) 6 100) (hm : wlm (xw X) = true) (hn : xn X = 3) (hz : Z0 X (Ax nu K c u)) (hT : T1 X (zi z)) (x1 : Int32) (x2 : Int32) (D : Dat) (h : f_X11_instruction x1 x2 D = some z) : V X (Q1 X n (Ax nu K c u) (zi z)) n (Ax nu K c u) D 0 [(0, .ref (bo X + pp 0)), (1, .int x1), (2, .int x2)] [] := by
  unfold f_X11_instruction at h
  refine v_aload_n (pc := 0) O dX11_instruction_0 0 rfl ?_
  refine v_getR (pc := 1) (a := 0) O gf_X11_10 fl_X11_96 kq_0 dX11_instruction_1 ?_
  refine v_iload_n (pc := 4) O dX11_instruction_4 1 rfl ?_
  obtain ⟨a1, e2, h⟩ := bind_some h
  rw [e2]
  obtain ⟨c3, h⟩ := if_none h
  obtain ⟨p4, e5, h⟩ := bind_some h
  refine v_callV (pc := 5) (a := a1) (As := [.int x1]) (rest := []) (r := (some (.int p4.1))) (D' := p4.2) O (bb0 hz) (c_X0_has hm c3 e5) mw_X0_has im_X0_has se_X0_has ml_X11_226 (kt_X0 c3) (by decide) rfl rfl rfl (by decide) (by decide) (Nat.le_of_ble_eq_true rfl) dX11_instruction_5 rfl rfl ?_
  refine v_ifne (pc := 8) 19 O dX11_instruction_8 (by decide) (fun c6 => ?_) (fun c6 => ?_)
  · have h := (if_neg c6).symm.trans h
    refine v_iload_n (pc := 19) O dX11_instruction_19 2 rfl ?_
    refine v_ifeq (pc := 20) 34 O dX11_instruction_20 (by decide) (fun c7 => ?_) (fun c7 => ?_)
    · have h := (if_pos c7).symm.trans h
      refine v_aload_n (pc := 34) O dX11_instruction_34 0 rfl ?_
      refine v_getR (pc := 35) (a := 0) O gf_X11_10 fl_X11_96 kq_0 dX11_instruction_35 ?_
      refine v_iload_n (pc := 38) O dX11_instruction_38 1 rfl ?_
      obtain ⟨a8, e9, h⟩ := bind_some h
      rw [e9]
      obtain ⟨c10, h⟩ := if_none h
      obtain ⟨p11, e12, h⟩ := bind_some h
      refine v_callV (pc := 39) (a := a8) (As := [.int x1]) (rest := []) (r := (some (.int p11.1))) (D' := p11.2) O (bb0 hz) (c_X0_operation hm c10 e12) mw_X0_operation im_X0_operation se_X0_operation ml_X11_230 (kt_X0 c10) (by decide) rfl rfl rfl (by decide) (by decide) (Nat.le_of_ble_eq_true rfl) dX11_instruction_39 rfl rfl ?_
      refine v_sub [] rfl ?_
      exact w_X11_instruction_b42 O hm hn hz hT p11.1 p11.2 h
    · have h := (if_neg c7).symm.trans h
      refine v_aload_n (pc := 23) O dX11_instruction_23 0 rfl ?_
      refine v_getR (pc := 24) (a := 0) O gf_X11_10 fl_X11_96 kq_0 dX11_instruction_24 ?_
      refine v_iload_n (pc := 27) O dX11_instruction_27 1 rfl ?_
      obtain ⟨a13, e14, h⟩ := bind_some h
      rw [e14]
      obtain ⟨c15, h⟩ := if_none h
      obtain ⟨p16, e17, h⟩ := bind_some h
      refine v_callV (pc := 28) (a := a13) (As := [.int x1]) (rest := []) (r := (some (.int p16.1))) (D' := p16.2) O (bb0 hz) (c_X0_argument hm c15 e17) mw_X0_argument im_X0_argument se_X0_argument ml_X11_280 (kt_X0 c15) (by decide) rfl rfl rfl (by decide) (by decide) (Nat.le_of_ble_eq_true rfl) dX11_instruction_28 rfl rfl ?_
      refine v_goto (pc := 31) 42 O dX11_instruction_31 (by decide) ?_
      refine v_sub [] rfl ?_
      exact w_X11_instruction_b42 O hm hn hz hT p16.1 p16.2 h
  · have h := (if_pos c6).symm.trans h
    obtain rfl := Option.some.inj h
    exact v_throw (pc := 11) (e := 4) O hz hT rfl tw_X11_183_185 (by decide) (Nat.le_of_ble_eq_true rfl) dX11_instruction_11 dX11_instruction_14 dX11_instruction_15 dX11_instruction_18
theorem c_X11_instruction {l : Launch} {w : Wx} {n nu c u : Nat} {K : Nat → Nat} (hl : l.stackTraces = false) (hm : wlm w = true) {x1 : Int32} {x2 : Int32} {D : Dat} {z : Sum Nat Int32 × Dat} (h : f_X11_instruction x1 x2 D = some z) : C1 l w yX11_instruction cX11_instruction 3 (some .int) 6 100 [.ref (wb w + pp 0), .int x1, .int x2] n (Ax nu K c u) D (zi z) :=
  C1.of hl (by decide) (Nat.le_of_ble_eq_true rfl) (fun X e1 e2 e3 hz hT O => by
  subst e1
  subst e2
  exact w_X11_instruction O hm e3 hz hT x1 x2 D h)
def f_X11_asNumber_b9 (s0 : Int32) (D : Dat) : Option (Int32 × Dat) :=
  some (s0, D)
set_option maxHeartbeats 4000000 in
theorem w_X11_asNumber_b9 {X : Cx} {n nu c u : Nat} {K : Nat → Nat} {z : Int32 × Dat} (O : Ok X cX11_asNumber RX11 (some .int) 0 0) (hm : wlm (xw X) = true) (hn : xn X = 1) (hz : Z0 X (Ax nu K c u)) (s0 : Int32) (D : Dat) (h : f_X11_asNumber_b9 s0 D = some z) : V X (Q0 X n (Ax nu K c u) (some (.int z.1)) z.2) n (Ax nu K c u) D 9 [] [.int s0] := by
  unfold f_X11_asNumber_b9 at h
  obtain rfl := Option.some.inj h
  exact v_iret (pc := 9) O hz dX11_asNumber_9
def f_X11_asNumber (x0 : Int32) (D : Dat) : Option (Int32 × Dat) :=
  if x0 = 0 then (f_X11_asNumber_b9 0 D) else (f_X11_asNumber_b9 1 D)
set_option maxHeartbeats 4000000 in
theorem w_X11_asNumber {X : Cx} {n nu c u : Nat} {K : Nat → Nat} {z : Int32 × Dat} (O : Ok X cX11_asNumber RX11 (some .int) 0 0) (hm : wlm (xw X) = true) (hn : xn X = 1) (hz : Z0 X (Ax nu K c u)) (x0 : Int32) (D : Dat) (h : f_X11_asNumber x0 D = some z) : V X (Q0 X n (Ax nu K c u) (some (.int z.1)) z.2) n (Ax nu K c u) D 0 [(0, .int x0)] [] := by
  unfold f_X11_asNumber at h
  refine v_iload_n (pc := 0) O dX11_asNumber_0 0 rfl ?_
  refine v_ifeq (pc := 1) 8 O dX11_asNumber_1 (by decide) (fun c1 => ?_) (fun c1 => ?_)
  · have h := (if_pos c1).symm.trans h
    refine v_iconst (pc := 8) O dX11_asNumber_8 ic_0 ?_
    refine v_sub [] rfl ?_
    exact w_X11_asNumber_b9 O hm hn hz 0 D h
  · have h := (if_neg c1).symm.trans h
    refine v_iconst (pc := 4) O dX11_asNumber_4 ic_1 ?_
    refine v_goto (pc := 5) 9 O dX11_asNumber_5 (by decide) ?_
    refine v_sub [] rfl ?_
    exact w_X11_asNumber_b9 O hm hn hz 1 D h
theorem c_X11_asNumber {l : Launch} {w : Wx} {n nu c u : Nat} {K : Nat → Nat} (hm : wlm w = true) {x0 : Int32} {D : Dat} {z : Int32 × Dat} (h : f_X11_asNumber x0 D = some z) : C0 l w yX11_asNumber cX11_asNumber 1 (some .int) 0 0 [.int x0] n (Ax nu K c u) D (some (.int z.1)) z.2 :=
  C0.of (by decide) (Nat.le_of_ble_eq_true rfl) (fun X e1 e2 e3 hz O => by
  subst e1
  subst e2
  exact w_X11_asNumber O hm e3 hz x0 D h)
def f_X11_tell (x1 : Int32) (x2 : Int32) (D : Dat) : Option (Dat) :=
  some (sI (sI D 0 14 x1) 0 15 x2)
set_option maxHeartbeats 4000000 in
theorem w_X11_tell {X : Cx} {n nu c u : Nat} {K : Nat → Nat} {z : Dat} (O : Ok X cX11_tell RX11 none 0 0) (hm : wlm (xw X) = true) (hn : xn X = 3) (hz : Z0 X (Ax nu K c u)) (x1 : Int32) (x2 : Int32) (D : Dat) (h : f_X11_tell x1 x2 D = some z) : V X (Q0 X n (Ax nu K c u) none z) n (Ax nu K c u) D 0 [(0, .ref (bo X + pp 0)), (1, .int x1), (2, .int x2)] [] := by
  unfold f_X11_tell at h
  refine v_aload_n (pc := 0) O dX11_tell_0 0 rfl ?_
  refine v_iload_n (pc := 1) O dX11_tell_1 1 rfl ?_
  refine v_putI (pc := 2) (a := 0) O pf_X11_14 fl_X11_103 kq_0 dX11_tell_2 ?_
  refine v_aload_n (pc := 5) O dX11_tell_5 0 rfl ?_
  refine v_iload_n (pc := 6) O dX11_tell_6 2 rfl ?_
  refine v_putI (pc := 7) (a := 0) O pf_X11_15 fl_X11_107 kq_0 dX11_tell_7 ?_
  obtain rfl := Option.some.inj h
  exact v_ret (pc := 10) O hz dX11_tell_10
theorem c_X11_tell {l : Launch} {w : Wx} {n nu c u : Nat} {K : Nat → Nat} (hm : wlm w = true) {x1 : Int32} {x2 : Int32} {D : Dat} {z : Dat} (h : f_X11_tell x1 x2 D = some z) : C0 l w yX11_tell cX11_tell 3 none 0 0 [.ref (wb w + pp 0), .int x1, .int x2] n (Ax nu K c u) D none z :=
  C0.of (by decide) (Nat.le_of_ble_eq_true rfl) (fun X e1 e2 e3 hz O => by
  subst e1
  subst e2
  exact w_X11_tell O hm e3 hz x1 x2 D h)
def f_X11_forgetFindings (D : Dat) : Option (Dat) :=
  (f_X9_forget (sI (sI D 0 12 0) 0 13 0)).bind (fun p1 => some p1)
set_option maxHeartbeats 4000000 in
theorem w_X11_forgetFindings {X : Cx} {n nu c u : Nat} {K : Nat → Nat} {z : Dat} (O : Ok X cX11_forgetFindings RX11 none 1 20) (hm : wlm (xw X) = true) (hn : xn X = 1) (hz : Z0 X (Ax nu K c u)) (D : Dat) (h : f_X11_forgetFindings D = some z) : V X (Q0 X n (Ax nu K c u) none z) n (Ax nu K c u) D 0 [(0, .ref (bo X + pp 0))] [] := by
  unfold f_X11_forgetFindings at h
  refine v_aload_n (pc := 0) O dX11_forgetFindings_0 0 rfl ?_
  refine v_iconst (pc := 1) O dX11_forgetFindings_1 ic_0 ?_
  refine v_putZ (pc := 2) (a := 0) O pf_X11_12 fl_X11_262 kq_0 narrow_b0 dX11_forgetFindings_2 ?_
  refine v_aload_n (pc := 5) O dX11_forgetFindings_5 0 rfl ?_
  refine v_iconst (pc := 6) O dX11_forgetFindings_6 ic_0 ?_
  refine v_putZ (pc := 7) (a := 0) O pf_X11_13 fl_X11_213 kq_0 narrow_b0 dX11_forgetFindings_7 ?_
  refine v_aload_n (pc := 10) O dX11_forgetFindings_10 0 rfl ?_
  refine v_getK (pc := 11) (a := 0) O hm gf_X11_4 fl_X11_53 kq_0 lk_0_4 dX11_forgetFindings_11 ?_
  obtain ⟨p1, e2, h⟩ := bind_some h
  refine v_callV (pc := 14) (a := 107) (As := []) (rest := []) (r := none) (D' := p1) O (bb0 hz) (c_X9_forget hm e2) mw_X9_forget im_X9_forget se_X9_forget ml_X11_297 kq_107 (by decide) rfl rfl rfl (by decide) (by decide) (Nat.le_of_ble_eq_true rfl) dX11_forgetFindings_14 rfl rfl ?_
  obtain rfl := Option.some.inj h
  exact v_ret (pc := 17) O hz dX11_forgetFindings_17
theorem c_X11_forgetFindings {l : Launch} {w : Wx} {n nu c u : Nat} {K : Nat → Nat} (hm : wlm w = true) {D : Dat} {z : Dat} (h : f_X11_forgetFindings D = some z) : C0 l w yX11_forgetFindings cX11_forgetFindings 1 none 1 20 [.ref (wb w + pp 0)] n (Ax nu K c u) D none z :=
  C0.of (by decide) (Nat.le_of_ble_eq_true rfl) (fun X e1 e2 e3 hz O => by
  subst e1
  subst e2
  exact w_X11_forgetFindings O hm e3 hz  D h)
def f_X11_bit (x0 : Int32) (D : Dat) : Option (Int64 × Dat) :=
  some (((1 : Int64) <<< ((x0 : Int32).toInt64 &&& 63)), D)
set_option maxHeartbeats 4000000 in
theorem w_X11_bit {X : Cx} {n nu c u : Nat} {K : Nat → Nat} {z : Int64 × Dat} (O : Ok X cX11_bit RX11 (some .long) 0 0) (hm : wlm (xw X) = true) (hn : xn X = 1) (hz : Z0 X (Ax nu K c u)) (x0 : Int32) (D : Dat) (h : f_X11_bit x0 D = some z) : V X (Q0 X n (Ax nu K c u) (some (.long z.1)) z.2) n (Ax nu K c u) D 0 [(0, .int x0)] [] := by
  unfold f_X11_bit at h
  refine v_lconst (pc := 0) (v := 1) O dX11_bit_0 rfl ?_
  refine v_iload_n (pc := 1) O dX11_bit_1 0 rfl ?_
  refine v_lshl (pc := 2) O dX11_bit_2 ?_
  obtain rfl := Option.some.inj h
  exact v_lret (pc := 3) O hz dX11_bit_3
theorem c_X11_bit {l : Launch} {w : Wx} {n nu c u : Nat} {K : Nat → Nat} (hm : wlm w = true) {x0 : Int32} {D : Dat} {z : Int64 × Dat} (h : f_X11_bit x0 D = some z) : C0 l w yX11_bit cX11_bit 1 (some .long) 0 0 [.int x0] n (Ax nu K c u) D (some (.long z.1)) z.2 :=
  C0.of (by decide) (Nat.le_of_ble_eq_true rfl) (fun X e1 e2 e3 hz O => by
  subst e1
  subst e2
  exact w_X11_bit O hm e3 hz x0 D h)
def f_X11_holds_b25 (s0 : Int32) (D : Dat) : Option (Int32 × Dat) :=
  if s0 &&& 1 = s0 then some (s0, D) else none
set_option maxHeartbeats 4000000 in
theorem w_X11_holds_b25 {X : Cx} {n nu c u : Nat} {K : Nat → Nat} {z : Int32 × Dat} (O : Ok X cX11_holds RX11 (some .boolean) 0 0) (hm : wlm (xw X) = true) (hn : xn X = 3) (hz : Z0 X (Ax nu K c u)) (s0 : Int32) (D : Dat) (h : f_X11_holds_b25 s0 D = some z) : V X (Q0 X n (Ax nu K c u) (some (.int z.1)) z.2) n (Ax nu K c u) D 25 [] [.int s0] := by
  unfold f_X11_holds_b25 at h
  obtain ⟨c1, h⟩ := if_none h
  obtain rfl := Option.some.inj h
  exact v_zret (pc := 25) O hz (congrArg Value.int c1) dX11_holds_25
def f_X11_holds_b24 (D : Dat) : Option (Int32 × Dat) :=
  f_X11_holds_b25 0 D
set_option maxHeartbeats 4000000 in
theorem w_X11_holds_b24 {X : Cx} {n nu c u : Nat} {K : Nat → Nat} {z : Int32 × Dat} (O : Ok X cX11_holds RX11 (some .boolean) 0 0) (hm : wlm (xw X) = true) (hn : xn X = 3) (hz : Z0 X (Ax nu K c u)) (D : Dat) (h : f_X11_holds_b24 D = some z) : V X (Q0 X n (Ax nu K c u) (some (.int z.1)) z.2) n (Ax nu K c u) D 24 [] [] := by
  unfold f_X11_holds_b24 at h
  refine v_iconst (pc := 24) O dX11_holds_24 ic_0 ?_
  refine v_sub [] rfl ?_
  exact w_X11_holds_b25 O hm hn hz 0 D h
def f_X11_holds (x0 : Int64) (x2 : Int32) (D : Dat) : Option (Int32 × Dat) :=
  if x2 < 0 then (f_X11_holds_b24 D) else (if 64 ≤ x2 then (f_X11_holds_b24 D) else (if (lg_cmp ((x0 >>> ((x2 : Int32).toInt64 &&& 63)) &&& (1 : Int64)) (1 : Int64)) = 0 then (f_X11_holds_b25 1 D) else (f_X11_holds_b24 D)))
set_option maxHeartbeats 4000000 in
theorem w_X11_holds {X : Cx} {n nu c u : Nat} {K : Nat → Nat} {z : Int32 × Dat} (O : Ok X cX11_holds RX11 (some .boolean) 0 0) (hm : wlm (xw X) = true) (hn : xn X = 3) (hz : Z0 X (Ax nu K c u)) (x0 : Int64) (x2 : Int32) (D : Dat) (h : f_X11_holds x0 x2 D = some z) : V X (Q0 X n (Ax nu K c u) (some (.int z.1)) z.2) n (Ax nu K c u) D 0 [(0, .long x0), (2, .int x2)] [] := by
  unfold f_X11_holds at h
  refine v_iload_n (pc := 0) O dX11_holds_0 1 rfl ?_
  refine v_iflt (pc := 1) 24 O dX11_holds_1 (by decide) (fun c2 => ?_) (fun c2 => ?_)
  · have h := (if_pos c2).symm.trans h
    refine v_sub [] rfl ?_
    exact w_X11_holds_b24 O hm hn hz D h
  · have h := (if_neg c2).symm.trans h
    refine v_iload_n (pc := 4) O dX11_holds_4 1 rfl ?_
    refine v_bipush (pc := 5) O dX11_holds_5 bp_64 ?_
    refine v_icmpge (pc := 7) 24 O dX11_holds_7 (by decide) (fun c3 => ?_) (fun c3 => ?_)
    · have h := (if_pos c3).symm.trans h
      refine v_sub [] rfl ?_
      exact w_X11_holds_b24 O hm hn hz D h
    · have h := (if_neg c3).symm.trans h
      refine v_lload_n (pc := 10) O dX11_holds_10 0 rfl ?_
      refine v_iload_n (pc := 11) O dX11_holds_11 1 rfl ?_
      refine v_lshr (pc := 12) O dX11_holds_12 ?_
      refine v_lconst (pc := 13) (v := 1) O dX11_holds_13 rfl ?_
      refine v_land (pc := 14) O dX11_holds_14 ?_
      refine v_lconst (pc := 15) (v := 1) O dX11_holds_15 rfl ?_
      refine v_lcmp (pc := 16) O dX11_holds_16 ?_
      refine v_ifne (pc := 17) 24 O dX11_holds_17 (by decide) (fun c4 => ?_) (fun c4 => ?_)
      · have h := (if_neg c4).symm.trans h
        refine v_sub [] rfl ?_
        exact w_X11_holds_b24 O hm hn hz D h
      · have h := (if_pos c4).symm.trans h
        refine v_iconst (pc := 20) O dX11_holds_20 ic_1 ?_
        refine v_goto (pc := 21) 25 O dX11_holds_21 (by decide) ?_
        refine v_sub [] rfl ?_
        exact w_X11_holds_b25 O hm hn hz 1 D h
theorem c_X11_holds {l : Launch} {w : Wx} {n nu c u : Nat} {K : Nat → Nat} (hm : wlm w = true) {x0 : Int64} {x2 : Int32} {D : Dat} {z : Int32 × Dat} (h : f_X11_holds x0 x2 D = some z) : C0 l w yX11_holds cX11_holds 3 (some .boolean) 0 0 [.long x0, .int x2] n (Ax nu K c u) D (some (.int z.1)) z.2 :=
  C0.of (by decide) (Nat.le_of_ble_eq_true rfl) (fun X e1 e2 e3 hz O => by
  subst e1
  subst e2
  exact w_X11_holds O hm e3 hz x0 x2 D h)
def f_X11_least (x0 : Int64) (D : Dat) : Option (Int32 × Dat) :=
  (f_J13_bitCount_95d88 ((x0 &&& (-x0)) - (1 : Int64)) D).bind (fun p1 => some (p1.1, p1.2))
set_option maxHeartbeats 4000000 in
theorem w_X11_least {X : Cx} {n nu c u : Nat} {K : Nat → Nat} {z : Int32 × Dat} (O : Ok X cX11_least RX11 (some .int) 1 21) (hm : wlm (xw X) = true) (hn : xn X = 2) (hz : Z0 X (Ax nu K c u)) (x0 : Int64) (D : Dat) (h : f_X11_least x0 D = some z) : V X (Q0 X n (Ax nu K c u) (some (.int z.1)) z.2) n (Ax nu K c u) D 0 [(0, .long x0)] [] := by
  unfold f_X11_least at h
  refine v_lload_n (pc := 0) O dX11_least_0 0 rfl ?_
  refine v_lload_n (pc := 1) O dX11_least_1 0 rfl ?_
  refine v_lneg (pc := 2) O dX11_least_2 ?_
  refine v_land (pc := 3) O dX11_least_3 ?_
  refine v_lconst (pc := 4) (v := 1) O dX11_least_4 rfl ?_
  refine v_lsub (pc := 5) O dX11_least_5 ?_
  obtain ⟨p1, e2, h⟩ := bind_some h
  refine v_callS (pc := 6) (As := [.long ((x0 &&& (-x0)) - (1 : Int64))]) (rest := []) (r := (some (.int p1.1))) (D' := p1.2) O (bb0 hz) (c_J13_bitCount_95d88 hm e2) mw_J13_bitCount_95d88 sm_J13_bitCount_95d88 ml_X11_298 rfl (by decide) (by decide) (Nat.le_of_ble_eq_true rfl) dX11_least_6 rfl rfl ?_
  obtain rfl := Option.some.inj h
  exact v_iret (pc := 9) O hz dX11_least_9
theorem c_X11_least {l : Launch} {w : Wx} {n nu c u : Nat} {K : Nat → Nat} (hm : wlm w = true) {x0 : Int64} {D : Dat} {z : Int32 × Dat} (h : f_X11_least x0 D = some z) : C0 l w yX11_least cX11_least 2 (some .int) 1 21 [.long x0] n (Ax nu K c u) D (some (.int z.1)) z.2 :=
  C0.of (by decide) (Nat.le_of_ble_eq_true rfl) (fun X e1 e2 e3 hz O => by
  subst e1
  subst e2
  exact w_X11_least O hm e3 hz x0 D h)
def f_X1_place (D : Dat) : Option (Int32 × Dat) :=
  some ((dI D 6 5), D)
set_option maxHeartbeats 4000000 in
theorem w_X1_place {X : Cx} {n nu c u : Nat} {K : Nat → Nat} {z : Int32 × Dat} (O : Ok X cX1_place RX1 (some .int) 0 0) (hm : wlm (xw X) = true) (hn : xn X = 1) (hz : Z0 X (Ax nu K c u)) (D : Dat) (h : f_X1_place D = some z) : V X (Q0 X n (Ax nu K c u) (some (.int z.1)) z.2) n (Ax nu K c u) D 0 [(0, .ref (bo X + pp 6))] [] := by
  unfold f_X1_place at h
  refine v_aload_n (pc := 0) O dX1_place_0 0 rfl ?_
  refine v_getI (pc := 1) (a := 6) O gf_X1_5 fl_X1_27 kq_6 dX1_place_1 ?_
  obtain rfl := Option.some.inj h
  exact v_iret (pc := 4) O hz dX1_place_4
theorem c_X1_place {l : Launch} {w : Wx} {n nu c u : Nat} {K : Nat → Nat} (hm : wlm w = true) {D : Dat} {z : Int32 × Dat} (h : f_X1_place D = some z) : C0 l w yX1_place cX1_place 1 (some .int) 0 0 [.ref (wb w + pp 6)] n (Ax nu K c u) D (some (.int z.1)) z.2 :=
  C0.of (by decide) (Nat.le_of_ble_eq_true rfl) (fun X e1 e2 e3 hz O => by
  subst e1
  subst e2
  exact w_X1_place O hm e3 hz  D h)
def f_X1_joinInto_b36 (N : Nat) (nu : Nat) (K : Nat → Nat) (rec_4 : Nat → Nat → Int32 → Int32 → Dat → Option (Int32 × Dat)) (x0 : Nat) (x1 : Nat) (x3 : Int32) (x4 : Int32) (s0 : Int32) (D : Dat) : Option (Int32 × Dat) :=
  if kd K x0 = 14 then (if x3 < 0 ∨ (nl nu x0) ≤ (x3).toNatClampNeg then none else (rec_4 x0 x1 s0 (x3 + 1) (sI D x0 (x3).toNatClampNeg x4))) else none
set_option maxHeartbeats 4000000 in
theorem w_X1_joinInto_b36 {X : Cx} {n nu c u : Nat} {K : Nat → Nat} {N : Nat} {rec_4 : Nat → Nat → Int32 → Int32 → Dat → Option (Int32 × Dat)} {z : Int32 × Dat} (O : Ok X cX1_joinInto RX1 (some .boolean) 0 0) (hm : wlm (xw X) = true) (hn : xn X = 5) (hz : Z0 X (Ax nu K c u)) (hrec_4 : ∀ (x0 : Nat) (x1 : Nat) (x2 : Int32) (x3 : Int32) (D : Dat), rec_4 x0 x1 x2 x3 D = some z → V X (Q0 X n (Ax nu K c u) (some (.int z.1)) z.2) n (Ax nu K c u) D 4 [(0, .ref (bo X + pp x0)), (1, .ref (bo X + pp x1)), (2, .int x2), (3, .int x3)] []) (x0 : Nat) (x1 : Nat) (x3 : Int32) (x4 : Int32) (s0 : Int32) (D : Dat) (h : f_X1_joinInto_b36 N nu K rec_4 x0 x1 x3 x4 s0 D = some z) : V X (Q0 X n (Ax nu K c u) (some (.int z.1)) z.2) n (Ax nu K c u) D 36 [(0, .ref (bo X + pp x0)), (1, .ref (bo X + pp x1)), (3, .int x3), (4, .int x4)] [.int s0] := by
  unfold f_X1_joinInto_b36 at h
  refine v_istore_n (pc := 36) (lv' := [(2, .int s0), (0, .ref (bo X + pp x0)), (1, .ref (bo X + pp x1)), (3, .int x3), (4, .int x4)]) O dX1_joinInto_36 rfl (by rw [hn]; decide) rfl ?_
  refine v_aload_n (pc := 37) O dX1_joinInto_37 1 rfl ?_
  refine v_iload_n (pc := 38) O dX1_joinInto_38 3 rfl ?_
  refine v_iload (pc := 39) O dX1_joinInto_39 4 rfl ?_
  obtain ⟨c1, h⟩ := if_none h
  obtain ⟨c2, h⟩ := or_none h
  refine v_iast (pc := 41) (a := x0) O c1 (inq rfl c2) dX1_joinInto_41 ?_
  refine v_iinc (pc := 42) (lv' := [(3, .int (x3 + 1)), (2, .int s0), (0, .ref (bo X + pp x0)), (1, .ref (bo X + pp x1)), (4, .int x4)]) O dX1_joinInto_42 3 rfl (congrArg (fun q => x3 + q) ic_1) (by rw [hn]; decide) rfl ?_
  refine v_goto (pc := 45) 4 O dX1_joinInto_45 (by decide) ?_
  refine v_sub [2, 3, 1, 0] rfl ?_
  exact hrec_4 x0 x1 s0 (x3 + 1) (sI D x0 (x3).toNatClampNeg x4) h
def f_X1_joinInto_b31 (N : Nat) (nu : Nat) (K : Nat → Nat) (rec_4 : Nat → Nat → Int32 → Int32 → Dat → Option (Int32 × Dat)) (x0 : Nat) (x1 : Nat) (x3 : Int32) (x4 : Int32) (D : Dat) : Option (Int32 × Dat) :=
  f_X1_joinInto_b36 N nu K rec_4 x0 x1 x3 x4 1 D
set_option maxHeartbeats 4000000 in
theorem w_X1_joinInto_b31 {X : Cx} {n nu c u : Nat} {K : Nat → Nat} {N : Nat} {rec_4 : Nat → Nat → Int32 → Int32 → Dat → Option (Int32 × Dat)} {z : Int32 × Dat} (O : Ok X cX1_joinInto RX1 (some .boolean) 0 0) (hm : wlm (xw X) = true) (hn : xn X = 5) (hz : Z0 X (Ax nu K c u)) (hrec_4 : ∀ (x0 : Nat) (x1 : Nat) (x2 : Int32) (x3 : Int32) (D : Dat), rec_4 x0 x1 x2 x3 D = some z → V X (Q0 X n (Ax nu K c u) (some (.int z.1)) z.2) n (Ax nu K c u) D 4 [(0, .ref (bo X + pp x0)), (1, .ref (bo X + pp x1)), (2, .int x2), (3, .int x3)] []) (x0 : Nat) (x1 : Nat) (x3 : Int32) (x4 : Int32) (D : Dat) (h : f_X1_joinInto_b31 N nu K rec_4 x0 x1 x3 x4 D = some z) : V X (Q0 X n (Ax nu K c u) (some (.int z.1)) z.2) n (Ax nu K c u) D 31 [(0, .ref (bo X + pp x0)), (1, .ref (bo X + pp x1)), (3, .int x3), (4, .int x4)] [] := by
  unfold f_X1_joinInto_b31 at h
  refine v_iconst (pc := 31) O dX1_joinInto_31 ic_1 ?_
  refine v_goto (pc := 32) 36 O dX1_joinInto_32 (by decide) ?_
  refine v_sub [0, 1, 2, 3] rfl ?_
  exact w_X1_joinInto_b36 O hm hn hz hrec_4 x0 x1 x3 x4 1 D h
def f_X1_joinInto_b4 (N : Nat) (nu : Nat) (K : Nat → Nat) : Nat → Nat → Nat → Int32 → Int32 → Dat → Option (Int32 × Dat)
  | 0, _, _, _, _, _ => none
  | g + 1, x0, x1, x2, x3, D => if 26 ≤ x3 then (if x2 &&& 1 = x2 then some (x2, D) else none) else (if kd K x0 = 14 then (if x3 < 0 ∨ (nl nu x0) ≤ (x3).toNatClampNeg then none else (if kd K x1 = 14 then (if x3 < 0 ∨ (nl nu x1) ≤ (x3).toNatClampNeg then none else (if x2 = 0 then (if x3 < 0 ∨ (nl nu x0) ≤ (x3).toNatClampNeg then none else (if ((dI D x0 (x3).toNatClampNeg) ||| (dI D x1 (x3).toNatClampNeg)) = (dI D x0 (x3).toNatClampNeg) then (f_X1_joinInto_b36 N nu K (f_X1_joinInto_b4 N nu K g) x0 x1 x3 ((dI D x0 (x3).toNatClampNeg) ||| (dI D x1 (x3).toNatClampNeg)) 0 D) else (f_X1_joinInto_b31 N nu K (f_X1_joinInto_b4 N nu K g) x0 x1 x3 ((dI D x0 (x3).toNatClampNeg) ||| (dI D x1 (x3).toNatClampNeg)) D))) else (f_X1_joinInto_b31 N nu K (f_X1_joinInto_b4 N nu K g) x0 x1 x3 ((dI D x0 (x3).toNatClampNeg) ||| (dI D x1 (x3).toNatClampNeg)) D))) else none)) else none)
set_option maxHeartbeats 4000000 in
theorem w_X1_joinInto_b4 {X : Cx} {n nu c u : Nat} {K : Nat → Nat} {N : Nat} {z : Int32 × Dat} (O : Ok X cX1_joinInto RX1 (some .boolean) 0 0) (hm : wlm (xw X) = true) (hn : xn X = 5) (hz : Z0 X (Ax nu K c u)) : ∀ (g : Nat) (x0 : Nat) (x1 : Nat) (x2 : Int32) (x3 : Int32) (D : Dat), f_X1_joinInto_b4 N nu K g x0 x1 x2 x3 D = some z → V X (Q0 X n (Ax nu K c u) (some (.int z.1)) z.2) n (Ax nu K c u) D 4 [(0, .ref (bo X + pp x0)), (1, .ref (bo X + pp x1)), (2, .int x2), (3, .int x3)] [] := by
  intro g
  induction g with
  | zero => intro x0 x1 x2 x3 D h; exact absurd h (by simp [f_X1_joinInto_b4])
  | succ g ih =>
    intro x0 x1 x2 x3 D h
    rw [f_X1_joinInto_b4] at h
    refine v_iload_n (pc := 4) O dX1_joinInto_4 3 rfl ?_
    refine v_bipush (pc := 5) O dX1_joinInto_5 bp_26 ?_
    refine v_icmpge (pc := 7) 48 O dX1_joinInto_7 (by decide) (fun c3 => ?_) (fun c3 => ?_)
    · have h := (if_pos c3).symm.trans h
      refine v_iload_n (pc := 48) O dX1_joinInto_48 2 rfl ?_
      obtain ⟨c4, h⟩ := if_none h
      obtain rfl := Option.some.inj h
      exact v_zret (pc := 49) O hz (congrArg Value.int c4) dX1_joinInto_49
    · have h := (if_neg c3).symm.trans h
      refine v_aload_n (pc := 10) O dX1_joinInto_10 0 rfl ?_
      refine v_iload_n (pc := 11) O dX1_joinInto_11 3 rfl ?_
      obtain ⟨c5, h⟩ := if_none h
      obtain ⟨c6, h⟩ := or_none h
      refine v_iald (pc := 12) (a := x0) O c5 (inq rfl c6) dX1_joinInto_12 ?_
      refine v_aload_n (pc := 13) O dX1_joinInto_13 1 rfl ?_
      refine v_iload_n (pc := 14) O dX1_joinInto_14 3 rfl ?_
      obtain ⟨c7, h⟩ := if_none h
      obtain ⟨c8, h⟩ := or_none h
      refine v_iald (pc := 15) (a := x1) O c7 (inq rfl c8) dX1_joinInto_15 ?_
      refine v_ior (pc := 16) O dX1_joinInto_16 ?_
      refine v_istore (pc := 17) (lv' := [(4, .int ((dI D x0 (x3).toNatClampNeg) ||| (dI D x1 (x3).toNatClampNeg))), (0, .ref (bo X + pp x0)), (1, .ref (bo X + pp x1)), (2, .int x2), (3, .int x3)]) O dX1_joinInto_17 (by rw [hn]; decide) rfl ?_
      refine v_iload_n (pc := 19) O dX1_joinInto_19 3 rfl ?_
      refine v_ifne (pc := 20) 31 O dX1_joinInto_20 (by decide) (fun c9 => ?_) (fun c9 => ?_)
      · have h := (if_neg c9).symm.trans h
        refine v_sub [1, 2, 4, 0] rfl ?_
        exact w_X1_joinInto_b31 O hm hn hz ih x0 x1 x3 ((dI D x0 (x3).toNatClampNeg) ||| (dI D x1 (x3).toNatClampNeg)) D h
      · have h := (if_pos c9).symm.trans h
        refine v_iload (pc := 23) O dX1_joinInto_23 0 rfl ?_
        refine v_aload_n (pc := 25) O dX1_joinInto_25 1 rfl ?_
        refine v_iload_n (pc := 26) O dX1_joinInto_26 4 rfl ?_
        obtain ⟨c10, h⟩ := or_none h
        refine v_iald (pc := 27) (a := x0) O c5 (inq rfl c10) dX1_joinInto_27 ?_
        refine v_icmpeq (pc := 28) 35 O dX1_joinInto_28 (by decide) (fun c11 => ?_) (fun c11 => ?_)
        · have h := (if_pos c11).symm.trans h
          refine v_iconst (pc := 35) O dX1_joinInto_35 ic_0 ?_
          refine v_sub [1, 2, 4, 0] rfl ?_
          exact w_X1_joinInto_b36 O hm hn hz ih x0 x1 x3 ((dI D x0 (x3).toNatClampNeg) ||| (dI D x1 (x3).toNatClampNeg)) 0 D h
        · have h := (if_neg c11).symm.trans h
          refine v_sub [1, 2, 4, 0] rfl ?_
          exact w_X1_joinInto_b31 O hm hn hz ih x0 x1 x3 ((dI D x0 (x3).toNatClampNeg) ||| (dI D x1 (x3).toNatClampNeg)) D h
def f_X1_joinInto (N : Nat) (nu : Nat) (K : Nat → Nat) (x0 : Nat) (x1 : Nat) (D : Dat) : Option (Int32 × Dat) :=
  f_X1_joinInto_b4 N nu K N x0 x1 0 0 D
set_option maxHeartbeats 4000000 in
theorem w_X1_joinInto {X : Cx} {n nu c u : Nat} {K : Nat → Nat} {N : Nat} {z : Int32 × Dat} (O : Ok X cX1_joinInto RX1 (some .boolean) 0 0) (hm : wlm (xw X) = true) (hn : xn X = 5) (hz : Z0 X (Ax nu K c u)) (x0 : Nat) (x1 : Nat) (D : Dat) (h : f_X1_joinInto N nu K x0 x1 D = some z) : V X (Q0 X n (Ax nu K c u) (some (.int z.1)) z.2) n (Ax nu K c u) D 0 [(0, .ref (bo X + pp x0)), (1, .ref (bo X + pp x1))] [] := by
  unfold f_X1_joinInto at h
  refine v_iconst (pc := 0) O dX1_joinInto_0 ic_0 ?_
  refine v_istore_n (pc := 1) (lv' := [(2, .int 0), (0, .ref (bo X + pp x0)), (1, .ref (bo X + pp x1))]) O dX1_joinInto_1 rfl (by rw [hn]; decide) rfl ?_
  refine v_iconst (pc := 2) O dX1_joinInto_2 ic_0 ?_
  refine v_istore_n (pc := 3) (lv' := [(3, .int 0), (2, .int 0), (0, .ref (bo X + pp x0)), (1, .ref (bo X + pp x1))]) O dX1_joinInto_3 rfl (by rw [hn]; decide) rfl ?_
  refine v_sub [2, 3, 1, 0] rfl ?_
  exact w_X1_joinInto_b4 O hm hn hz N x0 x1 0 0 D h
theorem c_X1_joinInto {l : Launch} {w : Wx} {n nu c u : Nat} {K : Nat → Nat} {N : Nat} (hm : wlm w = true) {x0 : Nat} {x1 : Nat} {D : Dat} {z : Int32 × Dat} (h : f_X1_joinInto N nu K x0 x1 D = some z) : C0 l w yX1_joinInto cX1_joinInto 5 (some .boolean) 0 0 [.ref (wb w + pp x0), .ref (wb w + pp x1)] n (Ax nu K c u) D (some (.int z.1)) z.2 :=
  C0.of (by decide) (Nat.le_of_ble_eq_true rfl) (fun X e1 e2 e3 hz O => by
  subst e1
  subst e2
  exact w_X1_joinInto O hm e3 hz x0 x1 D h)
def f_X1_demand (nu : Nat) (K : Nat → Nat) (x1 : Option Nat) (x2 : Int32) (x3 : Int32) (D : Dat) : Option (Sum Nat Unit × Dat) :=
  (f_X2_fits x2 x3 D).bind (fun p1 => if p1.1 = 0 then ((x1).bind (fun a4 => if kd K a4 = 7 then (some (.inl 2, (sI p1.2 6 5 (dI p1.2 a4 1)))) else none)) else (some (.inr (), p1.2)))
set_option maxHeartbeats 4000000 in
theorem w_X1_demand {X : Cx} {n nu c u : Nat} {K : Nat → Nat} {z : Sum Nat Unit × Dat} (O : Ok X cX1_demand RX1 none 6 100) (hm : wlm (xw X) = true) (hn : xn X = 4) (hz : Z0 X (Ax nu K c u)) (hT : T1 X (zu z)) (x1 : Option Nat) (x2 : Int32) (x3 : Int32) (D : Dat) (h : f_X1_demand nu K x1 x2 x3 D = some z) : V X (Q1 X n (Ax nu K c u) (zu z)) n (Ax nu K c u) D 0 [(0, .ref (bo X + pp 6)), (1, rv (bo X) x1), (2, .int x2), (3, .int x3)] [] := by
  unfold f_X1_demand at h
  refine v_aload_n (pc := 0) O dX1_demand_0 0 rfl ?_
  refine v_getK (pc := 1) (a := 6) O hm gf_X1_0 fl_X1_23 kq_6 lk_6_0 dX1_demand_1 ?_
  refine v_iload_n (pc := 4) O dX1_demand_4 2 rfl ?_
  refine v_iload_n (pc := 5) O dX1_demand_5 3 rfl ?_
  obtain ⟨p1, e2, h⟩ := bind_some h
  refine v_callV (pc := 6) (a := 1) (As := [.int x2, .int x3]) (rest := []) (r := (some (.int p1.1))) (D' := p1.2) O (bb0 hz) (c_X2_fits hm e2) mw_X2_fits im_X2_fits se_X2_fits ml_X1_107 kq_1 (by decide) rfl rfl rfl (by decide) (by decide) (Nat.le_of_ble_eq_true rfl) dX1_demand_6 rfl rfl ?_
  refine v_ifne (pc := 9) 28 O dX1_demand_9 (by decide) (fun c3 => ?_) (fun c3 => ?_)
  · have h := (if_neg c3).symm.trans h
    obtain rfl := Option.some.inj h
    exact v_r1 (v_ret (pc := 28) O hz dX1_demand_28)
  · have h := (if_pos c3).symm.trans h
    refine v_aload_n (pc := 12) O dX1_demand_12 0 rfl ?_
    refine v_aload_nr (pc := 13) O dX1_demand_13 1 rfl ?_
    obtain ⟨a4, e5, h⟩ := bind_some h
    subst e5
    obtain ⟨c6, h⟩ := if_none h
    refine v_getI (pc := 14) (a := a4) O gf_X7_1 fl_X1_111 c6 dX1_demand_14 ?_
    refine v_putI (pc := 17) (a := 6) O pf_X1_5 fl_X1_27 kq_6 dX1_demand_17 ?_
    obtain rfl := Option.some.inj h
    exact v_throw (pc := 20) (e := 2) O hz hT rfl tw_X1_112_114 (by decide) (Nat.le_of_ble_eq_true rfl) dX1_demand_20 dX1_demand_23 dX1_demand_24 dX1_demand_27
theorem c_X1_demand {l : Launch} {w : Wx} {n nu c u : Nat} {K : Nat → Nat} (hl : l.stackTraces = false) (hm : wlm w = true) {x1 : Option Nat} {x2 : Int32} {x3 : Int32} {D : Dat} {z : Sum Nat Unit × Dat} (h : f_X1_demand nu K x1 x2 x3 D = some z) : C1 l w yX1_demand cX1_demand 4 none 6 100 [.ref (wb w + pp 6), rv (wb w) x1, .int x2, .int x3] n (Ax nu K c u) D (zu z) :=
  C1.of hl (by decide) (by simp [lg_sl, rv_cat, cat_i, cat_l, cat_r, cat_n, fmt_cat]) (fun X e1 e2 e3 hz hT O => by
  subst e1
  subst e2
  have q : lv_args 0 [.ref (bo X + pp 6), rv (bo X) x1, .int x2, .int x3] = [(0, .ref (bo X + pp 6)), (1, rv (bo X) x1), (2, .int x2), (3, .int x3)] := by simp [lv_args, rv_cat, cat_i, cat_l, cat_r, cat_n, fmt_cat]
  show V X _ n _ D 0 (lv_args 0 [.ref (bo X + pp 6), rv (bo X) x1, .int x2, .int x3]) []
  rw [q]
  exact w_X1_demand O hm e3 hz hT x1 x2 x3 D h)
def f_X1_shadeOf_b93 (N : Nat) (nu : Nat) (K : Nat → Nat) (rec_7 : Option Nat → Int32 → Int32 → Dat → Option (Int32 × Dat)) (x1 : Option Nat) (x2 : Int32) (x3 : Int32) (D : Dat) : Option (Int32 × Dat) :=
  rec_7 x1 x2 (x3 + 1) D
set_option maxHeartbeats 4000000 in
theorem w_X1_shadeOf_b93 {X : Cx} {n nu c u : Nat} {K : Nat → Nat} {N : Nat} {rec_7 : Option Nat → Int32 → Int32 → Dat → Option (Int32 × Dat)} {z : Int32 × Dat} (O : Ok X cX1_shadeOf RX1 (some .int) 2 42) (hm : wlm (xw X) = true) (hn : xn X = 5) (hz : Z0 X (Ax nu K c u)) (hrec_7 : ∀ (x1 : Option Nat) (x2 : Int32) (x3 : Int32) (D : Dat), rec_7 x1 x2 x3 D = some z → V X (Q0 X n (Ax nu K c u) (some (.int z.1)) z.2) n (Ax nu K c u) D 7 [(0, .ref (bo X + pp 6)), (1, rv (bo X) x1), (2, .int x2), (3, .int x3)] []) (x1 : Option Nat) (x2 : Int32) (x3 : Int32) (D : Dat) (h : f_X1_shadeOf_b93 N nu K rec_7 x1 x2 x3 D = some z) : V X (Q0 X n (Ax nu K c u) (some (.int z.1)) z.2) n (Ax nu K c u) D 93 [(0, .ref (bo X + pp 6)), (1, rv (bo X) x1), (2, .int x2), (3, .int x3)] [] := by
  unfold f_X1_shadeOf_b93 at h
  refine v_iinc (pc := 93) (lv' := [(3, .int (x3 + 1)), (0, .ref (bo X + pp 6)), (1, rv (bo X) x1), (2, .int x2)]) O dX1_shadeOf_93 3 rfl (congrArg (fun q => x3 + q) ic_1) (by rw [hn]; decide) rfl ?_
  refine v_goto (pc := 96) 7 O dX1_shadeOf_96 (by decide) ?_
  refine v_sub [1, 2, 3, 0] rfl ?_
  exact hrec_7 x1 x2 (x3 + 1) D h
def f_X1_shadeOf_b62 (N : Nat) (nu : Nat) (K : Nat → Nat) (rec_7 : Option Nat → Int32 → Int32 → Dat → Option (Int32 × Dat)) (x1 : Option Nat) (x2 : Int32) (x3 : Int32) (x4 : Int32) (D : Dat) : Option (Int32 × Dat) :=
  ((dR D 6 1)).bind (fun a1 => if a1 = 191 ∨ a1 = 196 then ((f_X4_operation a1 x3 D).bind (fun p4 => if p4.1 = 3 then (((dR p4.2 6 1)).bind (fun a7 => if a7 = 191 ∨ a7 = 196 then ((f_X4_rowMark a7 x4 p4.2).bind (fun p10 => (f_X2_shade nu K p10.1 p10.2).bind (fun p12 => f_X1_shadeOf_b93 N nu K rec_7 x1 (x2 ||| p12.1) x3 p12.2))) else none)) else (f_X1_shadeOf_b93 N nu K rec_7 x1 x2 x3 p4.2))) else none)
set_option maxHeartbeats 4000000 in
theorem w_X1_shadeOf_b62 {X : Cx} {n nu c u : Nat} {K : Nat → Nat} {N : Nat} {rec_7 : Option Nat → Int32 → Int32 → Dat → Option (Int32 × Dat)} {z : Int32 × Dat} (O : Ok X cX1_shadeOf RX1 (some .int) 2 42) (hm : wlm (xw X) = true) (hn : xn X = 5) (hz : Z0 X (Ax nu K c u)) (hrec_7 : ∀ (x1 : Option Nat) (x2 : Int32) (x3 : Int32) (D : Dat), rec_7 x1 x2 x3 D = some z → V X (Q0 X n (Ax nu K c u) (some (.int z.1)) z.2) n (Ax nu K c u) D 7 [(0, .ref (bo X + pp 6)), (1, rv (bo X) x1), (2, .int x2), (3, .int x3)] []) (x1 : Option Nat) (x2 : Int32) (x3 : Int32) (x4 : Int32) (D : Dat) (h : f_X1_shadeOf_b62 N nu K rec_7 x1 x2 x3 x4 D = some z) : V X (Q0 X n (Ax nu K c u) (some (.int z.1)) z.2) n (Ax nu K c u) D 62 [(0, .ref (bo X + pp 6)), (1, rv (bo X) x1), (2, .int x2), (3, .int x3), (4, .int x4)] [] := by
  unfold f_X1_shadeOf_b62 at h
  refine v_aload_n (pc := 62) O dX1_shadeOf_62 0 rfl ?_
  refine v_getR (pc := 63) (a := 6) O gf_X1_1 fl_X1_31 kq_6 dX1_shadeOf_63 ?_
  refine v_iload_n (pc := 66) O dX1_shadeOf_66 3 rfl ?_
  obtain ⟨a1, e2, h⟩ := bind_some h
  rw [e2]
  obtain ⟨c3, h⟩ := if_none h
  obtain ⟨p4, e5, h⟩ := bind_some h
  refine v_callV (pc := 67) (a := a1) (As := [.int x3]) (rest := []) (r := (some (.int p4.1))) (D' := p4.2) O (bb0 hz) (c_X4_operation hm c3 e5) mw_X4_operation im_X4_operation se_X4_operation ml_X1_124 (kt_X4 c3) (by decide) rfl rfl rfl (by decide) (by decide) (Nat.le_of_ble_eq_true rfl) dX1_shadeOf_67 rfl rfl ?_
  refine v_iconst (pc := 70) O dX1_shadeOf_70 ic_3 ?_
  refine v_icmpne (pc := 71) 93 O dX1_shadeOf_71 (by decide) (fun c6 => ?_) (fun c6 => ?_)
  · have h := (if_neg c6).symm.trans h
    refine v_sub [0, 1, 2, 3] rfl ?_
    exact w_X1_shadeOf_b93 O hm hn hz hrec_7 x1 x2 x3 p4.2 h
  · have h := (if_pos c6).symm.trans h
    refine v_iload_n (pc := 74) O dX1_shadeOf_74 2 rfl ?_
    refine v_aload_n (pc := 75) O dX1_shadeOf_75 0 rfl ?_
    refine v_getK (pc := 76) (a := 6) O hm gf_X1_0 fl_X1_23 kq_6 lk_6_0 dX1_shadeOf_76 ?_
    refine v_aload_n (pc := 79) O dX1_shadeOf_79 0 rfl ?_
    refine v_getR (pc := 80) (a := 6) O gf_X1_1 fl_X1_31 kq_6 dX1_shadeOf_80 ?_
    refine v_iload (pc := 83) O dX1_shadeOf_83 4 rfl ?_
    obtain ⟨a7, e8, h⟩ := bind_some h
    rw [e8]
    obtain ⟨c9, h⟩ := if_none h
    obtain ⟨p10, e11, h⟩ := bind_some h
    refine v_callV (pc := 85) (a := a7) (As := [.int x4]) (rest := [.ref (bo X + pp 1), .int x2]) (r := (some (.int p10.1))) (D' := p10.2) O (bb0 hz) (c_X4_rowMark hm c9 e11) mw_X4_rowMark im_X4_rowMark se_X4_rowMark ml_X1_69 (kt_X4 c9) (by decide) rfl rfl rfl (by decide) (by decide) (Nat.le_of_ble_eq_true rfl) dX1_shadeOf_85 rfl rfl ?_
    obtain ⟨p12, e13, h⟩ := bind_some h
    refine v_callV (pc := 88) (a := 1) (As := [.int p10.1]) (rest := [.int x2]) (r := (some (.int p12.1))) (D' := p12.2) O (bb0 hz) (c_X2_shade hm e13) mw_X2_shade im_X2_shade se_X2_shade ml_X1_41 kq_1 (by decide) rfl rfl rfl (by decide) (by decide) (Nat.le_of_ble_eq_true rfl) dX1_shadeOf_88 rfl rfl ?_
    refine v_ior (pc := 91) O dX1_shadeOf_91 ?_
    refine v_istore_n (pc := 92) (lv' := [(2, .int (x2 ||| p12.1)), (0, .ref (bo X + pp 6)), (1, rv (bo X) x1), (3, .int x3), (4, .int x4)]) O dX1_shadeOf_92 rfl (by rw [hn]; decide) (by simp [rv_cat, cat_i, cat_l, cat_r, cat_n]) ?_
    refine v_sub [1, 2, 0, 3] rfl ?_
    exact w_X1_shadeOf_b93 O hm hn hz hrec_7 x1 (x2 ||| p12.1) x3 p12.2 h
def f_X1_shadeOf_b7 (N : Nat) (nu : Nat) (K : Nat → Nat) : Nat → Option Nat → Int32 → Int32 → Dat → Option (Int32 × Dat)
  | 0, _, _, _, _ => none
  | g + 1, x1, x2, x3, D => (x1).bind (fun a14 => if kd K a14 = 7 then (if (dI D a14 5) ≤ x3 then (some (x2, D)) else (((dR D 6 1)).bind (fun a18 => if a18 = 191 ∨ a18 = 196 then ((f_X4_argument a18 x3 D).bind (fun p21 => ((dR p21.2 6 1)).bind (fun a23 => if a23 = 191 ∨ a23 = 196 then ((f_X4_operation a23 x3 p21.2).bind (fun p26 => if p26.1 = 1 then (if p21.1 < 0 then (f_X1_shadeOf_b62 N nu K (f_X1_shadeOf_b7 N nu K g) (some a14) x2 x3 p21.1 p26.2) else (if 26 ≤ p21.1 then (f_X1_shadeOf_b62 N nu K (f_X1_shadeOf_b7 N nu K g) (some a14) x2 x3 p21.1 p26.2) else (if p21.1 < 0 ∨ 26 ≤ (p21.1).toNatClampNeg then none else (f_X1_shadeOf_b93 N nu K (f_X1_shadeOf_b7 N nu K g) (some a14) (x2 ||| (dI p26.2 7 (p21.1).toNatClampNeg)) x3 p26.2)))) else (f_X1_shadeOf_b62 N nu K (f_X1_shadeOf_b7 N nu K g) (some a14) x2 x3 p21.1 p26.2))) else none))) else none))) else none)
set_option maxHeartbeats 4000000 in
theorem w_X1_shadeOf_b7 {X : Cx} {n nu c u : Nat} {K : Nat → Nat} {N : Nat} {z : Int32 × Dat} (O : Ok X cX1_shadeOf RX1 (some .int) 2 42) (hm : wlm (xw X) = true) (hn : xn X = 5) (hz : Z0 X (Ax nu K c u)) : ∀ (g : Nat) (x1 : Option Nat) (x2 : Int32) (x3 : Int32) (D : Dat), f_X1_shadeOf_b7 N nu K g x1 x2 x3 D = some z → V X (Q0 X n (Ax nu K c u) (some (.int z.1)) z.2) n (Ax nu K c u) D 7 [(0, .ref (bo X + pp 6)), (1, rv (bo X) x1), (2, .int x2), (3, .int x3)] [] := by
  intro g
  induction g with
  | zero => intro x1 x2 x3 D h; exact absurd h (by simp [f_X1_shadeOf_b7])
  | succ g ih =>
    intro x1 x2 x3 D h
    rw [f_X1_shadeOf_b7] at h
    refine v_iload_n (pc := 7) O dX1_shadeOf_7 3 rfl ?_
    refine v_aload_nr (pc := 8) O dX1_shadeOf_8 1 rfl ?_
    obtain ⟨a14, e15, h⟩ := bind_some h
    subst e15
    obtain ⟨c16, h⟩ := if_none h
    refine v_getI (pc := 9) (a := a14) O gf_X7_5 fl_X1_118 c16 dX1_shadeOf_9 ?_
    refine v_icmpge (pc := 12) 99 O dX1_shadeOf_12 (by decide) (fun c17 => ?_) (fun c17 => ?_)
    · have h := (if_pos c17).symm.trans h
      refine v_iload_n (pc := 99) O dX1_shadeOf_99 2 rfl ?_
      obtain rfl := Option.some.inj h
      exact v_iret (pc := 100) O hz dX1_shadeOf_100
    · have h := (if_neg c17).symm.trans h
      refine v_aload_n (pc := 15) O dX1_shadeOf_15 0 rfl ?_
      refine v_getR (pc := 16) (a := 6) O gf_X1_1 fl_X1_31 kq_6 dX1_shadeOf_16 ?_
      refine v_iload_n (pc := 19) O dX1_shadeOf_19 3 rfl ?_
      obtain ⟨a18, e19, h⟩ := bind_some h
      rw [e19]
      obtain ⟨c20, h⟩ := if_none h
      obtain ⟨p21, e22, h⟩ := bind_some h
      refine v_callV (pc := 20) (a := a18) (As := [.int x3]) (rest := []) (r := (some (.int p21.1))) (D' := p21.2) O (bb0 hz) (c_X4_argument hm c20 e22) mw_X4_argument im_X4_argument se_X4_argument ml_X1_121 (kt_X4 c20) (by decide) rfl rfl rfl (by decide) (by decide) (Nat.le_of_ble_eq_true rfl) dX1_shadeOf_20 rfl rfl ?_
      refine v_istore (pc := 23) (lv' := [(4, .int p21.1), (0, .ref (bo X + pp 6)), (1, .ref (bo X + pp a14)), (2, .int x2), (3, .int x3)]) O dX1_shadeOf_23 (by rw [hn]; decide) rfl ?_
      refine v_aload_n (pc := 25) O dX1_shadeOf_25 1 rfl ?_
      refine v_getR (pc := 26) (a := 6) O gf_X1_1 fl_X1_31 kq_6 dX1_shadeOf_26 ?_
      refine v_iload_n (pc := 29) O dX1_shadeOf_29 4 rfl ?_
      obtain ⟨a23, e24, h⟩ := bind_some h
      rw [e24]
      obtain ⟨c25, h⟩ := if_none h
      obtain ⟨p26, e27, h⟩ := bind_some h
      refine v_callV (pc := 30) (a := a23) (As := [.int x3]) (rest := []) (r := (some (.int p26.1))) (D' := p26.2) O (bb0 hz) (c_X4_operation hm c25 e27) mw_X4_operation im_X4_operation se_X4_operation ml_X1_124 (kt_X4 c25) (by decide) rfl rfl rfl (by decide) (by decide) (Nat.le_of_ble_eq_true rfl) dX1_shadeOf_30 rfl rfl ?_
      refine v_iconst (pc := 33) O dX1_shadeOf_33 ic_1 ?_
      refine v_icmpne (pc := 34) 62 O dX1_shadeOf_34 (by decide) (fun c28 => ?_) (fun c28 => ?_)
      · have h := (if_neg c28).symm.trans h
        refine v_sub [1, 2, 3, 4, 0] rfl ?_
        exact w_X1_shadeOf_b62 O hm hn hz ih (some a14) x2 x3 p21.1 p26.2 h
      · have h := (if_pos c28).symm.trans h
        refine v_iload (pc := 37) O dX1_shadeOf_37 0 rfl ?_
        refine v_iflt (pc := 39) 62 O dX1_shadeOf_39 (by decide) (fun c29 => ?_) (fun c29 => ?_)
        · have h := (if_pos c29).symm.trans h
          refine v_sub [1, 2, 3, 4, 0] rfl ?_
          exact w_X1_shadeOf_b62 O hm hn hz ih (some a14) x2 x3 p21.1 p26.2 h
        · have h := (if_neg c29).symm.trans h
          refine v_iload (pc := 42) O dX1_shadeOf_42 0 rfl ?_
          refine v_bipush (pc := 44) O dX1_shadeOf_44 bp_26 ?_
          refine v_icmpge (pc := 46) 62 O dX1_shadeOf_46 (by decide) (fun c30 => ?_) (fun c30 => ?_)
          · have h := (if_pos c30).symm.trans h
            refine v_sub [1, 2, 3, 4, 0] rfl ?_
            exact w_X1_shadeOf_b62 O hm hn hz ih (some a14) x2 x3 p21.1 p26.2 h
          · have h := (if_neg c30).symm.trans h
            refine v_iload_n (pc := 49) O dX1_shadeOf_49 3 rfl ?_
            refine v_aload_n (pc := 50) O dX1_shadeOf_50 1 rfl ?_
            refine v_getK (pc := 51) (a := 6) O hm gf_X1_2 fl_X1_9 kq_6 lk_6_2 dX1_shadeOf_51 ?_
            refine v_iload (pc := 54) O dX1_shadeOf_54 0 rfl ?_
            obtain ⟨c31, h⟩ := or_none h
            refine v_iald (pc := 56) (a := 7) O kq_7 (inq lq_7 c31) dX1_shadeOf_56 ?_
            refine v_ior (pc := 57) O dX1_shadeOf_57 ?_
            refine v_istore_n (pc := 58) (lv' := [(2, .int (x2 ||| (dI p26.2 7 (p21.1).toNatClampNeg))), (4, .int p21.1), (0, .ref (bo X + pp 6)), (1, .ref (bo X + pp a14)), (3, .int x3)]) O dX1_shadeOf_58 rfl (by rw [hn]; decide) rfl ?_
            refine v_goto (pc := 59) 93 O dX1_shadeOf_59 (by decide) ?_
            refine v_sub [2, 3, 0, 4] rfl ?_
            exact w_X1_shadeOf_b93 O hm hn hz ih (some a14) (x2 ||| (dI p26.2 7 (p21.1).toNatClampNeg)) x3 p26.2 h
def f_X1_shadeOf (N : Nat) (nu : Nat) (K : Nat → Nat) (x1 : Option Nat) (D : Dat) : Option (Int32 × Dat) :=
  (x1).bind (fun a32 => if kd K a32 = 7 then (f_X1_shadeOf_b7 N nu K N (some a32) 0 (dI D a32 4) D) else none)
set_option maxHeartbeats 4000000 in
theorem w_X1_shadeOf {X : Cx} {n nu c u : Nat} {K : Nat → Nat} {N : Nat} {z : Int32 × Dat} (O : Ok X cX1_shadeOf RX1 (some .int) 2 42) (hm : wlm (xw X) = true) (hn : xn X = 5) (hz : Z0 X (Ax nu K c u)) (x1 : Option Nat) (D : Dat) (h : f_X1_shadeOf N nu K x1 D = some z) : V X (Q0 X n (Ax nu K c u) (some (.int z.1)) z.2) n (Ax nu K c u) D 0 [(0, .ref (bo X + pp 6)), (1, rv (bo X) x1)] [] := by
  unfold f_X1_shadeOf at h
  refine v_iconst (pc := 0) O dX1_shadeOf_0 ic_0 ?_
  refine v_istore_n (pc := 1) (lv' := [(2, .int 0), (0, .ref (bo X + pp 6)), (1, rv (bo X) x1)]) O dX1_shadeOf_1 rfl (by rw [hn]; decide) (by simp [rv_cat, cat_i, cat_l, cat_r, cat_n]) ?_
  refine v_aload_nr (pc := 2) O dX1_shadeOf_2 2 rfl ?_
  obtain ⟨a32, e33, h⟩ := bind_some h
  subst e33
  obtain ⟨c34, h⟩ := if_none h
  refine v_getI (pc := 3) (a := a32) O gf_X7_4 fl_X1_115 c34 dX1_shadeOf_3 ?_
  refine v_istore_n (pc := 6) (lv' := [(3, .int (dI D a32 4)), (2, .int 0), (0, .ref (bo X + pp 6)), (1, .ref (bo X + pp a32))]) O dX1_shadeOf_6 rfl (by rw [hn]; decide) rfl ?_
  refine v_sub [2, 3, 1, 0] rfl ?_
  exact w_X1_shadeOf_b7 O hm hn hz N (some a32) 0 (dI D a32 4) D h
theorem c_X1_shadeOf {l : Launch} {w : Wx} {n nu c u : Nat} {K : Nat → Nat} {N : Nat} (hm : wlm w = true) {x1 : Option Nat} {D : Dat} {z : Int32 × Dat} (h : f_X1_shadeOf N nu K x1 D = some z) : C0 l w yX1_shadeOf cX1_shadeOf 5 (some .int) 2 42 [.ref (wb w + pp 6), rv (wb w) x1] n (Ax nu K c u) D (some (.int z.1)) z.2 :=
  C0.of (by decide) (by simp [lg_sl, rv_cat, cat_i, cat_l, cat_r, cat_n, fmt_cat]) (fun X e1 e2 e3 hz O => by
  subst e1
  subst e2
  have q : lv_args 0 [.ref (bo X + pp 6), rv (bo X) x1] = [(0, .ref (bo X + pp 6)), (1, rv (bo X) x1)] := by simp [lv_args, rv_cat, cat_i, cat_l, cat_r, cat_n, fmt_cat]
  show V X _ n _ D 0 (lv_args 0 [.ref (bo X + pp 6), rv (bo X) x1]) []
  rw [q]
  exact w_X1_shadeOf O hm e3 hz x1 D h)
def f_X5_length (D : Dat) : Option (Int32 × Dat) :=
  some ((dI D 3 2), D)
set_option maxHeartbeats 4000000 in
theorem w_X5_length {X : Cx} {n nu c u : Nat} {K : Nat → Nat} {z : Int32 × Dat} (O : Ok X cX5_length RX5 (some .int) 0 0) (hm : wlm (xw X) = true) (hn : xn X = 1) (hz : Z0 X (Ax nu K c u)) (D : Dat) (h : f_X5_length D = some z) : V X (Q0 X n (Ax nu K c u) (some (.int z.1)) z.2) n (Ax nu K c u) D 0 [(0, .ref (bo X + pp 3))] [] := by
  unfold f_X5_length at h
  refine v_aload_n (pc := 0) O dX5_length_0 0 rfl ?_
  refine v_getI (pc := 1) (a := 3) O gf_X5_2 fl_X5_32 kq_3 dX5_length_1 ?_
  obtain rfl := Option.some.inj h
  exact v_iret (pc := 4) O hz dX5_length_4
theorem c_X5_length {l : Launch} {w : Wx} {n nu c u : Nat} {K : Nat → Nat} (hm : wlm w = true) {D : Dat} {z : Int32 × Dat} (h : f_X5_length D = some z) : C0 l w yX5_length cX5_length 1 (some .int) 0 0 [.ref (wb w + pp 3)] n (Ax nu K c u) D (some (.int z.1)) z.2 :=
  C0.of (by decide) (Nat.le_of_ble_eq_true rfl) (fun X e1 e2 e3 hz O => by
  subst e1
  subst e2
  exact w_X5_length O hm e3 hz  D h)
def f_X5_place (D : Dat) : Option (Int32 × Dat) :=
  some ((dI D 3 7), D)
set_option maxHeartbeats 4000000 in
theorem w_X5_place {X : Cx} {n nu c u : Nat} {K : Nat → Nat} {z : Int32 × Dat} (O : Ok X cX5_place RX5 (some .int) 0 0) (hm : wlm (xw X) = true) (hn : xn X = 1) (hz : Z0 X (Ax nu K c u)) (D : Dat) (h : f_X5_place D = some z) : V X (Q0 X n (Ax nu K c u) (some (.int z.1)) z.2) n (Ax nu K c u) D 0 [(0, .ref (bo X + pp 3))] [] := by
  unfold f_X5_place at h
  refine v_aload_n (pc := 0) O dX5_place_0 0 rfl ?_
  refine v_getI (pc := 1) (a := 3) O gf_X5_7 fl_X5_36 kq_3 dX5_place_1 ?_
  obtain rfl := Option.some.inj h
  exact v_iret (pc := 4) O hz dX5_place_4
theorem c_X5_place {l : Launch} {w : Wx} {n nu c u : Nat} {K : Nat → Nat} (hm : wlm w = true) {D : Dat} {z : Int32 × Dat} (h : f_X5_place D = some z) : C0 l w yX5_place cX5_place 1 (some .int) 0 0 [.ref (wb w + pp 3)] n (Ax nu K c u) D (some (.int z.1)) z.2 :=
  C0.of (by decide) (Nat.le_of_ble_eq_true rfl) (fun X e1 e2 e3 hz O => by
  subst e1
  subst e2
  exact w_X5_place O hm e3 hz  D h)
def f_X5_forget (D : Dat) : Option (Dat) :=
  some (sI D 3 2 0)
set_option maxHeartbeats 4000000 in
theorem w_X5_forget {X : Cx} {n nu c u : Nat} {K : Nat → Nat} {z : Dat} (O : Ok X cX5_forget RX5 none 0 0) (hm : wlm (xw X) = true) (hn : xn X = 1) (hz : Z0 X (Ax nu K c u)) (D : Dat) (h : f_X5_forget D = some z) : V X (Q0 X n (Ax nu K c u) none z) n (Ax nu K c u) D 0 [(0, .ref (bo X + pp 3))] [] := by
  unfold f_X5_forget at h
  refine v_aload_n (pc := 0) O dX5_forget_0 0 rfl ?_
  refine v_iconst (pc := 1) O dX5_forget_1 ic_0 ?_
  refine v_putI (pc := 2) (a := 3) O pf_X5_2 fl_X5_32 kq_3 dX5_forget_2 ?_
  obtain rfl := Option.some.inj h
  exact v_ret (pc := 5) O hz dX5_forget_5
theorem c_X5_forget {l : Launch} {w : Wx} {n nu c u : Nat} {K : Nat → Nat} (hm : wlm w = true) {D : Dat} {z : Dat} (h : f_X5_forget D = some z) : C0 l w yX5_forget cX5_forget 1 none 0 0 [.ref (wb w + pp 3)] n (Ax nu K c u) D none z :=
  C0.of (by decide) (Nat.le_of_ble_eq_true rfl) (fun X e1 e2 e3 hz O => by
  subst e1
  subst e2
  exact w_X5_forget O hm e3 hz  D h)
def f_X5_arePlain_b37 (N : Nat) (D : Dat) : Option (Int32 × Dat) :=
  some (0, D)
set_option maxHeartbeats 4000000 in
theorem w_X5_arePlain_b37 {X : Cx} {n nu c u : Nat} {K : Nat → Nat} {N : Nat} {z : Int32 × Dat} (O : Ok X cX5_arePlain RX5 (some .boolean) 0 0) (hm : wlm (xw X) = true) (hn : xn X = 6) (hz : Z0 X (Ax nu K c u)) (D : Dat) (h : f_X5_arePlain_b37 N D = some z) : V X (Q0 X n (Ax nu K c u) (some (.int z.1)) z.2) n (Ax nu K c u) D 37 [] [] := by
  unfold f_X5_arePlain_b37 at h
  refine v_iconst (pc := 37) O dX5_arePlain_37 ic_0 ?_
  obtain rfl := Option.some.inj h
  exact v_zret (pc := 38) O hz narrow_b0 dX5_arePlain_38
def f_X5_arePlain_b2 (N : Nat) : Nat → Int64 → Int32 → Int32 → Dat → Option (Int32 × Dat)
  | 0, _, _, _, _ => none
  | g + 1, x0, x2, x3, D => if x2 ≤ x3 then (some (1, D)) else (if (lg_cmp ((x0 >>> ((((8 : Int32) * x3) : Int32).toInt64 &&& 63)) &&& (255 : Int64)) (32 : Int64)) < 0 then (f_X5_arePlain_b37 N D) else (if (lg_cmp ((x0 >>> ((((8 : Int32) * x3) : Int32).toInt64 &&& 63)) &&& (255 : Int64)) (126 : Int64)) ≤ 0 then ((f_X5_arePlain_b2 N g) x0 x2 (x3 + 1) D) else (f_X5_arePlain_b37 N D)))
set_option maxHeartbeats 4000000 in
theorem w_X5_arePlain_b2 {X : Cx} {n nu c u : Nat} {K : Nat → Nat} {N : Nat} {z : Int32 × Dat} (O : Ok X cX5_arePlain RX5 (some .boolean) 0 0) (hm : wlm (xw X) = true) (hn : xn X = 6) (hz : Z0 X (Ax nu K c u)) : ∀ (g : Nat) (x0 : Int64) (x2 : Int32) (x3 : Int32) (D : Dat), f_X5_arePlain_b2 N g x0 x2 x3 D = some z → V X (Q0 X n (Ax nu K c u) (some (.int z.1)) z.2) n (Ax nu K c u) D 2 [(0, .long x0), (2, .int x2), (3, .int x3)] [] := by
  intro g
  induction g with
  | zero => intro x0 x2 x3 D h; exact absurd h (by simp [f_X5_arePlain_b2])
  | succ g ih =>
    intro x0 x2 x3 D h
    rw [f_X5_arePlain_b2] at h
    refine v_iload_n (pc := 2) O dX5_arePlain_2 2 rfl ?_
    refine v_iload_n (pc := 3) O dX5_arePlain_3 1 rfl ?_
    refine v_icmpge (pc := 4) 45 O dX5_arePlain_4 (by decide) (fun c1 => ?_) (fun c1 => ?_)
    · have h := (if_pos c1).symm.trans h
      refine v_iconst (pc := 45) O dX5_arePlain_45 ic_1 ?_
      obtain rfl := Option.some.inj h
      exact v_zret (pc := 46) O hz narrow_b1 dX5_arePlain_46
    · have h := (if_neg c1).symm.trans h
      refine v_lload_n (pc := 7) O dX5_arePlain_7 0 rfl ?_
      refine v_bipush (pc := 8) O dX5_arePlain_8 bp_8 ?_
      refine v_iload_n (pc := 10) O dX5_arePlain_10 2 rfl ?_
      refine v_imul (pc := 11) O dX5_arePlain_11 ?_
      refine v_lshr (pc := 12) O dX5_arePlain_12 ?_
      refine v_ldc2 (pc := 13) O dX5_arePlain_13 cl_X5_39 ?_
      refine v_land (pc := 16) O dX5_arePlain_16 ?_
      refine v_lstore (pc := 17) (lv' := [(4, .long ((x0 >>> ((((8 : Int32) * x3) : Int32).toInt64 &&& 63)) &&& (255 : Int64))), (0, .long x0), (2, .int x2), (3, .int x3)]) O dX5_arePlain_17 (by rw [hn]; decide) rfl ?_
      refine v_lload (pc := 19) O dX5_arePlain_19 0 rfl ?_
      refine v_ldc2 (pc := 21) O dX5_arePlain_21 cl_X5_41 ?_
      refine v_lcmp (pc := 24) O dX5_arePlain_24 ?_
      refine v_iflt (pc := 25) 37 O dX5_arePlain_25 (by decide) (fun c2 => ?_) (fun c2 => ?_)
      · have h := (if_pos c2).symm.trans h
        refine v_sub [] rfl ?_
        exact w_X5_arePlain_b37 O hm hn hz D h
      · have h := (if_neg c2).symm.trans h
        refine v_lload (pc := 28) O dX5_arePlain_28 0 rfl ?_
        refine v_ldc2 (pc := 30) O dX5_arePlain_30 cl_X5_43 ?_
        refine v_lcmp (pc := 33) O dX5_arePlain_33 ?_
        refine v_ifle (pc := 34) 39 O dX5_arePlain_34 (by decide) (fun c3 => ?_) (fun c3 => ?_)
        · have h := (if_pos c3).symm.trans h
          refine v_iinc (pc := 39) (lv' := [(3, .int (x3 + 1)), (4, .long ((x0 >>> ((((8 : Int32) * x3) : Int32).toInt64 &&& 63)) &&& (255 : Int64))), (0, .long x0), (2, .int x2)]) O dX5_arePlain_39 3 rfl (congrArg (fun q => x3 + q) ic_1) (by rw [hn]; decide) rfl ?_
          refine v_goto (pc := 42) 2 O dX5_arePlain_42 (by decide) ?_
          refine v_sub [2, 3, 0] rfl ?_
          exact ih x0 x2 (x3 + 1) D h
        · have h := (if_neg c3).symm.trans h
          refine v_sub [] rfl ?_
          exact w_X5_arePlain_b37 O hm hn hz D h
def f_X5_arePlain (N : Nat) (x0 : Int64) (x2 : Int32) (D : Dat) : Option (Int32 × Dat) :=
  f_X5_arePlain_b2 N N x0 x2 0 D
set_option maxHeartbeats 4000000 in
theorem w_X5_arePlain {X : Cx} {n nu c u : Nat} {K : Nat → Nat} {N : Nat} {z : Int32 × Dat} (O : Ok X cX5_arePlain RX5 (some .boolean) 0 0) (hm : wlm (xw X) = true) (hn : xn X = 6) (hz : Z0 X (Ax nu K c u)) (x0 : Int64) (x2 : Int32) (D : Dat) (h : f_X5_arePlain N x0 x2 D = some z) : V X (Q0 X n (Ax nu K c u) (some (.int z.1)) z.2) n (Ax nu K c u) D 0 [(0, .long x0), (2, .int x2)] [] := by
  unfold f_X5_arePlain at h
  refine v_iconst (pc := 0) O dX5_arePlain_0 ic_0 ?_
  refine v_istore_n (pc := 1) (lv' := [(3, .int 0), (0, .long x0), (2, .int x2)]) O dX5_arePlain_1 rfl (by rw [hn]; decide) rfl ?_
  refine v_sub [1, 2, 0] rfl ?_
  exact w_X5_arePlain_b2 O hm hn hz N x0 x2 0 D h
theorem c_X5_arePlain {l : Launch} {w : Wx} {n nu c u : Nat} {K : Nat → Nat} {N : Nat} (hm : wlm w = true) {x0 : Int64} {x2 : Int32} {D : Dat} {z : Int32 × Dat} (h : f_X5_arePlain N x0 x2 D = some z) : C0 l w yX5_arePlain cX5_arePlain 6 (some .boolean) 0 0 [.long x0, .int x2] n (Ax nu K c u) D (some (.int z.1)) z.2 :=
  C0.of (by decide) (Nat.le_of_ble_eq_true rfl) (fun X e1 e2 e3 hz O => by
  subst e1
  subst e2
  exact w_X5_arePlain O hm e3 hz x0 x2 D h)
def f_X5_addSigns_b58 (N : Nat) (D : Dat) : Option (Dat) :=
  some D
set_option maxHeartbeats 4000000 in
theorem w_X5_addSigns_b58 {X : Cx} {n nu c u : Nat} {K : Nat → Nat} {N : Nat} {z : Dat} (O : Ok X cX5_addSigns RX5 none 0 0) (hm : wlm (xw X) = true) (hn : xn X = 5) (hz : Z0 X (Ax nu K c u)) (D : Dat) (h : f_X5_addSigns_b58 N D = some z) : V X (Q0 X n (Ax nu K c u) none z) n (Ax nu K c u) D 58 [] [] := by
  unfold f_X5_addSigns_b58 at h
  obtain rfl := Option.some.inj h
  exact v_ret (pc := 58) O hz dX5_addSigns_58
def f_X5_addSigns_b52 (N : Nat) (rec_5 : Int64 → Int32 → Dat → Option (Dat)) (x1 : Int64) (x4 : Int32) (D : Dat) : Option (Dat) :=
  rec_5 x1 (x4 + (-1)) D
set_option maxHeartbeats 4000000 in
theorem w_X5_addSigns_b52 {X : Cx} {n nu c u : Nat} {K : Nat → Nat} {N : Nat} {rec_5 : Int64 → Int32 → Dat → Option (Dat)} {z : Dat} (O : Ok X cX5_addSigns RX5 none 0 0) (hm : wlm (xw X) = true) (hn : xn X = 5) (hz : Z0 X (Ax nu K c u)) (hrec_5 : ∀ (x1 : Int64) (x4 : Int32) (D : Dat), rec_5 x1 x4 D = some z → V X (Q0 X n (Ax nu K c u) none z) n (Ax nu K c u) D 5 [(0, .ref (bo X + pp 3)), (1, .long x1), (4, .int x4)] []) (x1 : Int64) (x4 : Int32) (D : Dat) (h : f_X5_addSigns_b52 N rec_5 x1 x4 D = some z) : V X (Q0 X n (Ax nu K c u) none z) n (Ax nu K c u) D 52 [(0, .ref (bo X + pp 3)), (1, .long x1), (4, .int x4)] [] := by
  unfold f_X5_addSigns_b52 at h
  refine v_iinc (pc := 52) (lv' := [(4, .int (x4 + (-1))), (0, .ref (bo X + pp 3)), (1, .long x1)]) O dX5_addSigns_52 2 rfl (congrArg (fun q => x4 + q) ic_m1) (by rw [hn]; decide) rfl ?_
  refine v_goto (pc := 55) 5 O dX5_addSigns_55 (by decide) ?_
  refine v_sub [1, 2, 0] rfl ?_
  exact hrec_5 x1 (x4 + (-1)) D h
def f_X5_addSigns_b5 (N : Nat) : Nat → Int64 → Int32 → Dat → Option (Dat)
  | 0, _, _, _ => none
  | g + 1, x1, x4, D => if x4 < 0 then (f_X5_addSigns_b58 N D) else (if 240 ≤ (dI D 3 2) then (f_X5_addSigns_b58 N D) else (if (dI D 3 2) < 0 ∨ 240 ≤ ((dI D 3 2)).toNatClampNeg then none else (f_X5_addSigns_b52 N (f_X5_addSigns_b5 N g) x1 x4 (sI (sI D 4 (dI D 3 2).toNatClampNeg (vp_nar .char (((((((x1 >>> ((((8 : Int32) * x4) : Int32).toInt64 &&& 63)) &&& (255 : Int64)) : Int64).toInt32) : Int32).toUInt32 % 65536).toInt32))) 3 2 ((dI (sI D 4 (dI D 3 2).toNatClampNeg (vp_nar .char (((((((x1 >>> ((((8 : Int32) * x4) : Int32).toInt64 &&& 63)) &&& (255 : Int64)) : Int64).toInt32) : Int32).toUInt32 % 65536).toInt32))) 3 2) + (1 : Int32))))))
set_option maxHeartbeats 4000000 in
theorem w_X5_addSigns_b5 {X : Cx} {n nu c u : Nat} {K : Nat → Nat} {N : Nat} {z : Dat} (O : Ok X cX5_addSigns RX5 none 0 0) (hm : wlm (xw X) = true) (hn : xn X = 5) (hz : Z0 X (Ax nu K c u)) : ∀ (g : Nat) (x1 : Int64) (x4 : Int32) (D : Dat), f_X5_addSigns_b5 N g x1 x4 D = some z → V X (Q0 X n (Ax nu K c u) none z) n (Ax nu K c u) D 5 [(0, .ref (bo X + pp 3)), (1, .long x1), (4, .int x4)] [] := by
  intro g
  induction g with
  | zero => intro x1 x4 D h; exact absurd h (by simp [f_X5_addSigns_b5])
  | succ g ih =>
    intro x1 x4 D h
    rw [f_X5_addSigns_b5] at h
    refine v_iload (pc := 5) O dX5_addSigns_5 2 rfl ?_
    refine v_iflt (pc := 7) 58 O dX5_addSigns_7 (by decide) (fun c1 => ?_) (fun c1 => ?_)
    · have h := (if_pos c1).symm.trans h
      refine v_sub [] rfl ?_
      exact w_X5_addSigns_b58 O hm hn hz D h
    · have h := (if_neg c1).symm.trans h
      refine v_aload_n (pc := 10) O dX5_addSigns_10 0 rfl ?_
      refine v_getI (pc := 11) (a := 3) O gf_X5_2 fl_X5_32 kq_3 dX5_addSigns_11 ?_
      refine v_sipush (pc := 14) O dX5_addSigns_14 sp_240 ?_
      refine v_icmpge (pc := 17) 58 O dX5_addSigns_17 (by decide) (fun c2 => ?_) (fun c2 => ?_)
      · have h := (if_pos c2).symm.trans h
        refine v_sub [] rfl ?_
        exact w_X5_addSigns_b58 O hm hn hz D h
      · have h := (if_neg c2).symm.trans h
        refine v_aload_n (pc := 20) O dX5_addSigns_20 0 rfl ?_
        refine v_getK (pc := 21) (a := 3) O hm gf_X5_1 fl_X5_9 kq_3 lk_3_1 dX5_addSigns_21 ?_
        refine v_aload_n (pc := 24) O dX5_addSigns_24 0 rfl ?_
        refine v_getI (pc := 25) (a := 3) O gf_X5_2 fl_X5_32 kq_3 dX5_addSigns_25 ?_
        refine v_lload_n (pc := 28) O dX5_addSigns_28 1 rfl ?_
        refine v_bipush (pc := 29) O dX5_addSigns_29 bp_8 ?_
        refine v_iload (pc := 31) O dX5_addSigns_31 2 rfl ?_
        refine v_imul (pc := 33) O dX5_addSigns_33 ?_
        refine v_lshr (pc := 34) O dX5_addSigns_34 ?_
        refine v_ldc2 (pc := 35) O dX5_addSigns_35 cl_X5_39 ?_
        refine v_land (pc := 38) O dX5_addSigns_38 ?_
        refine v_l2i (pc := 39) O dX5_addSigns_39 ?_
        refine v_i2c (pc := 40) O dX5_addSigns_40 ?_
        obtain ⟨c3, h⟩ := or_none h
        refine v_cast (pc := 41) (a := 4) O kq_4 (inq lq_4 c3) dX5_addSigns_41 ?_
        refine v_aload_n (pc := 42) O dX5_addSigns_42 0 rfl ?_
        refine v_dup (pc := 43) O dX5_addSigns_43 rfl ?_
        refine v_getI (pc := 44) (a := 3) O gf_X5_2 fl_X5_32 kq_3 dX5_addSigns_44 ?_
        refine v_iconst (pc := 47) O dX5_addSigns_47 ic_1 ?_
        refine v_iadd (pc := 48) O dX5_addSigns_48 ?_
        refine v_putI (pc := 49) (a := 3) O pf_X5_2 fl_X5_32 kq_3 dX5_addSigns_49 ?_
        refine v_sub [0, 1, 2] rfl ?_
        exact w_X5_addSigns_b52 O hm hn hz ih x1 x4 (sI (sI D 4 (dI D 3 2).toNatClampNeg (vp_nar .char (((((((x1 >>> ((((8 : Int32) * x4) : Int32).toInt64 &&& 63)) &&& (255 : Int64)) : Int64).toInt32) : Int32).toUInt32 % 65536).toInt32))) 3 2 ((dI (sI D 4 (dI D 3 2).toNatClampNeg (vp_nar .char (((((((x1 >>> ((((8 : Int32) * x4) : Int32).toInt64 &&& 63)) &&& (255 : Int64)) : Int64).toInt32) : Int32).toUInt32 % 65536).toInt32))) 3 2) + (1 : Int32))) h
def f_X5_addSigns (N : Nat) (x1 : Int64) (x3 : Int32) (D : Dat) : Option (Dat) :=
  f_X5_addSigns_b5 N N x1 (x3 - (1 : Int32)) D
set_option maxHeartbeats 4000000 in
theorem w_X5_addSigns {X : Cx} {n nu c u : Nat} {K : Nat → Nat} {N : Nat} {z : Dat} (O : Ok X cX5_addSigns RX5 none 0 0) (hm : wlm (xw X) = true) (hn : xn X = 5) (hz : Z0 X (Ax nu K c u)) (x1 : Int64) (x3 : Int32) (D : Dat) (h : f_X5_addSigns N x1 x3 D = some z) : V X (Q0 X n (Ax nu K c u) none z) n (Ax nu K c u) D 0 [(0, .ref (bo X + pp 3)), (1, .long x1), (3, .int x3)] [] := by
  unfold f_X5_addSigns at h
  refine v_iload_n (pc := 0) O dX5_addSigns_0 2 rfl ?_
  refine v_iconst (pc := 1) O dX5_addSigns_1 ic_1 ?_
  refine v_isub (pc := 2) O dX5_addSigns_2 ?_
  refine v_istore (pc := 3) (lv' := [(4, .int (x3 - (1 : Int32))), (0, .ref (bo X + pp 3)), (1, .long x1), (3, .int x3)]) O dX5_addSigns_3 (by rw [hn]; decide) rfl ?_
  refine v_sub [1, 2, 0] rfl ?_
  exact w_X5_addSigns_b5 O hm hn hz N x1 (x3 - (1 : Int32)) D h
theorem c_X5_addSigns {l : Launch} {w : Wx} {n nu c u : Nat} {K : Nat → Nat} {N : Nat} (hm : wlm w = true) {x1 : Int64} {x3 : Int32} {D : Dat} {z : Dat} (h : f_X5_addSigns N x1 x3 D = some z) : C0 l w yX5_addSigns cX5_addSigns 5 none 0 0 [.ref (wb w + pp 3), .long x1, .int x3] n (Ax nu K c u) D none z :=
  C0.of (by decide) (Nat.le_of_ble_eq_true rfl) (fun X e1 e2 e3 hz O => by
  subst e1
  subst e2
  exact w_X5_addSigns O hm e3 hz x1 x3 D h)
