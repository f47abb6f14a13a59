theorem fl_X3_30 : Cond.fieldLink RX3 30 RX3 (TX3 7).2.1 (TX3 7).2.2.1 ∈ tb := tb_of 404 (by decide +kernel) (by decide +kernel)
theorem gf_X3_7 : FI 3 RX3 TX3 11 tyX3 7 3 := ⟨rfl, inb_X3, tyX3_ok, nmX3, by decide, by decide, rfl, rfl, rfl⟩
theorem lk_181_7 : lks 181 7 = some 188 := by decide +kernel
theorem kq_188 {nu c u : Nat} {K : Nat → Nat} : (Ax nu K c u).1 188 = 14 := kd_lt (K := K) (a := 188) (by decide) rfl
theorem lq_188 {nu c u : Nat} {K : Nat → Nat} : (Ax nu K c u).2.1 188 = 6 := rfl
theorem cw_X3_written : Cond.code yX3_written cX3_written 2 (some .int) ∈ tb := tb_of 1674 (by decide +kernel) (by decide +kernel)
theorem mw_X3_written : MW yX3_written cX3_written 2 (some .int) 1 := ⟨cw_X3_written, ini_X3, by decide +kernel⟩
theorem im_X3_written : Cond.instanceMethod yX3_written ∈ tb := tb_of 1672 (by decide +kernel) (by decide +kernel)
theorem se_X3_written : Cond.selects (yX3_written).cls yX3_written yX3_written ∈ tb := tb_of 1673 (by decide +kernel) (by decide +kernel)
theorem ml_X3_41 : Cond.methodLink RX3 41 yX3_written ∈ tb := tb_of 1679 (by decide +kernel) (by decide +kernel)
theorem fl_X3_27 : Cond.fieldLink RX3 27 RX3 (TX3 6).2.1 (TX3 6).2.2.1 ∈ tb := tb_of 403 (by decide +kernel) (by decide +kernel)
theorem gf_X3_6 : FI 3 RX3 TX3 11 tyX3 6 3 := ⟨rfl, inb_X3, tyX3_ok, nmX3, by decide, by decide, rfl, rfl, rfl⟩
theorem lk_181_6 : lks 181 6 = some 187 := by decide +kernel
theorem kq_187 {nu c u : Nat} {K : Nat → Nat} : (Ax nu K c u).1 187 = 14 := kd_lt (K := K) (a := 187) (by decide) rfl
theorem lq_187 {nu c u : Nat} {K : Nat → Nat} : (Ax nu K c u).2.1 187 = 120 := rfl
theorem fl_X3_44 : Cond.fieldLink RX3 44 RX3 (TX3 9).2.1 (TX3 9).2.2.1 ∈ tb := tb_of 406 (by decide +kernel) (by decide +kernel)
theorem gf_X3_9 : FI 3 RX3 TX3 11 tyX3 9 0 := ⟨rfl, inb_X3, tyX3_ok, nmX3, by decide, by decide, rfl, rfl, rfl⟩
theorem fl_X3_33 : Cond.fieldLink RX3 33 RX3 (TX3 10).2.1 (TX3 10).2.2.1 ∈ tb := tb_of 407 (by decide +kernel) (by decide +kernel)
theorem gf_X3_10 : FI 3 RX3 TX3 11 tyX3 10 0 := ⟨rfl, inb_X3, tyX3_ok, nmX3, by decide, by decide, rfl, rfl, rfl⟩
theorem ml_X3_47 : Cond.methodLink RX3 47 yJ7_fill_53178 ∈ tb := tb_of 1553 (by decide +kernel) (by decide +kernel)
theorem fl_X3_24 : Cond.fieldLink RX3 24 RX3 (TX3 5).2.1 (TX3 5).2.2.1 ∈ tb := tb_of 402 (by decide +kernel) (by decide +kernel)
theorem gf_X3_5 : FI 3 RX3 TX3 11 tyX3 5 3 := ⟨rfl, inb_X3, tyX3_ok, nmX3, by decide, by decide, rfl, rfl, rfl⟩
theorem lk_181_5 : lks 181 5 = some 186 := by decide +kernel
theorem kq_186 {nu c u : Nat} {K : Nat → Nat} : (Ax nu K c u).1 186 = 14 := kd_lt (K := K) (a := 186) (by decide) rfl
theorem lq_186 {nu c u : Nat} {K : Nat → Nat} : (Ax nu K c u).2.1 186 = 6 := rfl
theorem fl_X3_53 : Cond.fieldLink RX3 53 RX3 (TX3 2).2.1 (TX3 2).2.2.1 ∈ tb := tb_of 399 (by decide +kernel) (by decide +kernel)
theorem gf_X3_2 : FI 3 RX3 TX3 11 tyX3 2 0 := ⟨rfl, inb_X3, tyX3_ok, nmX3, by decide, by decide, rfl, rfl, rfl⟩
theorem pf_X3_2 : PI 3 RX3 TX3 11 tyX3 2 0 .int := ⟨gf_X3_2, rfl, rfl⟩
theorem fl_X3_56 : Cond.fieldLink RX3 56 RX3 (TX3 8).2.1 (TX3 8).2.2.1 ∈ tb := tb_of 405 (by decide +kernel) (by decide +kernel)
theorem gf_X3_8 : FI 3 RX3 TX3 11 tyX3 8 0 := ⟨rfl, inb_X3, tyX3_ok, nmX3, by decide, by decide, rfl, rfl, rfl⟩
theorem pf_X3_8 : PI 3 RX3 TX3 11 tyX3 8 0 .int := ⟨gf_X3_8, rfl, rfl⟩
theorem pf_X3_9 : PI 3 RX3 TX3 11 tyX3 9 0 .int := ⟨gf_X3_9, rfl, rfl⟩
theorem pf_X3_10 : PI 3 RX3 TX3 11 tyX3 10 0 .int := ⟨gf_X3_10, rfl, rfl⟩
theorem cw_X3_goesOn : Cond.code yX3_goesOn cX3_goesOn 1 (some .boolean) ∈ tb := tb_of 1561 (by decide +kernel) (by decide +kernel)
theorem mw_X3_goesOn : MW yX3_goesOn cX3_goesOn 1 (some .boolean) 0 := ⟨cw_X3_goesOn, ini_X3, by decide +kernel⟩
theorem im_X3_goesOn : Cond.instanceMethod yX3_goesOn ∈ tb := tb_of 1559 (by decide +kernel) (by decide +kernel)
theorem se_X3_goesOn : Cond.selects (yX3_goesOn).cls yX3_goesOn yX3_goesOn ∈ tb := tb_of 1560 (by decide +kernel) (by decide +kernel)
theorem ml_X3_59 : Cond.methodLink RX3 59 yX3_goesOn ∈ tb := tb_of 1558 (by decide +kernel) (by decide +kernel)
theorem fl_X3_15 : Cond.fieldLink RX3 15 RX3 (TX3 1).2.1 (TX3 1).2.2.1 ∈ tb := tb_of 398 (by decide +kernel) (by decide +kernel)
theorem gf_X3_1 : FI 3 RX3 TX3 11 tyX3 1 3 := ⟨rfl, inb_X3, tyX3_ok, nmX3, by decide, by decide, rfl, rfl, rfl⟩
theorem lk_181_1 : lks 181 1 = some 183 := by decide +kernel
theorem kq_183 {nu c u : Nat} {K : Nat → Nat} : (Ax nu K c u).1 183 = 14 := kd_lt (K := K) (a := 183) (by decide) rfl
theorem lq_183 {nu c u : Nat} {K : Nat → Nat} : (Ax nu K c u).2.1 183 = 30 := rfl
theorem cw_X3_push : Cond.code yX3_push cX3_push 2 none ∈ tb := tb_of 1587 (by decide +kernel) (by decide +kernel)
theorem mw_X3_push : MW yX3_push cX3_push 2 none 1 := ⟨cw_X3_push, ini_X3, by decide +kernel⟩
theorem im_X3_push : Cond.instanceMethod yX3_push ∈ tb := tb_of 1586 (by decide +kernel) (by decide +kernel)
theorem se_X3_push : Cond.selects (yX3_push).cls yX3_push yX3_push ∈ tb := tb_of 71 (by decide +kernel) (by decide +kernel)
theorem ml_X3_89 : Cond.methodLink RX3 89 yX3_push ∈ tb := tb_of 1584 (by decide +kernel) (by decide +kernel)
theorem cw_X3_cell : Cond.code yX3_cell cX3_cell 2 (some .int) ∈ tb := tb_of 1591 (by decide +kernel) (by decide +kernel)
theorem mw_X3_cell : MW yX3_cell cX3_cell 2 (some .int) 1 := ⟨cw_X3_cell, ini_X3, by decide +kernel⟩
theorem im_X3_cell : Cond.instanceMethod yX3_cell ∈ tb := tb_of 1589 (by decide +kernel) (by decide +kernel)
theorem se_X3_cell : Cond.selects (yX3_cell).cls yX3_cell yX3_cell ∈ tb := tb_of 1590 (by decide +kernel) (by decide +kernel)
theorem ml_X3_93 : Cond.methodLink RX3 93 yX3_cell ∈ tb := tb_of 1588 (by decide +kernel) (by decide +kernel)
theorem cw_X3_setCell : Cond.code yX3_setCell cX3_setCell 3 none ∈ tb := tb_of 1595 (by decide +kernel) (by decide +kernel)
theorem mw_X3_setCell : MW yX3_setCell cX3_setCell 3 none 2 := ⟨cw_X3_setCell, ini_X3, by decide +kernel⟩
theorem im_X3_setCell : Cond.instanceMethod yX3_setCell ∈ tb := tb_of 1594 (by decide +kernel) (by decide +kernel)
theorem se_X3_setCell : Cond.selects (yX3_setCell).cls yX3_setCell yX3_setCell ∈ tb := tb_of 72 (by decide +kernel) (by decide +kernel)
theorem ml_X3_96 : Cond.methodLink RX3 96 yX3_setCell ∈ tb := tb_of 1592 (by decide +kernel) (by decide +kernel)
theorem kq_108 {nu c u : Nat} {K : Nat → Nat} : (Ax nu K c u).1 108 = 6 := kd_lt (K := K) (a := 108) (by decide) rfl
theorem fl_X6_25 : Cond.fieldLink RX6 25 RX6 (TX6 4).2.1 (TX6 4).2.2.1 ∈ tb := tb_of 334 (by decide +kernel) (by decide +kernel)
theorem inb_X6 : ∀ w ∈ u_ws RX6 TX6 6, w ∈ tb := by decide +kernel
theorem gf_X6_4 : FI 6 RX6 TX6 6 tyX6 4 0 := ⟨rfl, inb_X6, tyX6_ok, nmX6, by decide, by decide, rfl, rfl, rfl⟩
theorem fl_X6_18 : Cond.fieldLink RX6 18 RX6 (TX6 2).2.1 (TX6 2).2.2.1 ∈ tb := tb_of 332 (by decide +kernel) (by decide +kernel)
theorem gf_X6_2 : FI 6 RX6 TX6 6 tyX6 2 3 := ⟨rfl, inb_X6, tyX6_ok, nmX6, by decide, by decide, rfl, rfl, rfl⟩
theorem lk_108_2 : lks 108 2 = some 111 := by decide +kernel
theorem kq_111 {nu c u : Nat} {K : Nat → Nat} : (Ax nu K c u).1 111 = 14 := kd_lt (K := K) (a := 111) (by decide) rfl
theorem lq_111 {nu c u : Nat} {K : Nat → Nat} : (Ax nu K c u).2.1 111 = 64 := rfl
theorem kq_107 {nu c u : Nat} {K : Nat → Nat} : (Ax nu K c u).1 107 = 9 := kd_lt (K := K) (a := 107) (by decide) rfl
theorem fl_X9_37 : Cond.fieldLink RX9 37 RX9 (TX9 11).2.1 (TX9 11).2.2.1 ∈ tb := tb_of 362 (by decide +kernel) (by decide +kernel)
theorem inb_X9 : ∀ w ∈ u_ws RX9 TX9 13, w ∈ tb := by decide +kernel
theorem gf_X9_11 : FI 9 RX9 TX9 13 tyX9 11 0 := ⟨rfl, inb_X9, tyX9_ok, nmX9, by decide, by decide, rfl, rfl, rfl⟩
theorem fl_X9_41 : Cond.fieldLink RX9 41 RX9 (TX9 12).2.1 (TX9 12).2.2.1 ∈ tb := tb_of 363 (by decide +kernel) (by decide +kernel)
theorem gf_X9_12 : FI 9 RX9 TX9 13 tyX9 12 0 := ⟨rfl, inb_X9, tyX9_ok, nmX9, by decide, by decide, rfl, rfl, rfl⟩
theorem fl_X9_44 : Cond.fieldLink RX9 44 RX9 (TX9 10).2.1 (TX9 10).2.2.1 ∈ tb := tb_of 361 (by decide +kernel) (by decide +kernel)
theorem gf_X9_10 : FI 9 RX9 TX9 13 tyX9 10 0 := ⟨rfl, inb_X9, tyX9_ok, nmX9, by decide, by decide, rfl, rfl, rfl⟩
theorem pf_X9_10 : PI 9 RX9 TX9 13 tyX9 10 0 .boolean := ⟨gf_X9_10, rfl, rfl⟩
theorem fl_X9_48 : Cond.fieldLink RX9 48 RX9 (TX9 5).2.1 (TX9 5).2.2.1 ∈ tb := tb_of 356 (by decide +kernel) (by decide +kernel)
theorem gf_X9_5 : FI 9 RX9 TX9 13 tyX9 5 1 := ⟨rfl, inb_X9, tyX9_ok, nmX9, by decide, by decide, rfl, rfl, rfl⟩
theorem ini_J13 : Cond.initialized RJ13 ∈ tb := tb_of 190 (by decide +kernel) (by decide +kernel)
theorem cw_J13_bitCount_95d88 : Cond.code yJ13_bitCount_95d88 cJ13_bitCount_95d88 2 (some .int) ∈ tb := tb_of 1341 (by decide +kernel) (by decide +kernel)
theorem mw_J13_bitCount_95d88 : MW yJ13_bitCount_95d88 cJ13_bitCount_95d88 2 (some .int) 1 := ⟨cw_J13_bitCount_95d88, ini_J13, by decide +kernel⟩
theorem sm_J13_bitCount_95d88 : Cond.static yJ13_bitCount_95d88 ∈ tb := tb_of 1340 (by decide +kernel) (by decide +kernel)
theorem ml_X9_52 : Cond.methodLink RX9 52 yJ13_bitCount_95d88 ∈ tb := tb_of 1470 (by decide +kernel) (by decide +kernel)
theorem fl_X9_14 : Cond.fieldLink RX9 14 RX9 (TX9 1).2.1 (TX9 1).2.2.1 ∈ tb := tb_of 352 (by decide +kernel) (by decide +kernel)
theorem gf_X9_1 : FI 9 RX9 TX9 13 tyX9 1 3 := ⟨rfl, inb_X9, tyX9_ok, nmX9, by decide, by decide, rfl, rfl, rfl⟩
theorem lk_107_1 : lks 107 1 = some 108 := by decide +kernel
theorem ini_X6 : Cond.initialized RX6 ∈ tb := tb_of 167 (by decide +kernel) (by decide +kernel)
theorem cw_X6_nextOf : Cond.code yX6_nextOf cX6_nextOf 2 (some .int) ∈ tb := tb_of 1508 (by decide +kernel) (by decide +kernel)
theorem mw_X6_nextOf : MW yX6_nextOf cX6_nextOf 2 (some .int) 1 := ⟨cw_X6_nextOf, ini_X6, by decide +kernel⟩
theorem im_X6_nextOf : Cond.instanceMethod yX6_nextOf ∈ tb := tb_of 1506 (by decide +kernel) (by decide +kernel)
theorem se_X6_nextOf : Cond.selects (yX6_nextOf).cls yX6_nextOf yX6_nextOf ∈ tb := tb_of 1507 (by decide +kernel) (by decide +kernel)
theorem ml_X9_62 : Cond.methodLink RX9 62 yX6_nextOf ∈ tb := tb_of 1505 (by decide +kernel) (by decide +kernel)
theorem fl_X9_27 : Cond.fieldLink RX9 27 RX9 (TX9 7).2.1 (TX9 7).2.2.1 ∈ tb := tb_of 358 (by decide +kernel) (by decide +kernel)
theorem gf_X9_7 : FI 9 RX9 TX9 13 tyX9 7 3 := ⟨rfl, inb_X9, tyX9_ok, nmX9, by decide, by decide, rfl, rfl, rfl⟩
theorem lk_107_7 : lks 107 7 = some 115 := by decide +kernel
theorem kq_115 {nu c u : Nat} {K : Nat → Nat} : (Ax nu K c u).1 115 = 18 := kd_lt (K := K) (a := 115) (by decide) rfl
theorem lq_115 {nu c u : Nat} {K : Nat → Nat} : (Ax nu K c u).2.1 115 = 64 := rfl
theorem kr0_115 : ∀ j, j < 64 → 115 + 1 + j < NS ∧ kst (115 + 1 + j) = 14 ∧ nst (115 + 1 + j) = 56 ∧ 115 + 1 + j ≠ 2 := by decide +kernel
theorem kr_115 {nu c u : Nat} {K : Nat → Nat} {i : Int32} (h : ¬ (i < 0 ∨ 64 ≤ i.toNatClampNeg)) : (Ax nu K c u).1 (115 + 1 + i.toNatClampNeg) = 14 := kd_lt (K := K) (a := 115 + 1 + i.toNatClampNeg) (kr0_115 _ (Nat.not_le.mp fun q => h (Or.inr q))).1 (kr0_115 _ (Nat.not_le.mp fun q => h (Or.inr q))).2.1
theorem lr_115 {nu c u : Nat} {K : Nat → Nat} {i : Int32} (h : ¬ (i < 0 ∨ 64 ≤ i.toNatClampNeg)) : (Ax nu K c u).2.1 (115 + 1 + i.toNatClampNeg) = 56 := (if_neg (kr0_115 _ (Nat.not_le.mp fun q => h (Or.inr q))).2.2.2).trans (kr0_115 _ (Nat.not_le.mp fun q => h (Or.inr q))).2.2.1
def f_X3_written_b17 (s0 : Int32) (D : Dat) : Option (Int32 × Dat) :=
  some (s0, D)
set_option maxHeartbeats 4000000 in
theorem w_X3_written_b17 {X : Cx} {n nu c u : Nat} {K : Nat → Nat} {z : Int32 × Dat} (O : Ok X cX3_written RX3 (some .int) 1 20) (hm : wlm (xw X) = true) (hn : xn X = 2) (hz : Z0 X (Ax nu K c u)) (s0 : Int32) (D : Dat) (h : f_X3_written_b17 s0 D = some z) : V X (Q0 X n (Ax nu K c u) (some (.int z.1)) z.2) n (Ax nu K c u) D 17 [] [.int s0] := by
  unfold f_X3_written_b17 at h
  obtain rfl := Option.some.inj h
  exact v_iret (pc := 17) O hz dX3_written_17
def f_X3_written (x1 : Int32) (D : Dat) : Option (Int32 × Dat) :=
  (f_X3_isMark x1 D).bind (fun p1 => if p1.1 = 0 then (f_X3_written_b17 0 p1.2) else (if x1 < 0 ∨ 6 ≤ (x1).toNatClampNeg then none else (f_X3_written_b17 (dI p1.2 188 (x1).toNatClampNeg) p1.2)))
set_option maxHeartbeats 4000000 in
theorem w_X3_written {X : Cx} {n nu c u : Nat} {K : Nat → Nat} {z : Int32 × Dat} (O : Ok X cX3_written RX3 (some .int) 1 20) (hm : wlm (xw X) = true) (hn : xn X = 2) (hz : Z0 X (Ax nu K c u)) (x1 : Int32) (D : Dat) (h : f_X3_written x1 D = some z) : V X (Q0 X n (Ax nu K c u) (some (.int z.1)) z.2) n (Ax nu K c u) D 0 [(0, .ref (bo X + pp 181)), (1, .int x1)] [] := by
  unfold f_X3_written at h
  refine v_iload_n (pc := 0) O dX3_written_0 1 rfl ?_
  obtain ⟨p1, e2, h⟩ := bind_some h
  refine v_callS (pc := 1) (As := [.int x1]) (rest := []) (r := (some (.int p1.1))) (D' := p1.2) O (bb0 hz) (c_X3_isMark hm e2) mw_X3_isMark sm_X3_isMark ml_X3_37 rfl (by decide) (by decide) (Nat.le_of_ble_eq_true rfl) dX3_written_1 rfl rfl ?_
  refine v_ifeq (pc := 4) 16 O dX3_written_4 (by decide) (fun c3 => ?_) (fun c3 => ?_)
  · have h := (if_pos c3).symm.trans h
    refine v_iconst (pc := 16) O dX3_written_16 ic_0 ?_
    refine v_sub [] rfl ?_
    exact w_X3_written_b17 O hm hn hz 0 p1.2 h
  · have h := (if_neg c3).symm.trans h
    refine v_aload_n (pc := 7) O dX3_written_7 0 rfl ?_
    refine v_getK (pc := 8) (a := 181) O hm gf_X3_7 fl_X3_30 kq_181 lk_181_7 dX3_written_8 ?_
    refine v_iload_n (pc := 11) O dX3_written_11 1 rfl ?_
    obtain ⟨c4, h⟩ := or_none h
    refine v_iald (pc := 12) (a := 188) O kq_188 (inq lq_188 c4) dX3_written_12 ?_
    refine v_goto (pc := 13) 17 O dX3_written_13 (by decide) ?_
    refine v_sub [] rfl ?_
    exact w_X3_written_b17 O hm hn hz (dI p1.2 188 (x1).toNatClampNeg) p1.2 h
theorem c_X3_written {l : Launch} {w : Wx} {n nu c u : Nat} {K : Nat → Nat} (hm : wlm w = true) {x1 : Int32} {D : Dat} {z : Int32 × Dat} (h : f_X3_written x1 D = some z) : C0 l w yX3_written cX3_written 2 (some .int) 1 20 [.ref (wb w + pp 181), .int x1] n (Ax nu K c u) D (some (.int z.1)) z.2 :=
  C0.of (by decide) (Nat.le_of_ble_eq_true rfl) (fun X e1 e2 e3 hz O => by
  subst e1
  subst e2
  exact w_X3_written O hm e3 hz x1 D h)
def f_X3_numberPut_b28 (s0 : Int32) (D : Dat) : Option (Int32 × Dat) :=
  some (s0, D)
set_option maxHeartbeats 4000000 in
theorem w_X3_numberPut_b28 {X : Cx} {n nu c u : Nat} {K : Nat → Nat} {z : Int32 × Dat} (O : Ok X cX3_numberPut RX3 (some .int) 2 41) (hm : wlm (xw X) = true) (hn : xn X = 3) (hz : Z0 X (Ax nu K c u)) (s0 : Int32) (D : Dat) (h : f_X3_numberPut_b28 s0 D = some z) : V X (Q0 X n (Ax nu K c u) (some (.int z.1)) z.2) n (Ax nu K c u) D 28 [] [.int s0] := by
  unfold f_X3_numberPut_b28 at h
  obtain rfl := Option.some.inj h
  exact v_iret (pc := 28) O hz dX3_numberPut_28
def f_X3_numberPut_b27 (D : Dat) : Option (Int32 × Dat) :=
  f_X3_numberPut_b28 0 D
set_option maxHeartbeats 4000000 in
theorem w_X3_numberPut_b27 {X : Cx} {n nu c u : Nat} {K : Nat → Nat} {z : Int32 × Dat} (O : Ok X cX3_numberPut RX3 (some .int) 2 41) (hm : wlm (xw X) = true) (hn : xn X = 3) (hz : Z0 X (Ax nu K c u)) (D : Dat) (h : f_X3_numberPut_b27 D = some z) : V X (Q0 X n (Ax nu K c u) (some (.int z.1)) z.2) n (Ax nu K c u) D 27 [] [] := by
  unfold f_X3_numberPut_b27 at h
  refine v_iconst (pc := 27) O dX3_numberPut_27 ic_0 ?_
  refine v_sub [] rfl ?_
  exact w_X3_numberPut_b28 O hm hn hz 0 D h
def f_X3_numberPut (x1 : Int32) (x2 : Int32) (D : Dat) : Option (Int32 × Dat) :=
  if x2 < 0 then (f_X3_numberPut_b27 D) else ((f_X3_written x1 D).bind (fun p2 => if p2.1 ≤ x2 then (f_X3_numberPut_b27 p2.2) else (if ((x1 * (20 : Int32)) + x2) < 0 ∨ 120 ≤ (((x1 * (20 : Int32)) + x2)).toNatClampNeg then none else (f_X3_numberPut_b28 (dI p2.2 187 ((x1 * (20 : Int32)) + x2).toNatClampNeg) p2.2))))
set_option maxHeartbeats 4000000 in
theorem w_X3_numberPut {X : Cx} {n nu c u : Nat} {K : Nat → Nat} {z : Int32 × Dat} (O : Ok X cX3_numberPut RX3 (some .int) 2 41) (hm : wlm (xw X) = true) (hn : xn X = 3) (hz : Z0 X (Ax nu K c u)) (x1 : Int32) (x2 : Int32) (D : Dat) (h : f_X3_numberPut x1 x2 D = some z) : V X (Q0 X n (Ax nu K c u) (some (.int z.1)) z.2) n (Ax nu K c u) D 0 [(0, .ref (bo X + pp 181)), (1, .int x1), (2, .int x2)] [] := by
  unfold f_X3_numberPut at h
  refine v_iload_n (pc := 0) O dX3_numberPut_0 2 rfl ?_
  refine v_iflt (pc := 1) 27 O dX3_numberPut_1 (by decide) (fun c1 => ?_) (fun c1 => ?_)
  · have h := (if_pos c1).symm.trans h
    refine v_sub [] rfl ?_
    exact w_X3_numberPut_b27 O hm hn hz D h
  · have h := (if_neg c1).symm.trans h
    refine v_iload_n (pc := 4) O dX3_numberPut_4 2 rfl ?_
    refine v_aload_n (pc := 5) O dX3_numberPut_5 0 rfl ?_
    refine v_iload_n (pc := 6) O dX3_numberPut_6 1 rfl ?_
    obtain ⟨p2, e3, h⟩ := bind_some h
    refine v_callV (pc := 7) (a := 181) (As := [.int x1]) (rest := [.int x2]) (r := (some (.int p2.1))) (D' := p2.2) O (bb0 hz) (c_X3_written hm e3) mw_X3_written im_X3_written se_X3_written ml_X3_41 kq_181 (by decide) rfl rfl rfl (by decide) (by decide) (Nat.le_of_ble_eq_true rfl) dX3_numberPut_7 rfl rfl ?_
    refine v_icmpge (pc := 10) 27 O dX3_numberPut_10 (by decide) (fun c4 => ?_) (fun c4 => ?_)
    · have h := (if_pos c4).symm.trans h
      refine v_sub [] rfl ?_
      exact w_X3_numberPut_b27 O hm hn hz p2.2 h
    · have h := (if_neg c4).symm.trans h
      refine v_aload_n (pc := 13) O dX3_numberPut_13 0 rfl ?_
      refine v_getK (pc := 14) (a := 181) O hm gf_X3_6 fl_X3_27 kq_181 lk_181_6 dX3_numberPut_14 ?_
      refine v_iload_n (pc := 17) O dX3_numberPut_17 1 rfl ?_
      refine v_bipush (pc := 18) O dX3_numberPut_18 bp_20 ?_
      refine v_imul (pc := 20) O dX3_numberPut_20 ?_
      refine v_iload_n (pc := 21) O dX3_numberPut_21 2 rfl ?_
      refine v_iadd (pc := 22) O dX3_numberPut_22 ?_
      obtain ⟨c5, h⟩ := or_none h
      refine v_iald (pc := 23) (a := 187) O kq_187 (inq lq_187 c5) dX3_numberPut_23 ?_
      refine v_goto (pc := 24) 28 O dX3_numberPut_24 (by decide) ?_
      refine v_sub [] rfl ?_
      exact w_X3_numberPut_b28 O hm hn hz (dI p2.2 187 ((x1 * (20 : Int32)) + x2).toNatClampNeg) p2.2 h
theorem c_X3_numberPut {l : Launch} {w : Wx} {n nu c u : Nat} {K : Nat → Nat} (hm : wlm w = true) {x1 : Int32} {x2 : Int32} {D : Dat} {z : Int32 × Dat} (h : f_X3_numberPut x1 x2 D = some z) : C0 l w yX3_numberPut cX3_numberPut 3 (some .int) 2 41 [.ref (wb w + pp 181), .int x1, .int x2] n (Ax nu K c u) D (some (.int z.1)) z.2 :=
  C0.of (by decide) (Nat.le_of_ble_eq_true rfl) (fun X e1 e2 e3 hz O => by
  subst e1
  subst e2
  exact w_X3_numberPut O hm e3 hz x1 x2 D h)
def f_X3_fuelTaken (D : Dat) : Option (Int32 × Dat) :=
  some ((dI D 181 9), D)
set_option maxHeartbeats 4000000 in
theorem w_X3_fuelTaken {X : Cx} {n nu c u : Nat} {K : Nat → Nat} {z : Int32 × Dat} (O : Ok X cX3_fuelTaken RX3 (some .int) 0 0) (hm : wlm (xw X) = true) (hn : xn X = 1) (hz : Z0 X (Ax nu K c u)) (D : Dat) (h : f_X3_fuelTaken D = some z) : V X (Q0 X n (Ax nu K c u) (some (.int z.1)) z.2) n (Ax nu K c u) D 0 [(0, .ref (bo X + pp 181))] [] := by
  unfold f_X3_fuelTaken at h
  refine v_aload_n (pc := 0) O dX3_fuelTaken_0 0 rfl ?_
  refine v_getI (pc := 1) (a := 181) O gf_X3_9 fl_X3_44 kq_181 dX3_fuelTaken_1 ?_
  obtain rfl := Option.some.inj h
  exact v_iret (pc := 4) O hz dX3_fuelTaken_4
theorem c_X3_fuelTaken {l : Launch} {w : Wx} {n nu c u : Nat} {K : Nat → Nat} (hm : wlm w = true) {D : Dat} {z : Int32 × Dat} (h : f_X3_fuelTaken D = some z) : C0 l w yX3_fuelTaken cX3_fuelTaken 1 (some .int) 0 0 [.ref (wb w + pp 181)] n (Ax nu K c u) D (some (.int z.1)) z.2 :=
  C0.of (by decide) (Nat.le_of_ble_eq_true rfl) (fun X e1 e2 e3 hz O => by
  subst e1
  subst e2
  exact w_X3_fuelTaken O hm e3 hz  D h)
def f_X3_ending (D : Dat) : Option (Int32 × Dat) :=
  some ((dI D 181 10), D)
set_option maxHeartbeats 4000000 in
theorem w_X3_ending {X : Cx} {n nu c u : Nat} {K : Nat → Nat} {z : Int32 × Dat} (O : Ok X cX3_ending RX3 (some .int) 0 0) (hm : wlm (xw X) = true) (hn : xn X = 1) (hz : Z0 X (Ax nu K c u)) (D : Dat) (h : f_X3_ending D = some z) : V X (Q0 X n (Ax nu K c u) (some (.int z.1)) z.2) n (Ax nu K c u) D 0 [(0, .ref (bo X + pp 181))] [] := by
  unfold f_X3_ending at h
  refine v_aload_n (pc := 0) O dX3_ending_0 0 rfl ?_
  refine v_getI (pc := 1) (a := 181) O gf_X3_10 fl_X3_33 kq_181 dX3_ending_1 ?_
  obtain rfl := Option.some.inj h
  exact v_iret (pc := 4) O hz dX3_ending_4
theorem c_X3_ending {l : Launch} {w : Wx} {n nu c u : Nat} {K : Nat → Nat} (hm : wlm w = true) {D : Dat} {z : Int32 × Dat} (h : f_X3_ending D = some z) : C0 l w yX3_ending cX3_ending 1 (some .int) 0 0 [.ref (wb w + pp 181)] n (Ax nu K c u) D (some (.int z.1)) z.2 :=
  C0.of (by decide) (Nat.le_of_ble_eq_true rfl) (fun X e1 e2 e3 hz O => by
  subst e1
  subst e2
  exact w_X3_ending O hm e3 hz  D h)
def f_X3_start (N : Nat) (nu : Nat) (K : Nat → Nat) (x1 : Int32) (D : Dat) : Option (Dat) :=
  (f_J7_fill_53178 N nu K 182 0 D).bind (fun p1 => (f_J7_fill_53178 N nu K 186 0 p1).bind (fun p3 => (f_J7_fill_53178 N nu K 188 0 p3).bind (fun p5 => some (sI (sI (sI (sI p5 181 2 0) 181 8 x1) 181 9 0) 181 10 (-1)))))
set_option maxHeartbeats 4000000 in
theorem w_X3_start {X : Cx} {n nu c u : Nat} {K : Nat → Nat} {N : Nat} {z : Dat} (O : Ok X cX3_start RX3 none 1 23) (hm : wlm (xw X) = true) (hn : xn X = 2) (hz : Z0 X (Ax nu K c u)) (x1 : Int32) (D : Dat) (h : f_X3_start N nu K x1 D = some z) : V X (Q0 X n (Ax nu K c u) none z) n (Ax nu K c u) D 0 [(0, .ref (bo X + pp 181)), (1, .int x1)] [] := by
  unfold f_X3_start at h
  refine v_aload_n (pc := 0) O dX3_start_0 0 rfl ?_
  refine v_getK (pc := 1) (a := 181) O hm gf_X3_0 fl_X3_11 kq_181 lk_181_0 dX3_start_1 ?_
  refine v_iconst (pc := 4) O dX3_start_4 ic_0 ?_
  obtain ⟨p1, e2, h⟩ := bind_some h
  refine v_callS (pc := 5) (As := [.ref (bo X + pp 182), .int 0]) (rest := []) (r := none) (D' := p1) O (bb0 hz) (c_J7_fill_53178 hm e2) mw_J7_fill_53178 sm_J7_fill_53178 ml_X3_47 rfl (by decide) (by decide) (Nat.le_of_ble_eq_true rfl) dX3_start_5 rfl rfl ?_
  refine v_aload_n (pc := 8) O dX3_start_8 0 rfl ?_
  refine v_getK (pc := 9) (a := 181) O hm gf_X3_5 fl_X3_24 kq_181 lk_181_5 dX3_start_9 ?_
  refine v_iconst (pc := 12) O dX3_start_12 ic_0 ?_
  obtain ⟨p3, e4, h⟩ := bind_some h
  refine v_callS (pc := 13) (As := [.ref (bo X + pp 186), .int 0]) (rest := []) (r := none) (D' := p3) O (bb0 hz) (c_J7_fill_53178 hm e4) mw_J7_fill_53178 sm_J7_fill_53178 ml_X3_47 rfl (by decide) (by decide) (Nat.le_of_ble_eq_true rfl) dX3_start_13 rfl rfl ?_
  refine v_aload_n (pc := 16) O dX3_start_16 0 rfl ?_
  refine v_getK (pc := 17) (a := 181) O hm gf_X3_7 fl_X3_30 kq_181 lk_181_7 dX3_start_17 ?_
  refine v_iconst (pc := 20) O dX3_start_20 ic_0 ?_
  obtain ⟨p5, e6, h⟩ := bind_some h
  refine v_callS (pc := 21) (As := [.ref (bo X + pp 188), .int 0]) (rest := []) (r := none) (D' := p5) O (bb0 hz) (c_J7_fill_53178 hm e6) mw_J7_fill_53178 sm_J7_fill_53178 ml_X3_47 rfl (by decide) (by decide) (Nat.le_of_ble_eq_true rfl) dX3_start_21 rfl rfl ?_
  refine v_aload_n (pc := 24) O dX3_start_24 0 rfl ?_
  refine v_iconst (pc := 25) O dX3_start_25 ic_0 ?_
  refine v_putI (pc := 26) (a := 181) O pf_X3_2 fl_X3_53 kq_181 dX3_start_26 ?_
  refine v_aload_n (pc := 29) O dX3_start_29 0 rfl ?_
  refine v_iload_n (pc := 30) O dX3_start_30 1 rfl ?_
  refine v_putI (pc := 31) (a := 181) O pf_X3_8 fl_X3_56 kq_181 dX3_start_31 ?_
  refine v_aload_n (pc := 34) O dX3_start_34 0 rfl ?_
  refine v_iconst (pc := 35) O dX3_start_35 ic_0 ?_
  refine v_putI (pc := 36) (a := 181) O pf_X3_9 fl_X3_44 kq_181 dX3_start_36 ?_
  refine v_aload_n (pc := 39) O dX3_start_39 0 rfl ?_
  refine v_iconst (pc := 40) O dX3_start_40 ic_m1 ?_
  refine v_putI (pc := 41) (a := 181) O pf_X3_10 fl_X3_33 kq_181 dX3_start_41 ?_
  obtain rfl := Option.some.inj h
  exact v_ret (pc := 44) O hz dX3_start_44
theorem c_X3_start {l : Launch} {w : Wx} {n nu c u : Nat} {K : Nat → Nat} {N : Nat} (hm : wlm w = true) {x1 : Int32} {D : Dat} {z : Dat} (h : f_X3_start N nu K x1 D = some z) : C0 l w yX3_start cX3_start 2 none 1 23 [.ref (wb w + pp 181), .int x1] n (Ax nu K c u) D none z :=
  C0.of (by decide) (Nat.le_of_ble_eq_true rfl) (fun X e1 e2 e3 hz O => by
  subst e1
  subst e2
  exact w_X3_start O hm e3 hz x1 D h)
def f_X3_goesOn_b13 (s0 : Int32) (D : Dat) : Option (Int32 × Dat) :=
  if s0 &&& 1 = s0 then some (s0, D) else none
set_option maxHeartbeats 4000000 in
theorem w_X3_goesOn_b13 {X : Cx} {n nu c u : Nat} {K : Nat → Nat} {z : Int32 × Dat} (O : Ok X cX3_goesOn RX3 (some .boolean) 0 0) (hm : wlm (xw X) = true) (hn : xn X = 1) (hz : Z0 X (Ax nu K c u)) (s0 : Int32) (D : Dat) (h : f_X3_goesOn_b13 s0 D = some z) : V X (Q0 X n (Ax nu K c u) (some (.int z.1)) z.2) n (Ax nu K c u) D 13 [] [.int s0] := by
  unfold f_X3_goesOn_b13 at h
  obtain ⟨c1, h⟩ := if_none h
  obtain rfl := Option.some.inj h
  exact v_zret (pc := 13) O hz (congrArg Value.int c1) dX3_goesOn_13
def f_X3_goesOn (D : Dat) : Option (Int32 × Dat) :=
  if (dI D 181 10) = (-1) then (f_X3_goesOn_b13 1 D) else (f_X3_goesOn_b13 0 D)
set_option maxHeartbeats 4000000 in
theorem w_X3_goesOn {X : Cx} {n nu c u : Nat} {K : Nat → Nat} {z : Int32 × Dat} (O : Ok X cX3_goesOn RX3 (some .boolean) 0 0) (hm : wlm (xw X) = true) (hn : xn X = 1) (hz : Z0 X (Ax nu K c u)) (D : Dat) (h : f_X3_goesOn D = some z) : V X (Q0 X n (Ax nu K c u) (some (.int z.1)) z.2) n (Ax nu K c u) D 0 [(0, .ref (bo X + pp 181))] [] := by
  unfold f_X3_goesOn at h
  refine v_aload_n (pc := 0) O dX3_goesOn_0 0 rfl ?_
  refine v_getI (pc := 1) (a := 181) O gf_X3_10 fl_X3_33 kq_181 dX3_goesOn_1 ?_
  refine v_iconst (pc := 4) O dX3_goesOn_4 ic_m1 ?_
  refine v_icmpne (pc := 5) 12 O dX3_goesOn_5 (by decide) (fun c2 => ?_) (fun c2 => ?_)
  · have h := (if_neg c2).symm.trans h
    refine v_iconst (pc := 12) O dX3_goesOn_12 ic_0 ?_
    refine v_sub [] rfl ?_
    exact w_X3_goesOn_b13 O hm hn hz 0 D h
  · have h := (if_pos c2).symm.trans h
    refine v_iconst (pc := 8) O dX3_goesOn_8 ic_1 ?_
    refine v_goto (pc := 9) 13 O dX3_goesOn_9 (by decide) ?_
    refine v_sub [] rfl ?_
    exact w_X3_goesOn_b13 O hm hn hz 1 D h
theorem c_X3_goesOn {l : Launch} {w : Wx} {n nu c u : Nat} {K : Nat → Nat} (hm : wlm w = true) {D : Dat} {z : Int32 × Dat} (h : f_X3_goesOn D = some z) : C0 l w yX3_goesOn cX3_goesOn 1 (some .boolean) 0 0 [.ref (wb w + pp 181)] n (Ax nu K c u) D (some (.int z.1)) z.2 :=
  C0.of (by decide) (Nat.le_of_ble_eq_true rfl) (fun X e1 e2 e3 hz O => by
  subst e1
  subst e2
  exact w_X3_goesOn O hm e3 hz  D h)
def f_X3_finish_b12 (D : Dat) : Option (Dat) :=
  some D
set_option maxHeartbeats 4000000 in
theorem w_X3_finish_b12 {X : Cx} {n nu c u : Nat} {K : Nat → Nat} {z : Dat} (O : Ok X cX3_finish RX3 none 1 20) (hm : wlm (xw X) = true) (hn : xn X = 1) (hz : Z0 X (Ax nu K c u)) (D : Dat) (h : f_X3_finish_b12 D = some z) : V X (Q0 X n (Ax nu K c u) none z) n (Ax nu K c u) D 12 [] [] := by
  unfold f_X3_finish_b12 at h
  obtain rfl := Option.some.inj h
  exact v_ret (pc := 12) O hz dX3_finish_12
def f_X3_finish (D : Dat) : Option (Dat) :=
  (f_X3_goesOn D).bind (fun p1 => if p1.1 = 0 then (f_X3_finish_b12 p1.2) else (f_X3_finish_b12 (sI p1.2 181 10 0)))
set_option maxHeartbeats 4000000 in
theorem w_X3_finish {X : Cx} {n nu c u : Nat} {K : Nat → Nat} {z : Dat} (O : Ok X cX3_finish RX3 none 1 20) (hm : wlm (xw X) = true) (hn : xn X = 1) (hz : Z0 X (Ax nu K c u)) (D : Dat) (h : f_X3_finish D = some z) : V X (Q0 X n (Ax nu K c u) none z) n (Ax nu K c u) D 0 [(0, .ref (bo X + pp 181))] [] := by
  unfold f_X3_finish at h
  refine v_aload_n (pc := 0) O dX3_finish_0 0 rfl ?_
  obtain ⟨p1, e2, h⟩ := bind_some h
  refine v_callV (pc := 1) (a := 181) (As := []) (rest := []) (r := (some (.int p1.1))) (D' := p1.2) O (bb0 hz) (c_X3_goesOn hm e2) mw_X3_goesOn im_X3_goesOn se_X3_goesOn ml_X3_59 kq_181 (by decide) rfl rfl rfl (by decide) (by decide) (Nat.le_of_ble_eq_true rfl) dX3_finish_1 rfl rfl ?_
  refine v_ifeq (pc := 4) 12 O dX3_finish_4 (by decide) (fun c3 => ?_) (fun c3 => ?_)
  · have h := (if_pos c3).symm.trans h
    refine v_sub [] rfl ?_
    exact w_X3_finish_b12 O hm hn hz p1.2 h
  · have h := (if_neg c3).symm.trans h
    refine v_aload_n (pc := 7) O dX3_finish_7 0 rfl ?_
    refine v_iconst (pc := 8) O dX3_finish_8 ic_0 ?_
    refine v_putI (pc := 9) (a := 181) O pf_X3_10 fl_X3_33 kq_181 dX3_finish_9 ?_
    refine v_sub [] rfl ?_
    exact w_X3_finish_b12 O hm hn hz (sI p1.2 181 10 0) h
theorem c_X3_finish {l : Launch} {w : Wx} {n nu c u : Nat} {K : Nat → Nat} (hm : wlm w = true) {D : Dat} {z : Dat} (h : f_X3_finish D = some z) : C0 l w yX3_finish cX3_finish 1 none 1 20 [.ref (wb w + pp 181)] n (Ax nu K c u) D none z :=
  C0.of (by decide) (Nat.le_of_ble_eq_true rfl) (fun X e1 e2 e3 hz O => by
  subst e1
  subst e2
  exact w_X3_finish O hm e3 hz  D h)
def f_X3_burns (D : Dat) : Option (Int32 × Dat) :=
  if (dI D 181 9) < (dI D 181 8) then (some (1, (sI D 181 9 ((dI D 181 9) + (1 : Int32))))) else (some (0, (sI D 181 10 3)))
set_option maxHeartbeats 4000000 in
theorem w_X3_burns {X : Cx} {n nu c u : Nat} {K : Nat → Nat} {z : Int32 × Dat} (O : Ok X cX3_burns RX3 (some .boolean) 0 0) (hm : wlm (xw X) = true) (hn : xn X = 1) (hz : Z0 X (Ax nu K c u)) (D : Dat) (h : f_X3_burns D = some z) : V X (Q0 X n (Ax nu K c u) (some (.int z.1)) z.2) n (Ax nu K c u) D 0 [(0, .ref (bo X + pp 181))] [] := by
  unfold f_X3_burns at h
  refine v_aload_n (pc := 0) O dX3_burns_0 0 rfl ?_
  refine v_getI (pc := 1) (a := 181) O gf_X3_9 fl_X3_44 kq_181 dX3_burns_1 ?_
  refine v_aload_n (pc := 4) O dX3_burns_4 0 rfl ?_
  refine v_getI (pc := 5) (a := 181) O gf_X3_8 fl_X3_56 kq_181 dX3_burns_5 ?_
  refine v_icmplt (pc := 8) 18 O dX3_burns_8 (by decide) (fun c1 => ?_) (fun c1 => ?_)
  · have h := (if_pos c1).symm.trans h
    refine v_aload_n (pc := 18) O dX3_burns_18 0 rfl ?_
    refine v_dup (pc := 19) O dX3_burns_19 rfl ?_
    refine v_getI (pc := 20) (a := 181) O gf_X3_9 fl_X3_44 kq_181 dX3_burns_20 ?_
    refine v_iconst (pc := 23) O dX3_burns_23 ic_1 ?_
    refine v_iadd (pc := 24) O dX3_burns_24 ?_
    refine v_putI (pc := 25) (a := 181) O pf_X3_9 fl_X3_44 kq_181 dX3_burns_25 ?_
    refine v_iconst (pc := 28) O dX3_burns_28 ic_1 ?_
    obtain rfl := Option.some.inj h
    exact v_zret (pc := 29) O hz narrow_b1 dX3_burns_29
  · have h := (if_neg c1).symm.trans h
    refine v_aload_n (pc := 11) O dX3_burns_11 0 rfl ?_
    refine v_iconst (pc := 12) O dX3_burns_12 ic_3 ?_
    refine v_putI (pc := 13) (a := 181) O pf_X3_10 fl_X3_33 kq_181 dX3_burns_13 ?_
    refine v_iconst (pc := 16) O dX3_burns_16 ic_0 ?_
    obtain rfl := Option.some.inj h
    exact v_zret (pc := 17) O hz narrow_b0 dX3_burns_17
theorem c_X3_burns {l : Launch} {w : Wx} {n nu c u : Nat} {K : Nat → Nat} (hm : wlm w = true) {D : Dat} {z : Int32 × Dat} (h : f_X3_burns D = some z) : C0 l w yX3_burns cX3_burns 1 (some .boolean) 0 0 [.ref (wb w + pp 181)] n (Ax nu K c u) D (some (.int z.1)) z.2 :=
  C0.of (by decide) (Nat.le_of_ble_eq_true rfl) (fun X e1 e2 e3 hz O => by
  subst e1
  subst e2
  exact w_X3_burns O hm e3 hz  D h)
def f_X3_pop (D : Dat) : Option (Int32 × Dat) :=
  if 0 < (dI D 181 2) then (if (dI (sI D 181 2 ((dI D 181 2) - (1 : Int32))) 181 2) < 0 ∨ 30 ≤ ((dI (sI D 181 2 ((dI D 181 2) - (1 : Int32))) 181 2)).toNatClampNeg then none else (some ((dI (sI D 181 2 ((dI D 181 2) - (1 : Int32))) 183 (dI (sI D 181 2 ((dI D 181 2) - (1 : Int32))) 181 2).toNatClampNeg), (sI D 181 2 ((dI D 181 2) - (1 : Int32)))))) else (some (0, D))
set_option maxHeartbeats 4000000 in
theorem w_X3_pop {X : Cx} {n nu c u : Nat} {K : Nat → Nat} {z : Int32 × Dat} (O : Ok X cX3_pop RX3 (some .int) 0 0) (hm : wlm (xw X) = true) (hn : xn X = 1) (hz : Z0 X (Ax nu K c u)) (D : Dat) (h : f_X3_pop D = some z) : V X (Q0 X n (Ax nu K c u) (some (.int z.1)) z.2) n (Ax nu K c u) D 0 [(0, .ref (bo X + pp 181))] [] := by
  unfold f_X3_pop at h
  refine v_aload_n (pc := 0) O dX3_pop_0 0 rfl ?_
  refine v_getI (pc := 1) (a := 181) O gf_X3_2 fl_X3_53 kq_181 dX3_pop_1 ?_
  refine v_ifgt (pc := 4) 9 O dX3_pop_4 (by decide) (fun c1 => ?_) (fun c1 => ?_)
  · have h := (if_pos c1).symm.trans h
    refine v_aload_n (pc := 9) O dX3_pop_9 0 rfl ?_
    refine v_dup (pc := 10) O dX3_pop_10 rfl ?_
    refine v_getI (pc := 11) (a := 181) O gf_X3_2 fl_X3_53 kq_181 dX3_pop_11 ?_
    refine v_iconst (pc := 14) O dX3_pop_14 ic_1 ?_
    refine v_isub (pc := 15) O dX3_pop_15 ?_
    refine v_putI (pc := 16) (a := 181) O pf_X3_2 fl_X3_53 kq_181 dX3_pop_16 ?_
    refine v_aload_n (pc := 19) O dX3_pop_19 0 rfl ?_
    refine v_getK (pc := 20) (a := 181) O hm gf_X3_1 fl_X3_15 kq_181 lk_181_1 dX3_pop_20 ?_
    refine v_aload_n (pc := 23) O dX3_pop_23 0 rfl ?_
    refine v_getI (pc := 24) (a := 181) O gf_X3_2 fl_X3_53 kq_181 dX3_pop_24 ?_
    obtain ⟨c2, h⟩ := or_none h
    refine v_iald (pc := 27) (a := 183) O kq_183 (inq lq_183 c2) dX3_pop_27 ?_
    obtain rfl := Option.some.inj h
    exact v_iret (pc := 28) O hz dX3_pop_28
  · have h := (if_neg c1).symm.trans h
    refine v_iconst (pc := 7) O dX3_pop_7 ic_0 ?_
    obtain rfl := Option.some.inj h
    exact v_iret (pc := 8) O hz dX3_pop_8
theorem c_X3_pop {l : Launch} {w : Wx} {n nu c u : Nat} {K : Nat → Nat} (hm : wlm w = true) {D : Dat} {z : Int32 × Dat} (h : f_X3_pop D = some z) : C0 l w yX3_pop cX3_pop 1 (some .int) 0 0 [.ref (wb w + pp 181)] n (Ax nu K c u) D (some (.int z.1)) z.2 :=
  C0.of (by decide) (Nat.le_of_ble_eq_true rfl) (fun X e1 e2 e3 hz O => by
  subst e1
  subst e2
  exact w_X3_pop O hm e3 hz  D h)
def f_X3_push_b29 (D : Dat) : Option (Dat) :=
  some D
set_option maxHeartbeats 4000000 in
theorem w_X3_push_b29 {X : Cx} {n nu c u : Nat} {K : Nat → Nat} {z : Dat} (O : Ok X cX3_push RX3 none 0 0) (hm : wlm (xw X) = true) (hn : xn X = 2) (hz : Z0 X (Ax nu K c u)) (D : Dat) (h : f_X3_push_b29 D = some z) : V X (Q0 X n (Ax nu K c u) none z) n (Ax nu K c u) D 29 [] [] := by
  unfold f_X3_push_b29 at h
  obtain rfl := Option.some.inj h
  exact v_ret (pc := 29) O hz dX3_push_29
def f_X3_push (x1 : Int32) (D : Dat) : Option (Dat) :=
  if 30 ≤ (dI D 181 2) then (f_X3_push_b29 D) else (if (dI D 181 2) < 0 ∨ 30 ≤ ((dI D 181 2)).toNatClampNeg then none else (f_X3_push_b29 (sI (sI D 183 (dI D 181 2).toNatClampNeg x1) 181 2 ((dI (sI D 183 (dI D 181 2).toNatClampNeg x1) 181 2) + (1 : Int32)))))
set_option maxHeartbeats 4000000 in
theorem w_X3_push {X : Cx} {n nu c u : Nat} {K : Nat → Nat} {z : Dat} (O : Ok X cX3_push RX3 none 0 0) (hm : wlm (xw X) = true) (hn : xn X = 2) (hz : Z0 X (Ax nu K c u)) (x1 : Int32) (D : Dat) (h : f_X3_push x1 D = some z) : V X (Q0 X n (Ax nu K c u) none z) n (Ax nu K c u) D 0 [(0, .ref (bo X + pp 181)), (1, .int x1)] [] := by
  unfold f_X3_push at h
  refine v_aload_n (pc := 0) O dX3_push_0 0 rfl ?_
  refine v_getI (pc := 1) (a := 181) O gf_X3_2 fl_X3_53 kq_181 dX3_push_1 ?_
  refine v_bipush (pc := 4) O dX3_push_4 bp_30 ?_
  refine v_icmpge (pc := 6) 29 O dX3_push_6 (by decide) (fun c1 => ?_) (fun c1 => ?_)
  · have h := (if_pos c1).symm.trans h
    refine v_sub [] rfl ?_
    exact w_X3_push_b29 O hm hn hz D h
  · have h := (if_neg c1).symm.trans h
    refine v_aload_n (pc := 9) O dX3_push_9 0 rfl ?_
    refine v_getK (pc := 10) (a := 181) O hm gf_X3_1 fl_X3_15 kq_181 lk_181_1 dX3_push_10 ?_
    refine v_aload_n (pc := 13) O dX3_push_13 0 rfl ?_
    refine v_getI (pc := 14) (a := 181) O gf_X3_2 fl_X3_53 kq_181 dX3_push_14 ?_
    refine v_iload_n (pc := 17) O dX3_push_17 1 rfl ?_
    obtain ⟨c2, h⟩ := or_none h
    refine v_iast (pc := 18) (a := 183) O kq_183 (inq lq_183 c2) dX3_push_18 ?_
    refine v_aload_n (pc := 19) O dX3_push_19 0 rfl ?_
    refine v_dup (pc := 20) O dX3_push_20 rfl ?_
    refine v_getI (pc := 21) (a := 181) O gf_X3_2 fl_X3_53 kq_181 dX3_push_21 ?_
    refine v_iconst (pc := 24) O dX3_push_24 ic_1 ?_
    refine v_iadd (pc := 25) O dX3_push_25 ?_
    refine v_putI (pc := 26) (a := 181) O pf_X3_2 fl_X3_53 kq_181 dX3_push_26 ?_
    refine v_sub [] rfl ?_
    exact w_X3_push_b29 O hm hn hz (sI (sI D 183 (dI D 181 2).toNatClampNeg x1) 181 2 ((dI (sI D 183 (dI D 181 2).toNatClampNeg x1) 181 2) + (1 : Int32))) h
theorem c_X3_push {l : Launch} {w : Wx} {n nu c u : Nat} {K : Nat → Nat} (hm : wlm w = true) {x1 : Int32} {D : Dat} {z : Dat} (h : f_X3_push x1 D = some z) : C0 l w yX3_push cX3_push 2 none 0 0 [.ref (wb w + pp 181), .int x1] n (Ax nu K c u) D none z :=
  C0.of (by decide) (Nat.le_of_ble_eq_true rfl) (fun X e1 e2 e3 hz O => by
  subst e1
  subst e2
  exact w_X3_push O hm e3 hz x1 D h)
def f_X3_getFromRow_b35 (D : Dat) : Option (Dat) :=
  some D
set_option maxHeartbeats 4000000 in
theorem w_X3_getFromRow_b35 {X : Cx} {n nu c u : Nat} {K : Nat → Nat} {z : Dat} (O : Ok X cX3_getFromRow RX3 none 1 21) (hm : wlm (xw X) = true) (hn : xn X = 3) (hz : Z0 X (Ax nu K c u)) (D : Dat) (h : f_X3_getFromRow_b35 D = some z) : V X (Q0 X n (Ax nu K c u) none z) n (Ax nu K c u) D 35 [] [] := by
  unfold f_X3_getFromRow_b35 at h
  obtain rfl := Option.some.inj h
  exact v_ret (pc := 35) O hz dX3_getFromRow_35
def f_X3_getFromRow_b10 (D : Dat) : Option (Dat) :=
  f_X3_getFromRow_b35 (sI D 181 10 2)
set_option maxHeartbeats 4000000 in
theorem w_X3_getFromRow_b10 {X : Cx} {n nu c u : Nat} {K : Nat → Nat} {z : Dat} (O : Ok X cX3_getFromRow RX3 none 1 21) (hm : wlm (xw X) = true) (hn : xn X = 3) (hz : Z0 X (Ax nu K c u)) (D : Dat) (h : f_X3_getFromRow_b10 D = some z) : V X (Q0 X n (Ax nu K c u) none z) n (Ax nu K c u) D 10 [(0, .ref (bo X + pp 181))] [] := by
  unfold f_X3_getFromRow_b10 at h
  refine v_aload_n (pc := 10) O dX3_getFromRow_10 0 rfl ?_
  refine v_iconst (pc := 11) O dX3_getFromRow_11 ic_2 ?_
  refine v_putI (pc := 12) (a := 181) O pf_X3_10 fl_X3_33 kq_181 dX3_getFromRow_12 ?_
  refine v_goto (pc := 15) 35 O dX3_getFromRow_15 (by decide) ?_
  refine v_sub [] rfl ?_
  exact w_X3_getFromRow_b35 O hm hn hz (sI D 181 10 2) h
def f_X3_getFromRow (x1 : Int32) (x2 : Int32) (D : Dat) : Option (Dat) :=
  if x2 < 0 then (f_X3_getFromRow_b10 D) else (if x2 < 8 then ((f_X3_cell (((26 : Int32) + (x1 * (8 : Int32))) + x2) D).bind (fun p3 => (f_X3_push p3.1 p3.2).bind (fun p5 => f_X3_getFromRow_b35 p5))) else (f_X3_getFromRow_b10 D))
set_option maxHeartbeats 4000000 in
theorem w_X3_getFromRow {X : Cx} {n nu c u : Nat} {K : Nat → Nat} {z : Dat} (O : Ok X cX3_getFromRow RX3 none 1 21) (hm : wlm (xw X) = true) (hn : xn X = 3) (hz : Z0 X (Ax nu K c u)) (x1 : Int32) (x2 : Int32) (D : Dat) (h : f_X3_getFromRow x1 x2 D = some z) : V X (Q0 X n (Ax nu K c u) none z) n (Ax nu K c u) D 0 [(0, .ref (bo X + pp 181)), (1, .int x1), (2, .int x2)] [] := by
  unfold f_X3_getFromRow at h
  refine v_iload_n (pc := 0) O dX3_getFromRow_0 2 rfl ?_
  refine v_iflt (pc := 1) 10 O dX3_getFromRow_1 (by decide) (fun c1 => ?_) (fun c1 => ?_)
  · have h := (if_pos c1).symm.trans h
    refine v_sub [0] rfl ?_
    exact w_X3_getFromRow_b10 O hm hn hz D h
  · have h := (if_neg c1).symm.trans h
    refine v_iload_n (pc := 4) O dX3_getFromRow_4 2 rfl ?_
    refine v_bipush (pc := 5) O dX3_getFromRow_5 bp_8 ?_
    refine v_icmplt (pc := 7) 18 O dX3_getFromRow_7 (by decide) (fun c2 => ?_) (fun c2 => ?_)
    · have h := (if_pos c2).symm.trans h
      refine v_aload_n (pc := 18) O dX3_getFromRow_18 0 rfl ?_
      refine v_aload_n (pc := 19) O dX3_getFromRow_19 0 rfl ?_
      refine v_bipush (pc := 20) O dX3_getFromRow_20 bp_26 ?_
      refine v_iload_n (pc := 22) O dX3_getFromRow_22 1 rfl ?_
      refine v_bipush (pc := 23) O dX3_getFromRow_23 bp_8 ?_
      refine v_imul (pc := 25) O dX3_getFromRow_25 ?_
      refine v_iadd (pc := 26) O dX3_getFromRow_26 ?_
      refine v_iload_n (pc := 27) O dX3_getFromRow_27 2 rfl ?_
      refine v_iadd (pc := 28) O dX3_getFromRow_28 ?_
      obtain ⟨p3, e4, h⟩ := bind_some h
      refine v_callV (pc := 29) (a := 181) (As := [.int (((26 : Int32) + (x1 * (8 : Int32))) + x2)]) (rest := [.ref (bo X + pp 181)]) (r := (some (.int p3.1))) (D' := p3.2) O (bb0 hz) (c_X3_cell hm e4) mw_X3_cell im_X3_cell se_X3_cell ml_X3_93 kq_181 (by decide) rfl rfl rfl (by decide) (by decide) (Nat.le_of_ble_eq_true rfl) dX3_getFromRow_29 rfl rfl ?_
      obtain ⟨p5, e6, h⟩ := bind_some h
      refine v_callV (pc := 32) (a := 181) (As := [.int p3.1]) (rest := []) (r := none) (D' := p5) O (bb0 hz) (c_X3_push hm e6) mw_X3_push im_X3_push se_X3_push ml_X3_89 kq_181 (by decide) rfl rfl rfl (by decide) (by decide) (Nat.le_of_ble_eq_true rfl) dX3_getFromRow_32 rfl rfl ?_
      refine v_sub [] rfl ?_
      exact w_X3_getFromRow_b35 O hm hn hz p5 h
    · have h := (if_neg c2).symm.trans h
      refine v_sub [0] rfl ?_
      exact w_X3_getFromRow_b10 O hm hn hz D h
theorem c_X3_getFromRow {l : Launch} {w : Wx} {n nu c u : Nat} {K : Nat → Nat} (hm : wlm w = true) {x1 : Int32} {x2 : Int32} {D : Dat} {z : Dat} (h : f_X3_getFromRow x1 x2 D = some z) : C0 l w yX3_getFromRow cX3_getFromRow 3 none 1 21 [.ref (wb w + pp 181), .int x1, .int x2] n (Ax nu K c u) D none z :=
  C0.of (by decide) (Nat.le_of_ble_eq_true rfl) (fun X e1 e2 e3 hz O => by
  subst e1
  subst e2
  exact w_X3_getFromRow O hm e3 hz x1 x2 D h)
def f_X3_setInRow_b32 (D : Dat) : Option (Dat) :=
  some D
set_option maxHeartbeats 4000000 in
theorem w_X3_setInRow_b32 {X : Cx} {n nu c u : Nat} {K : Nat → Nat} {z : Dat} (O : Ok X cX3_setInRow RX3 none 1 22) (hm : wlm (xw X) = true) (hn : xn X = 4) (hz : Z0 X (Ax nu K c u)) (D : Dat) (h : f_X3_setInRow_b32 D = some z) : V X (Q0 X n (Ax nu K c u) none z) n (Ax nu K c u) D 32 [] [] := by
  unfold f_X3_setInRow_b32 at h
  obtain rfl := Option.some.inj h
  exact v_ret (pc := 32) O hz dX3_setInRow_32
def f_X3_setInRow_b10 (D : Dat) : Option (Dat) :=
  f_X3_setInRow_b32 (sI D 181 10 2)
set_option maxHeartbeats 4000000 in
theorem w_X3_setInRow_b10 {X : Cx} {n nu c u : Nat} {K : Nat → Nat} {z : Dat} (O : Ok X cX3_setInRow RX3 none 1 22) (hm : wlm (xw X) = true) (hn : xn X = 4) (hz : Z0 X (Ax nu K c u)) (D : Dat) (h : f_X3_setInRow_b10 D = some z) : V X (Q0 X n (Ax nu K c u) none z) n (Ax nu K c u) D 10 [(0, .ref (bo X + pp 181))] [] := by
  unfold f_X3_setInRow_b10 at h
  refine v_aload_n (pc := 10) O dX3_setInRow_10 0 rfl ?_
  refine v_iconst (pc := 11) O dX3_setInRow_11 ic_2 ?_
  refine v_putI (pc := 12) (a := 181) O pf_X3_10 fl_X3_33 kq_181 dX3_setInRow_12 ?_
  refine v_goto (pc := 15) 32 O dX3_setInRow_15 (by decide) ?_
  refine v_sub [] rfl ?_
  exact w_X3_setInRow_b32 O hm hn hz (sI D 181 10 2) h
def f_X3_setInRow (x1 : Int32) (x2 : Int32) (x3 : Int32) (D : Dat) : Option (Dat) :=
  if x3 < 0 then (f_X3_setInRow_b10 D) else (if x3 < 8 then ((f_X3_setCell (((26 : Int32) + (x1 * (8 : Int32))) + x3) x2 D).bind (fun p3 => f_X3_setInRow_b32 p3)) else (f_X3_setInRow_b10 D))
set_option maxHeartbeats 4000000 in
theorem w_X3_setInRow {X : Cx} {n nu c u : Nat} {K : Nat → Nat} {z : Dat} (O : Ok X cX3_setInRow RX3 none 1 22) (hm : wlm (xw X) = true) (hn : xn X = 4) (hz : Z0 X (Ax nu K c u)) (x1 : Int32) (x2 : Int32) (x3 : Int32) (D : Dat) (h : f_X3_setInRow x1 x2 x3 D = some z) : V X (Q0 X n (Ax nu K c u) none z) n (Ax nu K c u) D 0 [(0, .ref (bo X + pp 181)), (1, .int x1), (2, .int x2), (3, .int x3)] [] := by
  unfold f_X3_setInRow at h
  refine v_iload_n (pc := 0) O dX3_setInRow_0 3 rfl ?_
  refine v_iflt (pc := 1) 10 O dX3_setInRow_1 (by decide) (fun c1 => ?_) (fun c1 => ?_)
  · have h := (if_pos c1).symm.trans h
    refine v_sub [0] rfl ?_
    exact w_X3_setInRow_b10 O hm hn hz D h
  · have h := (if_neg c1).symm.trans h
    refine v_iload_n (pc := 4) O dX3_setInRow_4 3 rfl ?_
    refine v_bipush (pc := 5) O dX3_setInRow_5 bp_8 ?_
    refine v_icmplt (pc := 7) 18 O dX3_setInRow_7 (by decide) (fun c2 => ?_) (fun c2 => ?_)
    · have h := (if_pos c2).symm.trans h
      refine v_aload_n (pc := 18) O dX3_setInRow_18 0 rfl ?_
      refine v_bipush (pc := 19) O dX3_setInRow_19 bp_26 ?_
      refine v_iload_n (pc := 21) O dX3_setInRow_21 1 rfl ?_
      refine v_bipush (pc := 22) O dX3_setInRow_22 bp_8 ?_
      refine v_imul (pc := 24) O dX3_setInRow_24 ?_
      refine v_iadd (pc := 25) O dX3_setInRow_25 ?_
      refine v_iload_n (pc := 26) O dX3_setInRow_26 3 rfl ?_
      refine v_iadd (pc := 27) O dX3_setInRow_27 ?_
      refine v_iload_n (pc := 28) O dX3_setInRow_28 2 rfl ?_
      obtain ⟨p3, e4, h⟩ := bind_some h
      refine v_callV (pc := 29) (a := 181) (As := [.int (((26 : Int32) + (x1 * (8 : Int32))) + x3), .int x2]) (rest := []) (r := none) (D' := p3) O (bb0 hz) (c_X3_setCell hm e4) mw_X3_setCell im_X3_setCell se_X3_setCell ml_X3_96 kq_181 (by decide) rfl rfl rfl (by decide) (by decide) (Nat.le_of_ble_eq_true rfl) dX3_setInRow_29 rfl rfl ?_
      refine v_sub [] rfl ?_
      exact w_X3_setInRow_b32 O hm hn hz p3 h
    · have h := (if_neg c2).symm.trans h
      refine v_sub [0] rfl ?_
      exact w_X3_setInRow_b10 O hm hn hz D h
theorem c_X3_setInRow {l : Launch} {w : Wx} {n nu c u : Nat} {K : Nat → Nat} (hm : wlm w = true) {x1 : Int32} {x2 : Int32} {x3 : Int32} {D : Dat} {z : Dat} (h : f_X3_setInRow x1 x2 x3 D = some z) : C0 l w yX3_setInRow cX3_setInRow 4 none 1 22 [.ref (wb w + pp 181), .int x1, .int x2, .int x3] n (Ax nu K c u) D none z :=
  C0.of (by decide) (Nat.le_of_ble_eq_true rfl) (fun X e1 e2 e3 hz O => by
  subst e1
  subst e2
  exact w_X3_setInRow O hm e3 hz x1 x2 x3 D h)
def f_X3_nextInput_b22 (D : Dat) : Option (Int32 × Dat) :=
  some (0, D)
set_option maxHeartbeats 4000000 in
theorem w_X3_nextInput_b22 {X : Cx} {n nu c u : Nat} {K : Nat → Nat} {z : Int32 × Dat} (O : Ok X cX3_nextInput RX3 (some .int) 1 20) (hm : wlm (xw X) = true) (hn : xn X = 3) (hz : Z0 X (Ax nu K c u)) (D : Dat) (h : f_X3_nextInput_b22 D = some z) : V X (Q0 X n (Ax nu K c u) (some (.int z.1)) z.2) n (Ax nu K c u) D 22 [] [] := by
  unfold f_X3_nextInput_b22 at h
  refine v_iconst (pc := 22) O dX3_nextInput_22 ic_0 ?_
  obtain rfl := Option.some.inj h
  exact v_iret (pc := 23) O hz dX3_nextInput_23
def f_X3_nextInput (x1 : Int32) (D : Dat) : Option (Int32 × Dat) :=
  (f_X3_isMark x1 D).bind (fun p1 => if p1.1 = 0 then (f_X3_nextInput_b22 p1.2) else (if x1 < 0 ∨ 6 ≤ (x1).toNatClampNeg then none else (if x1 < 0 ∨ 6 ≤ (x1).toNatClampNeg then none else (if (dI p1.2 186 (x1).toNatClampNeg) < (dI p1.2 185 (x1).toNatClampNeg) then (if x1 < 0 ∨ 6 ≤ (x1).toNatClampNeg then none else (if ((x1 * (20 : Int32)) + (dI p1.2 186 (x1).toNatClampNeg)) < 0 ∨ 120 ≤ (((x1 * (20 : Int32)) + (dI p1.2 186 (x1).toNatClampNeg))).toNatClampNeg then none else (if x1 < 0 ∨ 6 ≤ (x1).toNatClampNeg then none else (if x1 < 0 ∨ 6 ≤ (x1).toNatClampNeg then none else (some ((dI p1.2 184 ((x1 * (20 : Int32)) + (dI p1.2 186 (x1).toNatClampNeg)).toNatClampNeg), (sI p1.2 186 (x1).toNatClampNeg ((dI p1.2 186 (x1).toNatClampNeg) + (1 : Int32))))))))) else (f_X3_nextInput_b22 p1.2)))))
set_option maxHeartbeats 4000000 in
theorem w_X3_nextInput {X : Cx} {n nu c u : Nat} {K : Nat → Nat} {z : Int32 × Dat} (O : Ok X cX3_nextInput RX3 (some .int) 1 20) (hm : wlm (xw X) = true) (hn : xn X = 3) (hz : Z0 X (Ax nu K c u)) (x1 : Int32) (D : Dat) (h : f_X3_nextInput x1 D = some z) : V X (Q0 X n (Ax nu K c u) (some (.int z.1)) z.2) n (Ax nu K c u) D 0 [(0, .ref (bo X + pp 181)), (1, .int x1)] [] := by
  unfold f_X3_nextInput at h
  refine v_iload_n (pc := 0) O dX3_nextInput_0 1 rfl ?_
  obtain ⟨p1, e2, h⟩ := bind_some h
  refine v_callS (pc := 1) (As := [.int x1]) (rest := []) (r := (some (.int p1.1))) (D' := p1.2) O (bb0 hz) (c_X3_isMark hm e2) mw_X3_isMark sm_X3_isMark ml_X3_37 rfl (by decide) (by decide) (Nat.le_of_ble_eq_true rfl) dX3_nextInput_1 rfl rfl ?_
  refine v_ifeq (pc := 4) 22 O dX3_nextInput_4 (by decide) (fun c3 => ?_) (fun c3 => ?_)
  · have h := (if_pos c3).symm.trans h
    refine v_sub [] rfl ?_
    exact w_X3_nextInput_b22 O hm hn hz p1.2 h
  · have h := (if_neg c3).symm.trans h
    refine v_aload_n (pc := 7) O dX3_nextInput_7 0 rfl ?_
    refine v_getK (pc := 8) (a := 181) O hm gf_X3_5 fl_X3_24 kq_181 lk_181_5 dX3_nextInput_8 ?_
    refine v_iload_n (pc := 11) O dX3_nextInput_11 1 rfl ?_
    obtain ⟨c4, h⟩ := or_none h
    refine v_iald (pc := 12) (a := 186) O kq_186 (inq lq_186 c4) dX3_nextInput_12 ?_
    refine v_aload_n (pc := 13) O dX3_nextInput_13 0 rfl ?_
    refine v_getK (pc := 14) (a := 181) O hm gf_X3_4 fl_X3_21 kq_181 lk_181_4 dX3_nextInput_14 ?_
    refine v_iload_n (pc := 17) O dX3_nextInput_17 1 rfl ?_
    obtain ⟨c5, h⟩ := or_none h
    refine v_iald (pc := 18) (a := 185) O kq_185 (inq lq_185 c5) dX3_nextInput_18 ?_
    refine v_icmplt (pc := 19) 24 O dX3_nextInput_19 (by decide) (fun c6 => ?_) (fun c6 => ?_)
    · have h := (if_pos c6).symm.trans h
      refine v_aload_n (pc := 24) O dX3_nextInput_24 0 rfl ?_
      refine v_getK (pc := 25) (a := 181) O hm gf_X3_3 fl_X3_18 kq_181 lk_181_3 dX3_nextInput_25 ?_
      refine v_iload_n (pc := 28) O dX3_nextInput_28 1 rfl ?_
      refine v_bipush (pc := 29) O dX3_nextInput_29 bp_20 ?_
      refine v_imul (pc := 31) O dX3_nextInput_31 ?_
      refine v_aload_n (pc := 32) O dX3_nextInput_32 0 rfl ?_
      refine v_getK (pc := 33) (a := 181) O hm gf_X3_5 fl_X3_24 kq_181 lk_181_5 dX3_nextInput_33 ?_
      refine v_iload_n (pc := 36) O dX3_nextInput_36 1 rfl ?_
      obtain ⟨c7, h⟩ := or_none h
      refine v_iald (pc := 37) (a := 186) O kq_186 (inq lq_186 c7) dX3_nextInput_37 ?_
      refine v_iadd (pc := 38) O dX3_nextInput_38 ?_
      obtain ⟨c8, h⟩ := or_none h
      refine v_iald (pc := 39) (a := 184) O kq_184 (inq lq_184 c8) dX3_nextInput_39 ?_
      refine v_istore_n (pc := 40) (lv' := [(2, .int (dI p1.2 184 ((x1 * (20 : Int32)) + (dI p1.2 186 (x1).toNatClampNeg)).toNatClampNeg)), (0, .ref (bo X + pp 181)), (1, .int x1)]) O dX3_nextInput_40 rfl (by rw [hn]; decide) rfl ?_
      refine v_aload_n (pc := 41) O dX3_nextInput_41 1 rfl ?_
      refine v_getK (pc := 42) (a := 181) O hm gf_X3_5 fl_X3_24 kq_181 lk_181_5 dX3_nextInput_42 ?_
      refine v_iload_n (pc := 45) O dX3_nextInput_45 2 rfl ?_
      refine v_dup2 (pc := 46) O dX3_nextInput_46 rfl rfl ?_
      obtain ⟨c9, h⟩ := or_none h
      refine v_iald (pc := 47) (a := 186) O kq_186 (inq lq_186 c9) dX3_nextInput_47 ?_
      refine v_iconst (pc := 48) O dX3_nextInput_48 ic_1 ?_
      refine v_iadd (pc := 49) O dX3_nextInput_49 ?_
      obtain ⟨c10, h⟩ := or_none h
      refine v_iast (pc := 50) (a := 186) O kq_186 (inq lq_186 c10) dX3_nextInput_50 ?_
      refine v_iload_n (pc := 51) O dX3_nextInput_51 0 rfl ?_
      obtain rfl := Option.some.inj h
      exact v_iret (pc := 52) O hz dX3_nextInput_52
    · have h := (if_neg c6).symm.trans h
      refine v_sub [] rfl ?_
      exact w_X3_nextInput_b22 O hm hn hz p1.2 h
theorem c_X3_nextInput {l : Launch} {w : Wx} {n nu c u : Nat} {K : Nat → Nat} (hm : wlm w = true) {x1 : Int32} {D : Dat} {z : Int32 × Dat} (h : f_X3_nextInput x1 D = some z) : C0 l w yX3_nextInput cX3_nextInput 3 (some .int) 1 20 [.ref (wb w + pp 181), .int x1] n (Ax nu K c u) D (some (.int z.1)) z.2 :=
  C0.of (by decide) (Nat.le_of_ble_eq_true rfl) (fun X e1 e2 e3 hz O => by
  subst e1
  subst e2
  exact w_X3_nextInput O hm e3 hz x1 D h)
def f_X3_write_b53 (D : Dat) : Option (Dat) :=
  some D
set_option maxHeartbeats 4000000 in
theorem w_X3_write_b53 {X : Cx} {n nu c u : Nat} {K : Nat → Nat} {z : Dat} (O : Ok X cX3_write RX3 none 1 20) (hm : wlm (xw X) = true) (hn : xn X = 3) (hz : Z0 X (Ax nu K c u)) (D : Dat) (h : f_X3_write_b53 D = some z) : V X (Q0 X n (Ax nu K c u) none z) n (Ax nu K c u) D 53 [] [] := by
  unfold f_X3_write_b53 at h
  obtain rfl := Option.some.inj h
  exact v_ret (pc := 53) O hz dX3_write_53
def f_X3_write_b18 (D : Dat) : Option (Dat) :=
  f_X3_write_b53 (sI D 181 10 4)
set_option maxHeartbeats 4000000 in
theorem w_X3_write_b18 {X : Cx} {n nu c u : Nat} {K : Nat → Nat} {z : Dat} (O : Ok X cX3_write RX3 none 1 20) (hm : wlm (xw X) = true) (hn : xn X = 3) (hz : Z0 X (Ax nu K c u)) (D : Dat) (h : f_X3_write_b18 D = some z) : V X (Q0 X n (Ax nu K c u) none z) n (Ax nu K c u) D 18 [(0, .ref (bo X + pp 181))] [] := by
  unfold f_X3_write_b18 at h
  refine v_aload_n (pc := 18) O dX3_write_18 0 rfl ?_
  refine v_iconst (pc := 19) O dX3_write_19 ic_4 ?_
  refine v_putI (pc := 20) (a := 181) O pf_X3_10 fl_X3_33 kq_181 dX3_write_20 ?_
  refine v_goto (pc := 23) 53 O dX3_write_23 (by decide) ?_
  refine v_sub [] rfl ?_
  exact w_X3_write_b53 O hm hn hz (sI D 181 10 4) h
def f_X3_write (x1 : Int32) (x2 : Int32) (D : Dat) : Option (Dat) :=
  (f_X3_isMark x1 D).bind (fun p1 => if p1.1 = 0 then (f_X3_write_b18 p1.2) else (if x1 < 0 ∨ 6 ≤ (x1).toNatClampNeg then none else (if (dI p1.2 188 (x1).toNatClampNeg) < 20 then (if x1 < 0 ∨ 6 ≤ (x1).toNatClampNeg then none else (if ((x1 * (20 : Int32)) + (dI p1.2 188 (x1).toNatClampNeg)) < 0 ∨ 120 ≤ (((x1 * (20 : Int32)) + (dI p1.2 188 (x1).toNatClampNeg))).toNatClampNeg then none else (if x1 < 0 ∨ 6 ≤ (x1).toNatClampNeg then none else (if x1 < 0 ∨ 6 ≤ (x1).toNatClampNeg then none else (f_X3_write_b53 (sI (sI p1.2 187 ((x1 * (20 : Int32)) + (dI p1.2 188 (x1).toNatClampNeg)).toNatClampNeg x2) 188 (x1).toNatClampNeg ((dI (sI p1.2 187 ((x1 * (20 : Int32)) + (dI p1.2 188 (x1).toNatClampNeg)).toNatClampNeg x2) 188 (x1).toNatClampNeg) + (1 : Int32)))))))) else (f_X3_write_b18 p1.2))))
set_option maxHeartbeats 4000000 in
theorem w_X3_write {X : Cx} {n nu c u : Nat} {K : Nat → Nat} {z : Dat} (O : Ok X cX3_write RX3 none 1 20) (hm : wlm (xw X) = true) (hn : xn X = 3) (hz : Z0 X (Ax nu K c u)) (x1 : Int32) (x2 : Int32) (D : Dat) (h : f_X3_write x1 x2 D = some z) : V X (Q0 X n (Ax nu K c u) none z) n (Ax nu K c u) D 0 [(0, .ref (bo X + pp 181)), (1, .int x1), (2, .int x2)] [] := by
  unfold f_X3_write at h
  refine v_iload_n (pc := 0) O dX3_write_0 1 rfl ?_
  obtain ⟨p1, e2, h⟩ := bind_some h
  refine v_callS (pc := 1) (As := [.int x1]) (rest := []) (r := (some (.int p1.1))) (D' := p1.2) O (bb0 hz) (c_X3_isMark hm e2) mw_X3_isMark sm_X3_isMark ml_X3_37 rfl (by decide) (by decide) (Nat.le_of_ble_eq_true rfl) dX3_write_1 rfl rfl ?_
  refine v_ifeq (pc := 4) 18 O dX3_write_4 (by decide) (fun c3 => ?_) (fun c3 => ?_)
  · have h := (if_pos c3).symm.trans h
    refine v_sub [0] rfl ?_
    exact w_X3_write_b18 O hm hn hz p1.2 h
  · have h := (if_neg c3).symm.trans h
    refine v_aload_n (pc := 7) O dX3_write_7 0 rfl ?_
    refine v_getK (pc := 8) (a := 181) O hm gf_X3_7 fl_X3_30 kq_181 lk_181_7 dX3_write_8 ?_
    refine v_iload_n (pc := 11) O dX3_write_11 1 rfl ?_
    obtain ⟨c4, h⟩ := or_none h
    refine v_iald (pc := 12) (a := 188) O kq_188 (inq lq_188 c4) dX3_write_12 ?_
    refine v_bipush (pc := 13) O dX3_write_13 bp_20 ?_
    refine v_icmplt (pc := 15) 26 O dX3_write_15 (by decide) (fun c5 => ?_) (fun c5 => ?_)
    · have h := (if_pos c5).symm.trans h
      refine v_aload_n (pc := 26) O dX3_write_26 0 rfl ?_
      refine v_getK (pc := 27) (a := 181) O hm gf_X3_6 fl_X3_27 kq_181 lk_181_6 dX3_write_27 ?_
      refine v_iload_n (pc := 30) O dX3_write_30 1 rfl ?_
      refine v_bipush (pc := 31) O dX3_write_31 bp_20 ?_
      refine v_imul (pc := 33) O dX3_write_33 ?_
      refine v_aload_n (pc := 34) O dX3_write_34 0 rfl ?_
      refine v_getK (pc := 35) (a := 181) O hm gf_X3_7 fl_X3_30 kq_181 lk_181_7 dX3_write_35 ?_
      refine v_iload_n (pc := 38) O dX3_write_38 1 rfl ?_
      obtain ⟨c6, h⟩ := or_none h
      refine v_iald (pc := 39) (a := 188) O kq_188 (inq lq_188 c6) dX3_write_39 ?_
      refine v_iadd (pc := 40) O dX3_write_40 ?_
      refine v_iload_n (pc := 41) O dX3_write_41 2 rfl ?_
      obtain ⟨c7, h⟩ := or_none h
      refine v_iast (pc := 42) (a := 187) O kq_187 (inq lq_187 c7) dX3_write_42 ?_
      refine v_aload_n (pc := 43) O dX3_write_43 0 rfl ?_
      refine v_getK (pc := 44) (a := 181) O hm gf_X3_7 fl_X3_30 kq_181 lk_181_7 dX3_write_44 ?_
      refine v_iload_n (pc := 47) O dX3_write_47 1 rfl ?_
      refine v_dup2 (pc := 48) O dX3_write_48 rfl rfl ?_
      obtain ⟨c8, h⟩ := or_none h
      refine v_iald (pc := 49) (a := 188) O kq_188 (inq lq_188 c8) dX3_write_49 ?_
      refine v_iconst (pc := 50) O dX3_write_50 ic_1 ?_
      refine v_iadd (pc := 51) O dX3_write_51 ?_
      obtain ⟨c9, h⟩ := or_none h
      refine v_iast (pc := 52) (a := 188) O kq_188 (inq lq_188 c9) dX3_write_52 ?_
      refine v_sub [] rfl ?_
      exact w_X3_write_b53 O hm hn hz (sI (sI p1.2 187 ((x1 * (20 : Int32)) + (dI p1.2 188 (x1).toNatClampNeg)).toNatClampNeg x2) 188 (x1).toNatClampNeg ((dI (sI p1.2 187 ((x1 * (20 : Int32)) + (dI p1.2 188 (x1).toNatClampNeg)).toNatClampNeg x2) 188 (x1).toNatClampNeg) + (1 : Int32))) h
    · have h := (if_neg c5).symm.trans h
      refine v_sub [0] rfl ?_
      exact w_X3_write_b18 O hm hn hz p1.2 h
theorem c_X3_write {l : Launch} {w : Wx} {n nu c u : Nat} {K : Nat → Nat} (hm : wlm w = true) {x1 : Int32} {x2 : Int32} {D : Dat} {z : Dat} (h : f_X3_write x1 x2 D = some z) : C0 l w yX3_write cX3_write 3 none 1 20 [.ref (wb w + pp 181), .int x1, .int x2] n (Ax nu K c u) D none z :=
  C0.of (by decide) (Nat.le_of_ble_eq_true rfl) (fun X e1 e2 e3 hz O => by
  subst e1
  subst e2
  exact w_X3_write O hm e3 hz x1 x2 D h)
def f_X6_nextOf_b22 (s0 : Int32) (D : Dat) : Option (Int32 × Dat) :=
  some (s0, D)
set_option maxHeartbeats 4000000 in
theorem w_X6_nextOf_b22 {X : Cx} {n nu c u : Nat} {K : Nat → Nat} {z : Int32 × Dat} (O : Ok X cX6_nextOf RX6 (some .int) 0 0) (hm : wlm (xw X) = true) (hn : xn X = 2) (hz : Z0 X (Ax nu K c u)) (s0 : Int32) (D : Dat) (h : f_X6_nextOf_b22 s0 D = some z) : V X (Q0 X n (Ax nu K c u) (some (.int z.1)) z.2) n (Ax nu K c u) D 22 [] [.int s0] := by
  unfold f_X6_nextOf_b22 at h
  obtain rfl := Option.some.inj h
  exact v_iret (pc := 22) O hz dX6_nextOf_22
def f_X6_nextOf_b21 (D : Dat) : Option (Int32 × Dat) :=
  f_X6_nextOf_b22 (-1) D
set_option maxHeartbeats 4000000 in
theorem w_X6_nextOf_b21 {X : Cx} {n nu c u : Nat} {K : Nat → Nat} {z : Int32 × Dat} (O : Ok X cX6_nextOf RX6 (some .int) 0 0) (hm : wlm (xw X) = true) (hn : xn X = 2) (hz : Z0 X (Ax nu K c u)) (D : Dat) (h : f_X6_nextOf_b21 D = some z) : V X (Q0 X n (Ax nu K c u) (some (.int z.1)) z.2) n (Ax nu K c u) D 21 [] [] := by
  unfold f_X6_nextOf_b21 at h
  refine v_iconst (pc := 21) O dX6_nextOf_21 ic_m1 ?_
  refine v_sub [] rfl ?_
  exact w_X6_nextOf_b22 O hm hn hz (-1) D h
def f_X6_nextOf (x1 : Int32) (D : Dat) : Option (Int32 × Dat) :=
  if x1 < 0 then (f_X6_nextOf_b21 D) else (if (dI D 108 4) ≤ x1 then (f_X6_nextOf_b21 D) else (if x1 < 0 ∨ 64 ≤ (x1).toNatClampNeg then none else (f_X6_nextOf_b22 (dI D 111 (x1).toNatClampNeg) D)))
set_option maxHeartbeats 4000000 in
theorem w_X6_nextOf {X : Cx} {n nu c u : Nat} {K : Nat → Nat} {z : Int32 × Dat} (O : Ok X cX6_nextOf RX6 (some .int) 0 0) (hm : wlm (xw X) = true) (hn : xn X = 2) (hz : Z0 X (Ax nu K c u)) (x1 : Int32) (D : Dat) (h : f_X6_nextOf x1 D = some z) : V X (Q0 X n (Ax nu K c u) (some (.int z.1)) z.2) n (Ax nu K c u) D 0 [(0, .ref (bo X + pp 108)), (1, .int x1)] [] := by
  unfold f_X6_nextOf at h
  refine v_iload_n (pc := 0) O dX6_nextOf_0 1 rfl ?_
  refine v_iflt (pc := 1) 21 O dX6_nextOf_1 (by decide) (fun c1 => ?_) (fun c1 => ?_)
  · have h := (if_pos c1).symm.trans h
    refine v_sub [] rfl ?_
    exact w_X6_nextOf_b21 O hm hn hz D h
  · have h := (if_neg c1).symm.trans h
    refine v_iload_n (pc := 4) O dX6_nextOf_4 1 rfl ?_
    refine v_aload_n (pc := 5) O dX6_nextOf_5 0 rfl ?_
    refine v_getI (pc := 6) (a := 108) O gf_X6_4 fl_X6_25 kq_108 dX6_nextOf_6 ?_
    refine v_icmpge (pc := 9) 21 O dX6_nextOf_9 (by decide) (fun c2 => ?_) (fun c2 => ?_)
    · have h := (if_pos c2).symm.trans h
      refine v_sub [] rfl ?_
      exact w_X6_nextOf_b21 O hm hn hz D h
    · have h := (if_neg c2).symm.trans h
      refine v_aload_n (pc := 12) O dX6_nextOf_12 0 rfl ?_
      refine v_getK (pc := 13) (a := 108) O hm gf_X6_2 fl_X6_18 kq_108 lk_108_2 dX6_nextOf_13 ?_
      refine v_iload_n (pc := 16) O dX6_nextOf_16 1 rfl ?_
      obtain ⟨c3, h⟩ := or_none h
      refine v_iald (pc := 17) (a := 111) O kq_111 (inq lq_111 c3) dX6_nextOf_17 ?_
      refine v_goto (pc := 18) 22 O dX6_nextOf_18 (by decide) ?_
      refine v_sub [] rfl ?_
      exact w_X6_nextOf_b22 O hm hn hz (dI D 111 (x1).toNatClampNeg) D h
theorem c_X6_nextOf {l : Launch} {w : Wx} {n nu c u : Nat} {K : Nat → Nat} (hm : wlm w = true) {x1 : Int32} {D : Dat} {z : Int32 × Dat} (h : f_X6_nextOf x1 D = some z) : C0 l w yX6_nextOf cX6_nextOf 2 (some .int) 0 0 [.ref (wb w + pp 108), .int x1] n (Ax nu K c u) D (some (.int z.1)) z.2 :=
  C0.of (by decide) (Nat.le_of_ble_eq_true rfl) (fun X e1 e2 e3 hz O => by
  subst e1
  subst e2
  exact w_X6_nextOf O hm e3 hz x1 D h)
def f_X9_place (D : Dat) : Option (Int32 × Dat) :=
  some ((dI D 107 11), D)
set_option maxHeartbeats 4000000 in
theorem w_X9_place {X : Cx} {n nu c u : Nat} {K : Nat → Nat} {z : Int32 × Dat} (O : Ok X cX9_place RX9 (some .int) 0 0) (hm : wlm (xw X) = true) (hn : xn X = 1) (hz : Z0 X (Ax nu K c u)) (D : Dat) (h : f_X9_place D = some z) : V X (Q0 X n (Ax nu K c u) (some (.int z.1)) z.2) n (Ax nu K c u) D 0 [(0, .ref (bo X + pp 107))] [] := by
  unfold f_X9_place at h
  refine v_aload_n (pc := 0) O dX9_place_0 0 rfl ?_
  refine v_getI (pc := 1) (a := 107) O gf_X9_11 fl_X9_37 kq_107 dX9_place_1 ?_
  obtain rfl := Option.some.inj h
  exact v_iret (pc := 4) O hz dX9_place_4
theorem c_X9_place {l : Launch} {w : Wx} {n nu c u : Nat} {K : Nat → Nat} (hm : wlm w = true) {D : Dat} {z : Int32 × Dat} (h : f_X9_place D = some z) : C0 l w yX9_place cX9_place 1 (some .int) 0 0 [.ref (wb w + pp 107)] n (Ax nu K c u) D (some (.int z.1)) z.2 :=
  C0.of (by decide) (Nat.le_of_ble_eq_true rfl) (fun X e1 e2 e3 hz O => by
  subst e1
  subst e2
  exact w_X9_place O hm e3 hz  D h)
def f_X9_kind (D : Dat) : Option (Int32 × Dat) :=
  some ((dI D 107 12), D)
set_option maxHeartbeats 4000000 in
theorem w_X9_kind {X : Cx} {n nu c u : Nat} {K : Nat → Nat} {z : Int32 × Dat} (O : Ok X cX9_kind RX9 (some .int) 0 0) (hm : wlm (xw X) = true) (hn : xn X = 1) (hz : Z0 X (Ax nu K c u)) (D : Dat) (h : f_X9_kind D = some z) : V X (Q0 X n (Ax nu K c u) (some (.int z.1)) z.2) n (Ax nu K c u) D 0 [(0, .ref (bo X + pp 107))] [] := by
  unfold f_X9_kind at h
  refine v_aload_n (pc := 0) O dX9_kind_0 0 rfl ?_
  refine v_getI (pc := 1) (a := 107) O gf_X9_12 fl_X9_41 kq_107 dX9_kind_1 ?_
  obtain rfl := Option.some.inj h
  exact v_iret (pc := 4) O hz dX9_kind_4
theorem c_X9_kind {l : Launch} {w : Wx} {n nu c u : Nat} {K : Nat → Nat} (hm : wlm w = true) {D : Dat} {z : Int32 × Dat} (h : f_X9_kind D = some z) : C0 l w yX9_kind cX9_kind 1 (some .int) 0 0 [.ref (wb w + pp 107)] n (Ax nu K c u) D (some (.int z.1)) z.2 :=
  C0.of (by decide) (Nat.le_of_ble_eq_true rfl) (fun X e1 e2 e3 hz O => by
  subst e1
  subst e2
  exact w_X9_kind O hm e3 hz  D h)
def f_X9_hasMaps (D : Dat) : Option (Int32 × Dat) :=
  if (dI D 107 10) &&& 1 = (dI D 107 10) then some ((dI D 107 10), D) else none
set_option maxHeartbeats 4000000 in
theorem w_X9_hasMaps {X : Cx} {n nu c u : Nat} {K : Nat → Nat} {z : Int32 × Dat} (O : Ok X cX9_hasMaps RX9 (some .boolean) 0 0) (hm : wlm (xw X) = true) (hn : xn X = 1) (hz : Z0 X (Ax nu K c u)) (D : Dat) (h : f_X9_hasMaps D = some z) : V X (Q0 X n (Ax nu K c u) (some (.int z.1)) z.2) n (Ax nu K c u) D 0 [(0, .ref (bo X + pp 107))] [] := by
  unfold f_X9_hasMaps at h
  refine v_aload_n (pc := 0) O dX9_hasMaps_0 0 rfl ?_
  refine v_getI (pc := 1) (a := 107) O gf_X9_10 fl_X9_44 kq_107 dX9_hasMaps_1 ?_
  obtain ⟨c1, h⟩ := if_none h
  obtain rfl := Option.some.inj h
  exact v_zret (pc := 4) O hz (congrArg Value.int c1) dX9_hasMaps_4
theorem c_X9_hasMaps {l : Launch} {w : Wx} {n nu c u : Nat} {K : Nat → Nat} (hm : wlm w = true) {D : Dat} {z : Int32 × Dat} (h : f_X9_hasMaps D = some z) : C0 l w yX9_hasMaps cX9_hasMaps 1 (some .boolean) 0 0 [.ref (wb w + pp 107)] n (Ax nu K c u) D (some (.int z.1)) z.2 :=
  C0.of (by decide) (Nat.le_of_ble_eq_true rfl) (fun X e1 e2 e3 hz O => by
  subst e1
  subst e2
  exact w_X9_hasMaps O hm e3 hz  D h)
def f_X9_forget (D : Dat) : Option (Dat) :=
  some (sI D 107 10 0)
set_option maxHeartbeats 4000000 in
theorem w_X9_forget {X : Cx} {n nu c u : Nat} {K : Nat → Nat} {z : Dat} (O : Ok X cX9_forget RX9 none 0 0) (hm : wlm (xw X) = true) (hn : xn X = 1) (hz : Z0 X (Ax nu K c u)) (D : Dat) (h : f_X9_forget D = some z) : V X (Q0 X n (Ax nu K c u) none z) n (Ax nu K c u) D 0 [(0, .ref (bo X + pp 107))] [] := by
  unfold f_X9_forget at h
  refine v_aload_n (pc := 0) O dX9_forget_0 0 rfl ?_
  refine v_iconst (pc := 1) O dX9_forget_1 ic_0 ?_
  refine v_putZ (pc := 2) (a := 107) O pf_X9_10 fl_X9_44 kq_107 narrow_b0 dX9_forget_2 ?_
  obtain rfl := Option.some.inj h
  exact v_ret (pc := 5) O hz dX9_forget_5
theorem c_X9_forget {l : Launch} {w : Wx} {n nu c u : Nat} {K : Nat → Nat} (hm : wlm w = true) {D : Dat} {z : Dat} (h : f_X9_forget D = some z) : C0 l w yX9_forget cX9_forget 1 none 0 0 [.ref (wb w + pp 107)] n (Ax nu K c u) D none z :=
  C0.of (by decide) (Nat.le_of_ble_eq_true rfl) (fun X e1 e2 e3 hz O => by
  subst e1
  subst e2
  exact w_X9_forget O hm e3 hz  D h)
def f_X9_heights (D : Dat) : Option (Int32 × Dat) :=
  (f_J13_bitCount_95d88 (dL D 107 5) D).bind (fun p1 => some (p1.1, p1.2))
set_option maxHeartbeats 4000000 in
theorem w_X9_heights {X : Cx} {n nu c u : Nat} {K : Nat → Nat} {z : Int32 × Dat} (O : Ok X cX9_heights RX9 (some .int) 1 21) (hm : wlm (xw X) = true) (hn : xn X = 1) (hz : Z0 X (Ax nu K c u)) (D : Dat) (h : f_X9_heights D = some z) : V X (Q0 X n (Ax nu K c u) (some (.int z.1)) z.2) n (Ax nu K c u) D 0 [(0, .ref (bo X + pp 107))] [] := by
  unfold f_X9_heights at h
  refine v_aload_n (pc := 0) O dX9_heights_0 0 rfl ?_
  refine v_getL (pc := 1) (a := 107) O gf_X9_5 fl_X9_48 kq_107 dX9_heights_1 ?_
  obtain ⟨p1, e2, h⟩ := bind_some h
  refine v_callS (pc := 4) (As := [.long (dL D 107 5)]) (rest := []) (r := (some (.int p1.1))) (D' := p1.2) O (bb0 hz) (c_J13_bitCount_95d88 hm e2) mw_J13_bitCount_95d88 sm_J13_bitCount_95d88 ml_X9_52 rfl (by decide) (by decide) (Nat.le_of_ble_eq_true rfl) dX9_heights_4 rfl rfl ?_
  obtain rfl := Option.some.inj h
  exact v_iret (pc := 7) O hz dX9_heights_7
theorem c_X9_heights {l : Launch} {w : Wx} {n nu c u : Nat} {K : Nat → Nat} (hm : wlm w = true) {D : Dat} {z : Int32 × Dat} (h : f_X9_heights D = some z) : C0 l w yX9_heights cX9_heights 1 (some .int) 1 21 [.ref (wb w + pp 107)] n (Ax nu K c u) D (some (.int z.1)) z.2 :=
  C0.of (by decide) (Nat.le_of_ble_eq_true rfl) (fun X e1 e2 e3 hz O => by
  subst e1
  subst e2
  exact w_X9_heights O hm e3 hz  D h)
def f_X9_nextOf (x1 : Int32) (D : Dat) : Option (Int32 × Dat) :=
  (f_X6_nextOf x1 D).bind (fun p1 => some (p1.1, p1.2))
set_option maxHeartbeats 4000000 in
theorem w_X9_nextOf {X : Cx} {n nu c u : Nat} {K : Nat → Nat} {z : Int32 × Dat} (O : Ok X cX9_nextOf RX9 (some .int) 1 21) (hm : wlm (xw X) = true) (hn : xn X = 2) (hz : Z0 X (Ax nu K c u)) (x1 : Int32) (D : Dat) (h : f_X9_nextOf x1 D = some z) : V X (Q0 X n (Ax nu K c u) (some (.int z.1)) z.2) n (Ax nu K c u) D 0 [(0, .ref (bo X + pp 107)), (1, .int x1)] [] := by
  unfold f_X9_nextOf at h
  refine v_aload_n (pc := 0) O dX9_nextOf_0 0 rfl ?_
  refine v_getK (pc := 1) (a := 107) O hm gf_X9_1 fl_X9_14 kq_107 lk_107_1 dX9_nextOf_1 ?_
  refine v_iload_n (pc := 4) O dX9_nextOf_4 1 rfl ?_
  obtain ⟨p1, e2, h⟩ := bind_some h
  refine v_callV (pc := 5) (a := 108) (As := [.int x1]) (rest := []) (r := (some (.int p1.1))) (D' := p1.2) O (bb0 hz) (c_X6_nextOf hm e2) mw_X6_nextOf im_X6_nextOf se_X6_nextOf ml_X9_62 kq_108 (by decide) rfl rfl rfl (by decide) (by decide) (Nat.le_of_ble_eq_true rfl) dX9_nextOf_5 rfl rfl ?_
  obtain rfl := Option.some.inj h
  exact v_iret (pc := 8) O hz dX9_nextOf_8
theorem c_X9_nextOf {l : Launch} {w : Wx} {n nu c u : Nat} {K : Nat → Nat} (hm : wlm w = true) {x1 : Int32} {D : Dat} {z : Int32 × Dat} (h : f_X9_nextOf x1 D = some z) : C0 l w yX9_nextOf cX9_nextOf 2 (some .int) 1 21 [.ref (wb w + pp 107), .int x1] n (Ax nu K c u) D (some (.int z.1)) z.2 :=
  C0.of (by decide) (Nat.le_of_ble_eq_true rfl) (fun X e1 e2 e3 hz O => by
  subst e1
  subst e2
  exact w_X9_nextOf O hm e3 hz x1 D h)
def f_X9_heldAt_b32 (s0 : Int32) (D : Dat) : Option (Int32 × Dat) :=
  some (s0, D)
set_option maxHeartbeats 4000000 in
theorem w_X9_heldAt_b32 {X : Cx} {n nu c u : Nat} {K : Nat → Nat} {z : Int32 × Dat} (O : Ok X cX9_heldAt RX9 (some .int) 0 0) (hm : wlm (xw X) = true) (hn : xn X = 3) (hz : Z0 X (Ax nu K c u)) (s0 : Int32) (D : Dat) (h : f_X9_heldAt_b32 s0 D = some z) : V X (Q0 X n (Ax nu K c u) (some (.int z.1)) z.2) n (Ax nu K c u) D 32 [] [.int s0] := by
  unfold f_X9_heldAt_b32 at h
  obtain rfl := Option.some.inj h
  exact v_iret (pc := 32) O hz dX9_heldAt_32
def f_X9_heldAt_b31 (D : Dat) : Option (Int32 × Dat) :=
  f_X9_heldAt_b32 0 D
set_option maxHeartbeats 4000000 in
theorem w_X9_heldAt_b31 {X : Cx} {n nu c u : Nat} {K : Nat → Nat} {z : Int32 × Dat} (O : Ok X cX9_heldAt RX9 (some .int) 0 0) (hm : wlm (xw X) = true) (hn : xn X = 3) (hz : Z0 X (Ax nu K c u)) (D : Dat) (h : f_X9_heldAt_b31 D = some z) : V X (Q0 X n (Ax nu K c u) (some (.int z.1)) z.2) n (Ax nu K c u) D 31 [] [] := by
  unfold f_X9_heldAt_b31 at h
  refine v_iconst (pc := 31) O dX9_heldAt_31 ic_0 ?_
  refine v_sub [] rfl ?_
  exact w_X9_heldAt_b32 O hm hn hz 0 D h
def f_X9_heldAt (x1 : Int32) (x2 : Int32) (D : Dat) : Option (Int32 × Dat) :=
  if x1 < 0 then (f_X9_heldAt_b31 D) else (if 64 ≤ x1 then (f_X9_heldAt_b31 D) else (if x2 < 0 then (f_X9_heldAt_b31 D) else (if 56 ≤ x2 then (f_X9_heldAt_b31 D) else (if x1 < 0 ∨ 64 ≤ (x1).toNatClampNeg then none else (if x2 < 0 ∨ 56 ≤ (x2).toNatClampNeg then none else (f_X9_heldAt_b32 (dI D (115 + 1 + (x1).toNatClampNeg) (x2).toNatClampNeg) D))))))
set_option maxHeartbeats 4000000 in
theorem w_X9_heldAt {X : Cx} {n nu c u : Nat} {K : Nat → Nat} {z : Int32 × Dat} (O : Ok X cX9_heldAt RX9 (some .int) 0 0) (hm : wlm (xw X) = true) (hn : xn X = 3) (hz : Z0 X (Ax nu K c u)) (x1 : Int32) (x2 : Int32) (D : Dat) (h : f_X9_heldAt x1 x2 D = some z) : V X (Q0 X n (Ax nu K c u) (some (.int z.1)) z.2) n (Ax nu K c u) D 0 [(0, .ref (bo X + pp 107)), (1, .int x1), (2, .int x2)] [] := by
  unfold f_X9_heldAt at h
  refine v_iload_n (pc := 0) O dX9_heldAt_0 1 rfl ?_
  refine v_iflt (pc := 1) 31 O dX9_heldAt_1 (by decide) (fun c1 => ?_) (fun c1 => ?_)
  · have h := (if_pos c1).symm.trans h
    refine v_sub [] rfl ?_
    exact w_X9_heldAt_b31 O hm hn hz D h
  · have h := (if_neg c1).symm.trans h
    refine v_iload_n (pc := 4) O dX9_heldAt_4 1 rfl ?_
    refine v_bipush (pc := 5) O dX9_heldAt_5 bp_64 ?_
    refine v_icmpge (pc := 7) 31 O dX9_heldAt_7 (by decide) (fun c2 => ?_) (fun c2 => ?_)
    · have h := (if_pos c2).symm.trans h
      refine v_sub [] rfl ?_
      exact w_X9_heldAt_b31 O hm hn hz D h
    · have h := (if_neg c2).symm.trans h
      refine v_iload_n (pc := 10) O dX9_heldAt_10 2 rfl ?_
      refine v_iflt (pc := 11) 31 O dX9_heldAt_11 (by decide) (fun c3 => ?_) (fun c3 => ?_)
      · have h := (if_pos c3).symm.trans h
        refine v_sub [] rfl ?_
        exact w_X9_heldAt_b31 O hm hn hz D h
      · have h := (if_neg c3).symm.trans h
        refine v_iload_n (pc := 14) O dX9_heldAt_14 2 rfl ?_
        refine v_bipush (pc := 15) O dX9_heldAt_15 bp_56 ?_
        refine v_icmpge (pc := 17) 31 O dX9_heldAt_17 (by decide) (fun c4 => ?_) (fun c4 => ?_)
        · have h := (if_pos c4).symm.trans h
          refine v_sub [] rfl ?_
          exact w_X9_heldAt_b31 O hm hn hz D h
        · have h := (if_neg c4).symm.trans h
          refine v_aload_n (pc := 20) O dX9_heldAt_20 0 rfl ?_
          refine v_getK (pc := 21) (a := 107) O hm gf_X9_7 fl_X9_27 kq_107 lk_107_7 dX9_heldAt_21 ?_
          refine v_iload_n (pc := 24) O dX9_heldAt_24 1 rfl ?_
          obtain ⟨c5, h⟩ := or_none h
          refine v_aald2 (pc := 25) (a := 115) O kq_115 (inq lq_115 c5) dX9_heldAt_25 ?_
          refine v_iload_n (pc := 26) O dX9_heldAt_26 2 rfl ?_
          obtain ⟨c6, h⟩ := or_none h
          refine v_iald (pc := 27) (a := (115 + 1 + (x1).toNatClampNeg)) O (kr_115 c5) (inq (lr_115 c5) c6) dX9_heldAt_27 ?_
          refine v_goto (pc := 28) 32 O dX9_heldAt_28 (by decide) ?_
          refine v_sub [] rfl ?_
          exact w_X9_heldAt_b32 O hm hn hz (dI D (115 + 1 + (x1).toNatClampNeg) (x2).toNatClampNeg) D h
theorem c_X9_heldAt {l : Launch} {w : Wx} {n nu c u : Nat} {K : Nat → Nat} (hm : wlm w = true) {x1 : Int32} {x2 : Int32} {D : Dat} {z : Int32 × Dat} (h : f_X9_heldAt x1 x2 D = some z) : C0 l w yX9_heldAt cX9_heldAt 3 (some .int) 0 0 [.ref (wb w + pp 107), .int x1, .int x2] n (Ax nu K c u) D (some (.int z.1)) z.2 :=
  C0.of (by decide) (Nat.le_of_ble_eq_true rfl) (fun X e1 e2 e3 hz O => by
  subst e1
  subst e2
  exact w_X9_heldAt O hm e3 hz x1 x2 D h)
