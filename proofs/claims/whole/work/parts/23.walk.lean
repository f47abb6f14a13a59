theorem fl_X12_177 : Cond.fieldLink RX12 177 RX12 (TX12 81).2.1 (TX12 81).2.2.1 ∈ tb := tb_of 1801 (by decide +kernel) (by decide +kernel)
theorem gf_X12_81 : FI 12 RX12 TX12 85 tyX12 81 3 := ⟨rfl, inb_X12, tyX12_ok, nmX12, by decide, by decide, rfl, rfl, rfl⟩
theorem lk_207_81 : lks 207 81 = some 261 := by decide +kernel
theorem kq_261 {nu c u : Nat} {K : Nat → Nat} : (Ax nu K c u).1 261 = 14 := kd_lt (K := K) (a := 261) (by decide) rfl
theorem lq_261 {nu c u : Nat} {K : Nat → Nat} : (Ax nu K c u).2.1 261 = 260 := rfl
theorem cw_X12_pop : Cond.code yX12_pop cX12_pop 1 (some .int) ∈ tb := tb_of 2311 (by decide +kernel) (by decide +kernel)
theorem mw_X12_pop : MW yX12_pop cX12_pop 1 (some .int) 0 := ⟨cw_X12_pop, ini_X12, by decide +kernel⟩
theorem im_X12_pop : Cond.instanceMethod yX12_pop ∈ tb := tb_of 2310 (by decide +kernel) (by decide +kernel)
theorem se_X12_pop : Cond.selects (yX12_pop).cls yX12_pop yX12_pop ∈ tb := tb_of 151 (by decide +kernel) (by decide +kernel)
theorem ml_X12_478 : Cond.methodLink RX12 478 yX12_pop ∈ tb := tb_of 2308 (by decide +kernel) (by decide +kernel)
theorem fl_X12_165 : Cond.fieldLink RX12 165 RX12 (TX12 77).2.1 (TX12 77).2.2.1 ∈ tb := tb_of 1797 (by decide +kernel) (by decide +kernel)
theorem gf_X12_77 : FI 12 RX12 TX12 85 tyX12 77 3 := ⟨rfl, inb_X12, tyX12_ok, nmX12, by decide, by decide, rfl, rfl, rfl⟩
theorem lk_207_77 : lks 207 77 = some 257 := by decide +kernel
theorem kq_257 {nu c u : Nat} {K : Nat → Nat} : (Ax nu K c u).1 257 = 14 := kd_lt (K := K) (a := 257) (by decide) rfl
theorem lq_257 {nu c u : Nat} {K : Nat → Nat} : (Ax nu K c u).2.1 257 = 120 := rfl
theorem cw_X12_give : Cond.code yX12_give cX12_give 2 none ∈ tb := tb_of 2307 (by decide +kernel) (by decide +kernel)
theorem mw_X12_give : MW yX12_give cX12_give 2 none 1 := ⟨cw_X12_give, ini_X12, by decide +kernel⟩
theorem im_X12_give : Cond.instanceMethod yX12_give ∈ tb := tb_of 2306 (by decide +kernel) (by decide +kernel)
theorem se_X12_give : Cond.selects (yX12_give).cls yX12_give yX12_give ∈ tb := tb_of 150 (by decide +kernel) (by decide +kernel)
theorem ml_X12_481 : Cond.methodLink RX12 481 yX12_give ∈ tb := tb_of 2304 (by decide +kernel) (by decide +kernel)
theorem cw_X12_input : Cond.code yX12_input cX12_input 2 (some .int) ∈ tb := tb_of 2315 (by decide +kernel) (by decide +kernel)
theorem mw_X12_input : MW yX12_input cX12_input 2 (some .int) 1 := ⟨cw_X12_input, ini_X12, by decide +kernel⟩
theorem im_X12_input : Cond.instanceMethod yX12_input ∈ tb := tb_of 2314 (by decide +kernel) (by decide +kernel)
theorem se_X12_input : Cond.selects (yX12_input).cls yX12_input yX12_input ∈ tb := tb_of 152 (by decide +kernel) (by decide +kernel)
theorem ml_X12_484 : Cond.methodLink RX12 484 yX12_input ∈ tb := tb_of 2312 (by decide +kernel) (by decide +kernel)
theorem cw_X12_write : Cond.code yX12_write cX12_write 3 none ∈ tb := tb_of 2319 (by decide +kernel) (by decide +kernel)
theorem mw_X12_write : MW yX12_write cX12_write 3 none 1 := ⟨cw_X12_write, ini_X12, by decide +kernel⟩
theorem im_X12_write : Cond.instanceMethod yX12_write ∈ tb := tb_of 2318 (by decide +kernel) (by decide +kernel)
theorem se_X12_write : Cond.selects (yX12_write).cls yX12_write yX12_write ∈ tb := tb_of 153 (by decide +kernel) (by decide +kernel)
theorem ml_X12_487 : Cond.methodLink RX12 487 yX12_write ∈ tb := tb_of 2316 (by decide +kernel) (by decide +kernel)
theorem cw_X12_compute : Cond.code yX12_compute cX12_compute 4 none ∈ tb := tb_of 2323 (by decide +kernel) (by decide +kernel)
theorem mw_X12_compute : MW yX12_compute cX12_compute 4 none 1 := ⟨cw_X12_compute, ini_X12, by decide +kernel⟩
theorem im_X12_compute : Cond.instanceMethod yX12_compute ∈ tb := tb_of 2322 (by decide +kernel) (by decide +kernel)
theorem se_X12_compute : Cond.selects (yX12_compute).cls yX12_compute yX12_compute ∈ tb := tb_of 154 (by decide +kernel) (by decide +kernel)
theorem ml_X12_490 : Cond.methodLink RX12 490 yX12_compute ∈ tb := tb_of 2320 (by decide +kernel) (by decide +kernel)
theorem sp_600 : (Int16.ofInt (600)).toInt32 = (600 : Int32) := by decide
theorem cw_X12_begin : Cond.code yX12_begin cX12_begin 2 none ∈ tb := tb_of 2299 (by decide +kernel) (by decide +kernel)
theorem mw_X12_begin : MW yX12_begin cX12_begin 2 none 0 := ⟨cw_X12_begin, ini_X12, by decide +kernel⟩
theorem im_X12_begin : Cond.instanceMethod yX12_begin ∈ tb := tb_of 2298 (by decide +kernel) (by decide +kernel)
theorem se_X12_begin : Cond.selects (yX12_begin).cls yX12_begin yX12_begin ∈ tb := tb_of 148 (by decide +kernel) (by decide +kernel)
theorem ml_X12_493 : Cond.methodLink RX12 493 yX12_begin ∈ tb := tb_of 2296 (by decide +kernel) (by decide +kernel)
theorem cw_X12_perform : Cond.code yX12_perform cX12_perform 5 none ∈ tb := tb_of 2303 (by decide +kernel) (by decide +kernel)
theorem mw_X12_perform : MW yX12_perform cX12_perform 5 none 2 := ⟨cw_X12_perform, ini_X12, by decide +kernel⟩
theorem im_X12_perform : Cond.instanceMethod yX12_perform ∈ tb := tb_of 2302 (by decide +kernel) (by decide +kernel)
theorem se_X12_perform : Cond.selects (yX12_perform).cls yX12_perform yX12_perform ∈ tb := tb_of 149 (by decide +kernel) (by decide +kernel)
theorem ml_X12_496 : Cond.methodLink RX12 496 yX12_perform ∈ tb := tb_of 2300 (by decide +kernel) (by decide +kernel)
def f_X12_pop (D : Dat) : Option (Int32 × Dat) :=
  if (dI (sI D 207 82 ((dI D 207 82) - (1 : Int32))) 207 82) < 0 ∨ 260 ≤ ((dI (sI D 207 82 ((dI D 207 82) - (1 : Int32))) 207 82)).toNatClampNeg then none else (some ((dI (sI D 207 82 ((dI D 207 82) - (1 : Int32))) 261 (dI (sI D 207 82 ((dI D 207 82) - (1 : Int32))) 207 82).toNatClampNeg), (sI D 207 82 ((dI D 207 82) - (1 : Int32)))))
set_option maxHeartbeats 4000000 in
theorem w_X12_pop {X : Cx} {n nu c u : Nat} {K : Nat → Nat} {z : Int32 × Dat} (O : Ok X cX12_pop RX12 (some .int) 0 0) (hm : wlm (xw X) = true) (hn : xn X = 1) (hz : Z0 X (Ax nu K c u)) (D : Dat) (h : f_X12_pop D = some z) : V X (Q0 X n (Ax nu K c u) (some (.int z.1)) z.2) n (Ax nu K c u) D 0 [(0, .ref (bo X + pp 207))] [] := by
  unfold f_X12_pop at h
  refine v_aload_n (pc := 0) O dX12_pop_0 0 rfl ?_
  refine v_dup (pc := 1) O dX12_pop_1 rfl ?_
  refine v_getI (pc := 2) (a := 207) O gf_X12_82 fl_X12_469 kq_207 dX12_pop_2 ?_
  refine v_iconst (pc := 5) O dX12_pop_5 ic_1 ?_
  refine v_isub (pc := 6) O dX12_pop_6 ?_
  refine v_putI (pc := 7) (a := 207) O pf_X12_82 fl_X12_469 kq_207 dX12_pop_7 ?_
  refine v_aload_n (pc := 10) O dX12_pop_10 0 rfl ?_
  refine v_getK (pc := 11) (a := 207) O hm gf_X12_81 fl_X12_177 kq_207 lk_207_81 dX12_pop_11 ?_
  refine v_aload_n (pc := 14) O dX12_pop_14 0 rfl ?_
  refine v_getI (pc := 15) (a := 207) O gf_X12_82 fl_X12_469 kq_207 dX12_pop_15 ?_
  obtain ⟨c1, h⟩ := or_none h
  refine v_iald (pc := 18) (a := 261) O kq_261 (inq lq_261 c1) dX12_pop_18 ?_
  obtain rfl := Option.some.inj h
  exact v_iret (pc := 19) O hz dX12_pop_19
theorem c_X12_pop {l : Launch} {w : Wx} {n nu c u : Nat} {K : Nat → Nat} (hm : wlm w = true) {D : Dat} {z : Int32 × Dat} (h : f_X12_pop D = some z) : C0 l w yX12_pop cX12_pop 1 (some .int) 0 0 [.ref (wb w + pp 207)] n (Ax nu K c u) D (some (.int z.1)) z.2 :=
  C0.of (by decide) (Nat.le_of_ble_eq_true rfl) (fun X e1 e2 e3 hz O => by
  subst e1
  subst e2
  exact w_X12_pop O hm e3 hz  D h)
def f_X12_give (x1 : Int32) (D : Dat) : Option (Dat) :=
  if (dI D 207 82) < 0 ∨ 260 ≤ ((dI D 207 82)).toNatClampNeg then none else (some (sI (sI D 261 (dI D 207 82).toNatClampNeg x1) 207 82 ((dI (sI D 261 (dI D 207 82).toNatClampNeg x1) 207 82) + (1 : Int32))))
set_option maxHeartbeats 4000000 in
theorem w_X12_give {X : Cx} {n nu c u : Nat} {K : Nat → Nat} {z : Dat} (O : Ok X cX12_give RX12 none 0 0) (hm : wlm (xw X) = true) (hn : xn X = 2) (hz : Z0 X (Ax nu K c u)) (x1 : Int32) (D : Dat) (h : f_X12_give x1 D = some z) : V X (Q0 X n (Ax nu K c u) none z) n (Ax nu K c u) D 0 [(0, .ref (bo X + pp 207)), (1, .int x1)] [] := by
  unfold f_X12_give at h
  refine v_aload_n (pc := 0) O dX12_give_0 0 rfl ?_
  refine v_getK (pc := 1) (a := 207) O hm gf_X12_81 fl_X12_177 kq_207 lk_207_81 dX12_give_1 ?_
  refine v_aload_n (pc := 4) O dX12_give_4 0 rfl ?_
  refine v_getI (pc := 5) (a := 207) O gf_X12_82 fl_X12_469 kq_207 dX12_give_5 ?_
  refine v_iload_n (pc := 8) O dX12_give_8 1 rfl ?_
  obtain ⟨c1, h⟩ := or_none h
  refine v_iast (pc := 9) (a := 261) O kq_261 (inq lq_261 c1) dX12_give_9 ?_
  refine v_aload_n (pc := 10) O dX12_give_10 0 rfl ?_
  refine v_dup (pc := 11) O dX12_give_11 rfl ?_
  refine v_getI (pc := 12) (a := 207) O gf_X12_82 fl_X12_469 kq_207 dX12_give_12 ?_
  refine v_iconst (pc := 15) O dX12_give_15 ic_1 ?_
  refine v_iadd (pc := 16) O dX12_give_16 ?_
  refine v_putI (pc := 17) (a := 207) O pf_X12_82 fl_X12_469 kq_207 dX12_give_17 ?_
  obtain rfl := Option.some.inj h
  exact v_ret (pc := 20) O hz dX12_give_20
theorem c_X12_give {l : Launch} {w : Wx} {n nu c u : Nat} {K : Nat → Nat} (hm : wlm w = true) {x1 : Int32} {D : Dat} {z : Dat} (h : f_X12_give x1 D = some z) : C0 l w yX12_give cX12_give 2 none 0 0 [.ref (wb w + pp 207), .int x1] n (Ax nu K c u) D none z :=
  C0.of (by decide) (Nat.le_of_ble_eq_true rfl) (fun X e1 e2 e3 hz O => by
  subst e1
  subst e2
  exact w_X12_give O hm e3 hz x1 D h)
def f_X12_input (x1 : Int32) (D : Dat) : Option (Int32 × Dat) :=
  if x1 < 0 ∨ 6 ≤ (x1).toNatClampNeg then none else (if x1 < 0 ∨ 6 ≤ (x1).toNatClampNeg then none else (if (dI D 256 (x1).toNatClampNeg) < (dI D 255 (x1).toNatClampNeg) then (if x1 < 0 ∨ 6 ≤ (x1).toNatClampNeg then none else (if x1 < 0 ∨ 6 ≤ (x1).toNatClampNeg then none else (if x1 < 0 ∨ 6 ≤ (x1).toNatClampNeg then none else (if ((((20 : Int32) * x1) + (dI (sI D 256 (x1).toNatClampNeg ((dI D 256 (x1).toNatClampNeg) + (1 : Int32))) 256 (x1).toNatClampNeg)) - (1 : Int32)) < 0 ∨ 120 ≤ (((((20 : Int32) * x1) + (dI (sI D 256 (x1).toNatClampNeg ((dI D 256 (x1).toNatClampNeg) + (1 : Int32))) 256 (x1).toNatClampNeg)) - (1 : Int32))).toNatClampNeg then none else (some ((dI (sI D 256 (x1).toNatClampNeg ((dI D 256 (x1).toNatClampNeg) + (1 : Int32))) 254 ((((20 : Int32) * x1) + (dI (sI D 256 (x1).toNatClampNeg ((dI D 256 (x1).toNatClampNeg) + (1 : Int32))) 256 (x1).toNatClampNeg)) - (1 : Int32)).toNatClampNeg), (sI D 256 (x1).toNatClampNeg ((dI D 256 (x1).toNatClampNeg) + (1 : Int32))))))))) else (some (0, D))))
set_option maxHeartbeats 4000000 in
theorem w_X12_input {X : Cx} {n nu c u : Nat} {K : Nat → Nat} {z : Int32 × Dat} (O : Ok X cX12_input RX12 (some .int) 0 0) (hm : wlm (xw X) = true) (hn : xn X = 2) (hz : Z0 X (Ax nu K c u)) (x1 : Int32) (D : Dat) (h : f_X12_input x1 D = some z) : V X (Q0 X n (Ax nu K c u) (some (.int z.1)) z.2) n (Ax nu K c u) D 0 [(0, .ref (bo X + pp 207)), (1, .int x1)] [] := by
  unfold f_X12_input at h
  refine v_aload_n (pc := 0) O dX12_input_0 0 rfl ?_
  refine v_getK (pc := 1) (a := 207) O hm gf_X12_76 fl_X12_162 kq_207 lk_207_76 dX12_input_1 ?_
  refine v_iload_n (pc := 4) O dX12_input_4 1 rfl ?_
  obtain ⟨c1, h⟩ := or_none h
  refine v_iald (pc := 5) (a := 256) O kq_256 (inq lq_256 c1) dX12_input_5 ?_
  refine v_aload_n (pc := 6) O dX12_input_6 0 rfl ?_
  refine v_getK (pc := 7) (a := 207) O hm gf_X12_75 fl_X12_159 kq_207 lk_207_75 dX12_input_7 ?_
  refine v_iload_n (pc := 10) O dX12_input_10 1 rfl ?_
  obtain ⟨c2, h⟩ := or_none h
  refine v_iald (pc := 11) (a := 255) O kq_255 (inq lq_255 c2) dX12_input_11 ?_
  refine v_icmplt (pc := 12) 17 O dX12_input_12 (by decide) (fun c3 => ?_) (fun c3 => ?_)
  · have h := (if_pos c3).symm.trans h
    refine v_aload_n (pc := 17) O dX12_input_17 0 rfl ?_
    refine v_getK (pc := 18) (a := 207) O hm gf_X12_76 fl_X12_162 kq_207 lk_207_76 dX12_input_18 ?_
    refine v_iload_n (pc := 21) O dX12_input_21 1 rfl ?_
    refine v_dup2 (pc := 22) O dX12_input_22 rfl rfl ?_
    obtain ⟨c4, h⟩ := or_none h
    refine v_iald (pc := 23) (a := 256) O kq_256 (inq lq_256 c4) dX12_input_23 ?_
    refine v_iconst (pc := 24) O dX12_input_24 ic_1 ?_
    refine v_iadd (pc := 25) O dX12_input_25 ?_
    obtain ⟨c5, h⟩ := or_none h
    refine v_iast (pc := 26) (a := 256) O kq_256 (inq lq_256 c5) dX12_input_26 ?_
    refine v_aload_n (pc := 27) O dX12_input_27 0 rfl ?_
    refine v_getK (pc := 28) (a := 207) O hm gf_X12_74 fl_X12_156 kq_207 lk_207_74 dX12_input_28 ?_
    refine v_bipush (pc := 31) O dX12_input_31 bp_20 ?_
    refine v_iload_n (pc := 33) O dX12_input_33 1 rfl ?_
    refine v_imul (pc := 34) O dX12_input_34 ?_
    refine v_aload_n (pc := 35) O dX12_input_35 0 rfl ?_
    refine v_getK (pc := 36) (a := 207) O hm gf_X12_76 fl_X12_162 kq_207 lk_207_76 dX12_input_36 ?_
    refine v_iload_n (pc := 39) O dX12_input_39 1 rfl ?_
    obtain ⟨c6, h⟩ := or_none h
    refine v_iald (pc := 40) (a := 256) O kq_256 (inq lq_256 c6) dX12_input_40 ?_
    refine v_iadd (pc := 41) O dX12_input_41 ?_
    refine v_iconst (pc := 42) O dX12_input_42 ic_1 ?_
    refine v_isub (pc := 43) O dX12_input_43 ?_
    obtain ⟨c7, h⟩ := or_none h
    refine v_iald (pc := 44) (a := 254) O kq_254 (inq lq_254 c7) dX12_input_44 ?_
    obtain rfl := Option.some.inj h
    exact v_iret (pc := 45) O hz dX12_input_45
  · have h := (if_neg c3).symm.trans h
    refine v_iconst (pc := 15) O dX12_input_15 ic_0 ?_
    obtain rfl := Option.some.inj h
    exact v_iret (pc := 16) O hz dX12_input_16
theorem c_X12_input {l : Launch} {w : Wx} {n nu c u : Nat} {K : Nat → Nat} (hm : wlm w = true) {x1 : Int32} {D : Dat} {z : Int32 × Dat} (h : f_X12_input x1 D = some z) : C0 l w yX12_input cX12_input 2 (some .int) 0 0 [.ref (wb w + pp 207), .int x1] n (Ax nu K c u) D (some (.int z.1)) z.2 :=
  C0.of (by decide) (Nat.le_of_ble_eq_true rfl) (fun X e1 e2 e3 hz O => by
  subst e1
  subst e2
  exact w_X12_input O hm e3 hz x1 D h)
def f_X12_write_b51 (D : Dat) : Option (Dat) :=
  some D
set_option maxHeartbeats 4000000 in
theorem w_X12_write_b51 {X : Cx} {n nu c u : Nat} {K : Nat → Nat} {z : Dat} (O : Ok X cX12_write RX12 none 1 20) (hm : wlm (xw X) = true) (hn : xn X = 3) (hz : Z0 X (Ax nu K c u)) (D : Dat) (h : f_X12_write_b51 D = some z) : V X (Q0 X n (Ax nu K c u) none z) n (Ax nu K c u) D 51 [] [] := by
  unfold f_X12_write_b51 at h
  obtain rfl := Option.some.inj h
  exact v_ret (pc := 51) O hz dX12_write_51
def f_X12_write (x1 : Int32) (D : Dat) : Option (Dat) :=
  (f_X12_pop D).bind (fun p1 => if x1 < 0 ∨ 6 ≤ (x1).toNatClampNeg then none else (if (dI p1.2 258 (x1).toNatClampNeg) = 20 then (f_X12_write_b51 (sI p1.2 207 84 4)) else (if x1 < 0 ∨ 6 ≤ (x1).toNatClampNeg then none else (if (((20 : Int32) * x1) + (dI p1.2 258 (x1).toNatClampNeg)) < 0 ∨ 120 ≤ ((((20 : Int32) * x1) + (dI p1.2 258 (x1).toNatClampNeg))).toNatClampNeg then none else (if x1 < 0 ∨ 6 ≤ (x1).toNatClampNeg then none else (if x1 < 0 ∨ 6 ≤ (x1).toNatClampNeg then none else (f_X12_write_b51 (sI (sI p1.2 257 (((20 : Int32) * x1) + (dI p1.2 258 (x1).toNatClampNeg)).toNatClampNeg p1.1) 258 (x1).toNatClampNeg ((dI (sI p1.2 257 (((20 : Int32) * x1) + (dI p1.2 258 (x1).toNatClampNeg)).toNatClampNeg p1.1) 258 (x1).toNatClampNeg) + (1 : Int32))))))))))
set_option maxHeartbeats 4000000 in
theorem w_X12_write {X : Cx} {n nu c u : Nat} {K : Nat → Nat} {z : Dat} (O : Ok X cX12_write RX12 none 1 20) (hm : wlm (xw X) = true) (hn : xn X = 3) (hz : Z0 X (Ax nu K c u)) (x1 : Int32) (D : Dat) (h : f_X12_write x1 D = some z) : V X (Q0 X n (Ax nu K c u) none z) n (Ax nu K c u) D 0 [(0, .ref (bo X + pp 207)), (1, .int x1)] [] := by
  unfold f_X12_write at h
  refine v_aload_n (pc := 0) O dX12_write_0 0 rfl ?_
  obtain ⟨p1, e2, h⟩ := bind_some h
  refine v_callV (pc := 1) (a := 207) (As := []) (rest := []) (r := (some (.int p1.1))) (D' := p1.2) O (bb0 hz) (c_X12_pop hm e2) mw_X12_pop im_X12_pop se_X12_pop ml_X12_478 kq_207 (by decide) rfl rfl rfl (by decide) (by decide) (Nat.le_of_ble_eq_true rfl) dX12_write_1 rfl rfl ?_
  refine v_istore_n (pc := 4) (lv' := [(2, .int p1.1), (0, .ref (bo X + pp 207)), (1, .int x1)]) O dX12_write_4 rfl (by rw [hn]; decide) rfl ?_
  refine v_aload_n (pc := 5) O dX12_write_5 1 rfl ?_
  refine v_getK (pc := 6) (a := 207) O hm gf_X12_78 fl_X12_168 kq_207 lk_207_78 dX12_write_6 ?_
  refine v_iload_n (pc := 9) O dX12_write_9 2 rfl ?_
  obtain ⟨c3, h⟩ := or_none h
  refine v_iald (pc := 10) (a := 258) O kq_258 (inq lq_258 c3) dX12_write_10 ?_
  refine v_bipush (pc := 11) O dX12_write_11 bp_20 ?_
  refine v_icmpne (pc := 13) 24 O dX12_write_13 (by decide) (fun c4 => ?_) (fun c4 => ?_)
  · have h := (if_neg c4).symm.trans h
    refine v_aload_n (pc := 24) O dX12_write_24 1 rfl ?_
    refine v_getK (pc := 25) (a := 207) O hm gf_X12_77 fl_X12_165 kq_207 lk_207_77 dX12_write_25 ?_
    refine v_bipush (pc := 28) O dX12_write_28 bp_20 ?_
    refine v_iload_n (pc := 30) O dX12_write_30 2 rfl ?_
    refine v_imul (pc := 31) O dX12_write_31 ?_
    refine v_aload_n (pc := 32) O dX12_write_32 1 rfl ?_
    refine v_getK (pc := 33) (a := 207) O hm gf_X12_78 fl_X12_168 kq_207 lk_207_78 dX12_write_33 ?_
    refine v_iload_n (pc := 36) O dX12_write_36 2 rfl ?_
    obtain ⟨c5, h⟩ := or_none h
    refine v_iald (pc := 37) (a := 258) O kq_258 (inq lq_258 c5) dX12_write_37 ?_
    refine v_iadd (pc := 38) O dX12_write_38 ?_
    refine v_iload_n (pc := 39) O dX12_write_39 0 rfl ?_
    obtain ⟨c6, h⟩ := or_none h
    refine v_iast (pc := 40) (a := 257) O kq_257 (inq lq_257 c6) dX12_write_40 ?_
    refine v_aload_n (pc := 41) O dX12_write_41 1 rfl ?_
    refine v_getK (pc := 42) (a := 207) O hm gf_X12_78 fl_X12_168 kq_207 lk_207_78 dX12_write_42 ?_
    refine v_iload_n (pc := 45) O dX12_write_45 2 rfl ?_
    refine v_dup2 (pc := 46) O dX12_write_46 rfl rfl ?_
    obtain ⟨c7, h⟩ := or_none h
    refine v_iald (pc := 47) (a := 258) O kq_258 (inq lq_258 c7) dX12_write_47 ?_
    refine v_iconst (pc := 48) O dX12_write_48 ic_1 ?_
    refine v_iadd (pc := 49) O dX12_write_49 ?_
    obtain ⟨c8, h⟩ := or_none h
    refine v_iast (pc := 50) (a := 258) O kq_258 (inq lq_258 c8) dX12_write_50 ?_
    refine v_sub [] rfl ?_
    exact w_X12_write_b51 O hm hn hz (sI (sI p1.2 257 (((20 : Int32) * x1) + (dI p1.2 258 (x1).toNatClampNeg)).toNatClampNeg p1.1) 258 (x1).toNatClampNeg ((dI (sI p1.2 257 (((20 : Int32) * x1) + (dI p1.2 258 (x1).toNatClampNeg)).toNatClampNeg p1.1) 258 (x1).toNatClampNeg) + (1 : Int32))) h
  · have h := (if_pos c4).symm.trans h
    refine v_aload_n (pc := 16) O dX12_write_16 1 rfl ?_
    refine v_iconst (pc := 17) O dX12_write_17 ic_4 ?_
    refine v_putI (pc := 18) (a := 207) O pf_X12_84 fl_X12_475 kq_207 dX12_write_18 ?_
    refine v_goto (pc := 21) 51 O dX12_write_21 (by decide) ?_
    refine v_sub [] rfl ?_
    exact w_X12_write_b51 O hm hn hz (sI p1.2 207 84 4) h
theorem c_X12_write {l : Launch} {w : Wx} {n nu c u : Nat} {K : Nat → Nat} (hm : wlm w = true) {x1 : Int32} {D : Dat} {z : Dat} (h : f_X12_write x1 D = some z) : C0 l w yX12_write cX12_write 3 none 1 20 [.ref (wb w + pp 207), .int x1] n (Ax nu K c u) D none z :=
  C0.of (by decide) (Nat.le_of_ble_eq_true rfl) (fun X e1 e2 e3 hz O => by
  subst e1
  subst e2
  exact w_X12_write O hm e3 hz x1 D h)
def f_X12_compute_b127 (D : Dat) : Option (Dat) :=
  some D
set_option maxHeartbeats 4000000 in
theorem w_X12_compute_b127 {X : Cx} {n nu c u : Nat} {K : Nat → Nat} {z : Dat} (O : Ok X cX12_compute RX12 none 1 21) (hm : wlm (xw X) = true) (hn : xn X = 4) (hz : Z0 X (Ax nu K c u)) (D : Dat) (h : f_X12_compute_b127 D = some z) : V X (Q0 X n (Ax nu K c u) none z) n (Ax nu K c u) D 127 [] [] := by
  unfold f_X12_compute_b127 at h
  obtain rfl := Option.some.inj h
  exact v_ret (pc := 127) O hz dX12_compute_127
def f_X12_compute_b107 (s0 : Int32) (D : Dat) : Option (Dat) :=
  (f_X12_give s0 D).bind (fun p1 => f_X12_compute_b127 p1)
set_option maxHeartbeats 4000000 in
theorem w_X12_compute_b107 {X : Cx} {n nu c u : Nat} {K : Nat → Nat} {z : Dat} (O : Ok X cX12_compute RX12 none 1 21) (hm : wlm (xw X) = true) (hn : xn X = 4) (hz : Z0 X (Ax nu K c u)) (s0 : Int32) (D : Dat) (h : f_X12_compute_b107 s0 D = some z) : V X (Q0 X n (Ax nu K c u) none z) n (Ax nu K c u) D 107 [] [.int s0, .ref (bo X + pp 207)] := by
  unfold f_X12_compute_b107 at h
  obtain ⟨p1, e2, h⟩ := bind_some h
  refine v_callV (pc := 107) (a := 207) (As := [.int s0]) (rest := []) (r := none) (D' := p1) O (bb0 hz) (c_X12_give hm e2) mw_X12_give im_X12_give se_X12_give ml_X12_481 kq_207 (by decide) rfl rfl rfl (by decide) (by decide) (Nat.le_of_ble_eq_true rfl) dX12_compute_107 rfl rfl ?_
  refine v_goto (pc := 110) 127 O dX12_compute_110 (by decide) ?_
  refine v_sub [] rfl ?_
  exact w_X12_compute_b127 O hm hn hz p1 h
def f_X12_compute_b124 (s0 : Int32) (D : Dat) : Option (Dat) :=
  (f_X12_give s0 D).bind (fun p3 => f_X12_compute_b127 p3)
set_option maxHeartbeats 4000000 in
theorem w_X12_compute_b124 {X : Cx} {n nu c u : Nat} {K : Nat → Nat} {z : Dat} (O : Ok X cX12_compute RX12 none 1 21) (hm : wlm (xw X) = true) (hn : xn X = 4) (hz : Z0 X (Ax nu K c u)) (s0 : Int32) (D : Dat) (h : f_X12_compute_b124 s0 D = some z) : V X (Q0 X n (Ax nu K c u) none z) n (Ax nu K c u) D 124 [] [.int s0, .ref (bo X + pp 207)] := by
  unfold f_X12_compute_b124 at h
  obtain ⟨p3, e4, h⟩ := bind_some h
  refine v_callV (pc := 124) (a := 207) (As := [.int s0]) (rest := []) (r := none) (D' := p3) O (bb0 hz) (c_X12_give hm e4) mw_X12_give im_X12_give se_X12_give ml_X12_481 kq_207 (by decide) rfl rfl rfl (by decide) (by decide) (Nat.le_of_ble_eq_true rfl) dX12_compute_124 rfl rfl ?_
  refine v_sub [] rfl ?_
  exact w_X12_compute_b127 O hm hn hz p3 h
def f_X12_compute (x1 : Int32) (D : Dat) : Option (Dat) :=
  (f_X12_pop D).bind (fun p5 => (f_X12_pop p5.2).bind (fun p7 => (if x1 = (5 : Int32) then ((f_X12_give (p7.1 + p5.1) p7.2).bind (fun p10 => f_X12_compute_b127 p10)) else (if x1 = (6 : Int32) then ((f_X12_give (p7.1 - p5.1) p7.2).bind (fun p13 => f_X12_compute_b127 p13)) else (if x1 = (7 : Int32) then ((f_X12_give (p7.1 * p5.1) p7.2).bind (fun p16 => f_X12_compute_b127 p16)) else (if x1 = (8 : Int32) then (if p5.1 = 0 then (f_X12_compute_b127 (sI p7.2 207 84 1)) else (if p5.1 = 0 then none else (f_X12_give (p7.1 / p5.1) p7.2).bind (fun p21 => f_X12_compute_b127 p21))) else (if x1 = (9 : Int32) then (if p5.1 ≤ p7.1 then (f_X12_compute_b107 0 p7.2) else (f_X12_compute_b107 1 p7.2)) else (if p7.1 = p5.1 then (f_X12_compute_b124 1 p7.2) else (f_X12_compute_b124 0 p7.2)))))))))
set_option maxHeartbeats 4000000 in
theorem w_X12_compute {X : Cx} {n nu c u : Nat} {K : Nat → Nat} {z : Dat} (O : Ok X cX12_compute RX12 none 1 21) (hm : wlm (xw X) = true) (hn : xn X = 4) (hz : Z0 X (Ax nu K c u)) (x1 : Int32) (D : Dat) (h : f_X12_compute x1 D = some z) : V X (Q0 X n (Ax nu K c u) none z) n (Ax nu K c u) D 0 [(0, .ref (bo X + pp 207)), (1, .int x1)] [] := by
  unfold f_X12_compute at h
  refine v_aload_n (pc := 0) O dX12_compute_0 0 rfl ?_
  obtain ⟨p5, e6, h⟩ := bind_some h
  refine v_callV (pc := 1) (a := 207) (As := []) (rest := []) (r := (some (.int p5.1))) (D' := p5.2) O (bb0 hz) (c_X12_pop hm e6) mw_X12_pop im_X12_pop se_X12_pop ml_X12_478 kq_207 (by decide) rfl rfl rfl (by decide) (by decide) (Nat.le_of_ble_eq_true rfl) dX12_compute_1 rfl rfl ?_
  refine v_istore_n (pc := 4) (lv' := [(2, .int p5.1), (0, .ref (bo X + pp 207)), (1, .int x1)]) O dX12_compute_4 rfl (by rw [hn]; decide) rfl ?_
  refine v_aload_n (pc := 5) O dX12_compute_5 1 rfl ?_
  obtain ⟨p7, e8, h⟩ := bind_some h
  refine v_callV (pc := 6) (a := 207) (As := []) (rest := []) (r := (some (.int p7.1))) (D' := p7.2) O (bb0 hz) (c_X12_pop hm e8) mw_X12_pop im_X12_pop se_X12_pop ml_X12_478 kq_207 (by decide) rfl rfl rfl (by decide) (by decide) (Nat.le_of_ble_eq_true rfl) dX12_compute_6 rfl rfl ?_
  refine v_istore_n (pc := 9) (lv' := [(3, .int p7.1), (2, .int p5.1), (0, .ref (bo X + pp 207)), (1, .int x1)]) O dX12_compute_9 rfl (by rw [hn]; decide) rfl ?_
  refine v_iload_n (pc := 10) O dX12_compute_10 3 rfl ?_
  by_cases c9 : x1 = (5 : Int32)
  · have h := (if_pos c9).symm.trans h
    refine v_tableIn (pc := 11) 44 O dX12_compute_11 (by rw [c9]; decide) (by rw [c9]; decide) (by rw [c9]; rfl) (by decide) ?_
    refine v_aload_n (pc := 44) O dX12_compute_44 2 rfl ?_
    refine v_iload_n (pc := 45) O dX12_compute_45 0 rfl ?_
    refine v_iload_n (pc := 46) O dX12_compute_46 1 rfl ?_
    refine v_iadd (pc := 47) O dX12_compute_47 ?_
    obtain ⟨p10, e11, h⟩ := bind_some h
    refine v_callV (pc := 48) (a := 207) (As := [.int (p7.1 + p5.1)]) (rest := []) (r := none) (D' := p10) O (bb0 hz) (c_X12_give hm e11) mw_X12_give im_X12_give se_X12_give ml_X12_481 kq_207 (by decide) rfl rfl rfl (by decide) (by decide) (Nat.le_of_ble_eq_true rfl) dX12_compute_48 rfl rfl ?_
    refine v_goto (pc := 51) 127 O dX12_compute_51 (by decide) ?_
    refine v_sub [] rfl ?_
    exact w_X12_compute_b127 O hm hn hz p10 h
  · have h := (if_neg c9).symm.trans h
    by_cases c12 : x1 = (6 : Int32)
    · have h := (if_pos c12).symm.trans h
      refine v_tableIn (pc := 11) 54 O dX12_compute_11 (by rw [c12]; decide) (by rw [c12]; decide) (by rw [c12]; rfl) (by decide) ?_
      refine v_aload_n (pc := 54) O dX12_compute_54 2 rfl ?_
      refine v_iload_n (pc := 55) O dX12_compute_55 0 rfl ?_
      refine v_iload_n (pc := 56) O dX12_compute_56 1 rfl ?_
      refine v_isub (pc := 57) O dX12_compute_57 ?_
      obtain ⟨p13, e14, h⟩ := bind_some h
      refine v_callV (pc := 58) (a := 207) (As := [.int (p7.1 - p5.1)]) (rest := []) (r := none) (D' := p13) O (bb0 hz) (c_X12_give hm e14) mw_X12_give im_X12_give se_X12_give ml_X12_481 kq_207 (by decide) rfl rfl rfl (by decide) (by decide) (Nat.le_of_ble_eq_true rfl) dX12_compute_58 rfl rfl ?_
      refine v_goto (pc := 61) 127 O dX12_compute_61 (by decide) ?_
      refine v_sub [] rfl ?_
      exact w_X12_compute_b127 O hm hn hz p13 h
    · have h := (if_neg c12).symm.trans h
      by_cases c15 : x1 = (7 : Int32)
      · have h := (if_pos c15).symm.trans h
        refine v_tableIn (pc := 11) 64 O dX12_compute_11 (by rw [c15]; decide) (by rw [c15]; decide) (by rw [c15]; rfl) (by decide) ?_
        refine v_aload_n (pc := 64) O dX12_compute_64 2 rfl ?_
        refine v_iload_n (pc := 65) O dX12_compute_65 0 rfl ?_
        refine v_iload_n (pc := 66) O dX12_compute_66 1 rfl ?_
        refine v_imul (pc := 67) O dX12_compute_67 ?_
        obtain ⟨p16, e17, h⟩ := bind_some h
        refine v_callV (pc := 68) (a := 207) (As := [.int (p7.1 * p5.1)]) (rest := []) (r := none) (D' := p16) O (bb0 hz) (c_X12_give hm e17) mw_X12_give im_X12_give se_X12_give ml_X12_481 kq_207 (by decide) rfl rfl rfl (by decide) (by decide) (Nat.le_of_ble_eq_true rfl) dX12_compute_68 rfl rfl ?_
        refine v_goto (pc := 71) 127 O dX12_compute_71 (by decide) ?_
        refine v_sub [] rfl ?_
        exact w_X12_compute_b127 O hm hn hz p16 h
      · have h := (if_neg c15).symm.trans h
        by_cases c18 : x1 = (8 : Int32)
        · have h := (if_pos c18).symm.trans h
          refine v_tableIn (pc := 11) 74 O dX12_compute_11 (by rw [c18]; decide) (by rw [c18]; decide) (by rw [c18]; rfl) (by decide) ?_
          refine v_iload_n (pc := 74) O dX12_compute_74 1 rfl ?_
          refine v_ifne (pc := 75) 86 O dX12_compute_75 (by decide) (fun c19 => ?_) (fun c19 => ?_)
          · have h := (if_neg c19).symm.trans h
            refine v_aload_n (pc := 86) O dX12_compute_86 2 rfl ?_
            refine v_iload_n (pc := 87) O dX12_compute_87 0 rfl ?_
            refine v_iload_n (pc := 88) O dX12_compute_88 1 rfl ?_
            obtain ⟨c20, h⟩ := or_none h
            refine v_idiv (pc := 89) O dX12_compute_89 c20 ?_
            obtain ⟨p21, e22, h⟩ := bind_some h
            refine v_callV (pc := 90) (a := 207) (As := [.int (p7.1 / p5.1)]) (rest := []) (r := none) (D' := p21) O (bb0 hz) (c_X12_give hm e22) mw_X12_give im_X12_give se_X12_give ml_X12_481 kq_207 (by decide) rfl rfl rfl (by decide) (by decide) (Nat.le_of_ble_eq_true rfl) dX12_compute_90 rfl rfl ?_
            refine v_goto (pc := 93) 127 O dX12_compute_93 (by decide) ?_
            refine v_sub [] rfl ?_
            exact w_X12_compute_b127 O hm hn hz p21 h
          · have h := (if_pos c19).symm.trans h
            refine v_aload_n (pc := 78) O dX12_compute_78 2 rfl ?_
            refine v_iconst (pc := 79) O dX12_compute_79 ic_1 ?_
            refine v_putI (pc := 80) (a := 207) O pf_X12_84 fl_X12_475 kq_207 dX12_compute_80 ?_
            refine v_goto (pc := 83) 127 O dX12_compute_83 (by decide) ?_
            refine v_sub [] rfl ?_
            exact w_X12_compute_b127 O hm hn hz (sI p7.2 207 84 1) h
        · have h := (if_neg c18).symm.trans h
          by_cases c23 : x1 = (9 : Int32)
          · have h := (if_pos c23).symm.trans h
            refine v_tableIn (pc := 11) 96 O dX12_compute_11 (by rw [c23]; decide) (by rw [c23]; decide) (by rw [c23]; rfl) (by decide) ?_
            refine v_aload_n (pc := 96) O dX12_compute_96 2 rfl ?_
            refine v_iload_n (pc := 97) O dX12_compute_97 0 rfl ?_
            refine v_iload_n (pc := 98) O dX12_compute_98 1 rfl ?_
            refine v_icmpge (pc := 99) 106 O dX12_compute_99 (by decide) (fun c24 => ?_) (fun c24 => ?_)
            · have h := (if_pos c24).symm.trans h
              refine v_iconst (pc := 106) O dX12_compute_106 ic_0 ?_
              refine v_sub [] rfl ?_
              exact w_X12_compute_b107 O hm hn hz 0 p7.2 h
            · have h := (if_neg c24).symm.trans h
              refine v_iconst (pc := 102) O dX12_compute_102 ic_1 ?_
              refine v_goto (pc := 103) 107 O dX12_compute_103 (by decide) ?_
              refine v_sub [] rfl ?_
              exact w_X12_compute_b107 O hm hn hz 1 p7.2 h
          · have h := (if_neg c23).symm.trans h
            refine v_tableOut (pc := 11) 113 O dX12_compute_11 (by have c9i := ne_i (5) rfl c9; have c12i := ne_i (6) rfl c12; have c15i := ne_i (7) rfl c15; have c18i := ne_i (8) rfl c18; have c23i := ne_i (9) rfl c23; omega) (by decide) ?_
            refine v_aload_n (pc := 113) O dX12_compute_113 2 rfl ?_
            refine v_iload_n (pc := 114) O dX12_compute_114 0 rfl ?_
            refine v_iload_n (pc := 115) O dX12_compute_115 1 rfl ?_
            refine v_icmpne (pc := 116) 123 O dX12_compute_116 (by decide) (fun c25 => ?_) (fun c25 => ?_)
            · have h := (if_neg c25).symm.trans h
              refine v_iconst (pc := 123) O dX12_compute_123 ic_0 ?_
              refine v_sub [] rfl ?_
              exact w_X12_compute_b124 O hm hn hz 0 p7.2 h
            · have h := (if_pos c25).symm.trans h
              refine v_iconst (pc := 119) O dX12_compute_119 ic_1 ?_
              refine v_goto (pc := 120) 124 O dX12_compute_120 (by decide) ?_
              refine v_sub [] rfl ?_
              exact w_X12_compute_b124 O hm hn hz 1 p7.2 h
theorem c_X12_compute {l : Launch} {w : Wx} {n nu c u : Nat} {K : Nat → Nat} (hm : wlm w = true) {x1 : Int32} {D : Dat} {z : Dat} (h : f_X12_compute x1 D = some z) : C0 l w yX12_compute cX12_compute 4 none 1 21 [.ref (wb w + pp 207), .int x1] n (Ax nu K c u) D none z :=
  C0.of (by decide) (Nat.le_of_ble_eq_true rfl) (fun X e1 e2 e3 hz O => by
  subst e1
  subst e2
  exact w_X12_compute O hm e3 hz x1 D h)
def f_X12_perform_b222 (D : Dat) : Option (Dat) :=
  some D
set_option maxHeartbeats 4000000 in
theorem w_X12_perform_b222 {X : Cx} {n nu c u : Nat} {K : Nat → Nat} {z : Dat} (O : Ok X cX12_perform RX12 none 2 44) (hm : wlm (xw X) = true) (hn : xn X = 5) (hz : Z0 X (Ax nu K c u)) (D : Dat) (h : f_X12_perform_b222 D = some z) : V X (Q0 X n (Ax nu K c u) none z) n (Ax nu K c u) D 222 [] [] := by
  unfold f_X12_perform_b222 at h
  obtain rfl := Option.some.inj h
  exact v_ret (pc := 222) O hz dX12_perform_222
def f_X12_perform_b217 (x1 : Int32) (D : Dat) : Option (Dat) :=
  (f_X12_compute x1 D).bind (fun p1 => f_X12_perform_b222 p1)
set_option maxHeartbeats 4000000 in
theorem w_X12_perform_b217 {X : Cx} {n nu c u : Nat} {K : Nat → Nat} {z : Dat} (O : Ok X cX12_perform RX12 none 2 44) (hm : wlm (xw X) = true) (hn : xn X = 5) (hz : Z0 X (Ax nu K c u)) (x1 : Int32) (D : Dat) (h : f_X12_perform_b217 x1 D = some z) : V X (Q0 X n (Ax nu K c u) none z) n (Ax nu K c u) D 217 [(0, .ref (bo X + pp 207)), (1, .int x1)] [] := by
  unfold f_X12_perform_b217 at h
  refine v_aload_n (pc := 217) O dX12_perform_217 0 rfl ?_
  refine v_iload_n (pc := 218) O dX12_perform_218 1 rfl ?_
  obtain ⟨p1, e2, h⟩ := bind_some h
  refine v_callV (pc := 219) (a := 207) (As := [.int x1]) (rest := []) (r := none) (D' := p1) O (bb0 hz) (c_X12_compute hm e2) mw_X12_compute im_X12_compute se_X12_compute ml_X12_490 kq_207 (by decide) rfl rfl rfl (by decide) (by decide) (Nat.le_of_ble_eq_true rfl) dX12_perform_219 rfl rfl ?_
  refine v_sub [] rfl ?_
  exact w_X12_perform_b222 O hm hn hz p1 h
def f_X12_perform (x1 : Int32) (x2 : Int32) (D : Dat) : Option (Dat) :=
  (if x1 = (0 : Int32) then ((f_X12_give x2 D).bind (fun p4 => f_X12_perform_b222 p4)) else (if x1 = (1 : Int32) then (if x2 < 0 ∨ 26 ≤ (x2).toNatClampNeg then none else ((f_X12_give (dI D 259 (x2).toNatClampNeg) D).bind (fun p8 => f_X12_perform_b222 p8))) else (if x1 = (2 : Int32) then ((f_X12_pop D).bind (fun p11 => if x2 < 0 ∨ 26 ≤ (x2).toNatClampNeg then none else (f_X12_perform_b222 (sI p11.2 259 (x2).toNatClampNeg p11.1)))) else (if x1 = (3 : Int32) then ((f_X12_pop D).bind (fun p15 => (f_X12_out p15.1 8 p15.2).bind (fun p17 => if p17.1 = 0 then (if (((8 : Int32) * x2) + p15.1) < 0 ∨ 208 ≤ ((((8 : Int32) * x2) + p15.1)).toNatClampNeg then none else ((f_X12_give (dI p17.2 260 (((8 : Int32) * x2) + p15.1).toNatClampNeg) p17.2).bind (fun p21 => f_X12_perform_b222 p21))) else (f_X12_perform_b222 (sI p17.2 207 84 2))))) else (if x1 = (4 : Int32) then ((f_X12_pop D).bind (fun p24 => (f_X12_pop p24.2).bind (fun p26 => (f_X12_out p26.1 8 p26.2).bind (fun p28 => if p28.1 = 0 then (if (((8 : Int32) * x2) + p26.1) < 0 ∨ 208 ≤ ((((8 : Int32) * x2) + p26.1)).toNatClampNeg then none else (f_X12_perform_b222 (sI p28.2 260 (((8 : Int32) * x2) + p26.1).toNatClampNeg p24.1))) else (f_X12_perform_b222 (sI p28.2 207 84 2)))))) else (if x1 = (13 : Int32) then ((f_X12_input x2 D).bind (fun p33 => (f_X12_give p33.1 p33.2).bind (fun p35 => f_X12_perform_b222 p35))) else (if x1 = (14 : Int32) then ((f_X12_write x2 D).bind (fun p38 => f_X12_perform_b222 p38)) else (f_X12_perform_b217 x1 D))))))))
set_option maxHeartbeats 4000000 in
theorem w_X12_perform {X : Cx} {n nu c u : Nat} {K : Nat → Nat} {z : Dat} (O : Ok X cX12_perform RX12 none 2 44) (hm : wlm (xw X) = true) (hn : xn X = 5) (hz : Z0 X (Ax nu K c u)) (x1 : Int32) (x2 : Int32) (D : Dat) (h : f_X12_perform x1 x2 D = some z) : V X (Q0 X n (Ax nu K c u) none z) n (Ax nu K c u) D 0 [(0, .ref (bo X + pp 207)), (1, .int x1), (2, .int x2)] [] := by
  unfold f_X12_perform at h
  refine v_iconst (pc := 0) O dX12_perform_0 ic_0 ?_
  refine v_istore_n (pc := 1) (lv' := [(3, .int 0), (0, .ref (bo X + pp 207)), (1, .int x1), (2, .int x2)]) O dX12_perform_1 rfl (by rw [hn]; decide) rfl ?_
  refine v_iload_n (pc := 2) O dX12_perform_2 2 rfl ?_
  by_cases c3 : x1 = (0 : Int32)
  · have h := (if_pos c3).symm.trans h
    refine v_tableIn (pc := 3) 76 O dX12_perform_3 (by rw [c3]; decide) (by rw [c3]; decide) (by rw [c3]; rfl) (by decide) ?_
    refine v_aload_n (pc := 76) O dX12_perform_76 1 rfl ?_
    refine v_iload_n (pc := 77) O dX12_perform_77 3 rfl ?_
    obtain ⟨p4, e5, h⟩ := bind_some h
    refine v_callV (pc := 78) (a := 207) (As := [.int x2]) (rest := []) (r := none) (D' := p4) O (bb0 hz) (c_X12_give hm e5) mw_X12_give im_X12_give se_X12_give ml_X12_481 kq_207 (by decide) rfl rfl rfl (by decide) (by decide) (Nat.le_of_ble_eq_true rfl) dX12_perform_78 rfl rfl ?_
    refine v_goto (pc := 81) 222 O dX12_perform_81 (by decide) ?_
    refine v_sub [] rfl ?_
    exact w_X12_perform_b222 O hm hn hz p4 h
  · have h := (if_neg c3).symm.trans h
    by_cases c6 : x1 = (1 : Int32)
    · have h := (if_pos c6).symm.trans h
      refine v_tableIn (pc := 3) 84 O dX12_perform_3 (by rw [c6]; decide) (by rw [c6]; decide) (by rw [c6]; rfl) (by decide) ?_
      refine v_aload_n (pc := 84) O dX12_perform_84 1 rfl ?_
      refine v_aload_n (pc := 85) O dX12_perform_85 1 rfl ?_
      refine v_getK (pc := 86) (a := 207) O hm gf_X12_79 fl_X12_171 kq_207 lk_207_79 dX12_perform_86 ?_
      refine v_iload_n (pc := 89) O dX12_perform_89 3 rfl ?_
      obtain ⟨c7, h⟩ := or_none h
      refine v_iald (pc := 90) (a := 259) O kq_259 (inq lq_259 c7) dX12_perform_90 ?_
      obtain ⟨p8, e9, h⟩ := bind_some h
      refine v_callV (pc := 91) (a := 207) (As := [.int (dI D 259 (x2).toNatClampNeg)]) (rest := []) (r := none) (D' := p8) O (bb0 hz) (c_X12_give hm e9) mw_X12_give im_X12_give se_X12_give ml_X12_481 kq_207 (by decide) rfl rfl rfl (by decide) (by decide) (Nat.le_of_ble_eq_true rfl) dX12_perform_91 rfl rfl ?_
      refine v_goto (pc := 94) 222 O dX12_perform_94 (by decide) ?_
      refine v_sub [] rfl ?_
      exact w_X12_perform_b222 O hm hn hz p8 h
    · have h := (if_neg c6).symm.trans h
      by_cases c10 : x1 = (2 : Int32)
      · have h := (if_pos c10).symm.trans h
        refine v_tableIn (pc := 3) 97 O dX12_perform_3 (by rw [c10]; decide) (by rw [c10]; decide) (by rw [c10]; rfl) (by decide) ?_
        refine v_aload_n (pc := 97) O dX12_perform_97 1 rfl ?_
        refine v_getK (pc := 98) (a := 207) O hm gf_X12_79 fl_X12_171 kq_207 lk_207_79 dX12_perform_98 ?_
        refine v_iload_n (pc := 101) O dX12_perform_101 3 rfl ?_
        refine v_aload_n (pc := 102) O dX12_perform_102 1 rfl ?_
        obtain ⟨p11, e12, h⟩ := bind_some h
        refine v_callV (pc := 103) (a := 207) (As := []) (rest := [.int x2, .ref (bo X + pp 259)]) (r := (some (.int p11.1))) (D' := p11.2) O (bb0 hz) (c_X12_pop hm e12) mw_X12_pop im_X12_pop se_X12_pop ml_X12_478 kq_207 (by decide) rfl rfl rfl (by decide) (by decide) (Nat.le_of_ble_eq_true rfl) dX12_perform_103 rfl rfl ?_
        obtain ⟨c13, h⟩ := or_none h
        refine v_iast (pc := 106) (a := 259) O kq_259 (inq lq_259 c13) dX12_perform_106 ?_
        refine v_goto (pc := 107) 222 O dX12_perform_107 (by decide) ?_
        refine v_sub [] rfl ?_
        exact w_X12_perform_b222 O hm hn hz (sI p11.2 259 (x2).toNatClampNeg p11.1) h
      · have h := (if_neg c10).symm.trans h
        by_cases c14 : x1 = (3 : Int32)
        · have h := (if_pos c14).symm.trans h
          refine v_tableIn (pc := 3) 110 O dX12_perform_3 (by rw [c14]; decide) (by rw [c14]; decide) (by rw [c14]; rfl) (by decide) ?_
          refine v_aload_n (pc := 110) O dX12_perform_110 1 rfl ?_
          obtain ⟨p15, e16, h⟩ := bind_some h
          refine v_callV (pc := 111) (a := 207) (As := []) (rest := []) (r := (some (.int p15.1))) (D' := p15.2) O (bb0 hz) (c_X12_pop hm e16) mw_X12_pop im_X12_pop se_X12_pop ml_X12_478 kq_207 (by decide) rfl rfl rfl (by decide) (by decide) (Nat.le_of_ble_eq_true rfl) dX12_perform_111 rfl rfl ?_
          refine v_istore_n (pc := 114) (lv' := [(3, .int p15.1), (0, .ref (bo X + pp 207)), (1, .int x1), (2, .int x2)]) O dX12_perform_114 rfl (by rw [hn]; decide) rfl ?_
          refine v_aload_n (pc := 115) O dX12_perform_115 1 rfl ?_
          refine v_iload_n (pc := 116) O dX12_perform_116 0 rfl ?_
          refine v_bipush (pc := 117) O dX12_perform_117 bp_8 ?_
          obtain ⟨p17, e18, h⟩ := bind_some h
          refine v_callV (pc := 119) (a := 207) (As := [.int p15.1, .int 8]) (rest := []) (r := (some (.int p17.1))) (D' := p17.2) O (bb0 hz) (c_X12_out hm e18) mw_X12_out im_X12_out se_X12_out ml_X12_186 kq_207 (by decide) rfl rfl rfl (by decide) (by decide) (Nat.le_of_ble_eq_true rfl) dX12_perform_119 rfl rfl ?_
          refine v_ifeq (pc := 122) 133 O dX12_perform_122 (by decide) (fun c19 => ?_) (fun c19 => ?_)
          · have h := (if_pos c19).symm.trans h
            refine v_aload_n (pc := 133) O dX12_perform_133 1 rfl ?_
            refine v_aload_n (pc := 134) O dX12_perform_134 1 rfl ?_
            refine v_getK (pc := 135) (a := 207) O hm gf_X12_80 fl_X12_174 kq_207 lk_207_80 dX12_perform_135 ?_
            refine v_bipush (pc := 138) O dX12_perform_138 bp_8 ?_
            refine v_iload_n (pc := 140) O dX12_perform_140 3 rfl ?_
            refine v_imul (pc := 141) O dX12_perform_141 ?_
            refine v_iload_n (pc := 142) O dX12_perform_142 0 rfl ?_
            refine v_iadd (pc := 143) O dX12_perform_143 ?_
            obtain ⟨c20, h⟩ := or_none h
            refine v_iald (pc := 144) (a := 260) O kq_260 (inq lq_260 c20) dX12_perform_144 ?_
            obtain ⟨p21, e22, h⟩ := bind_some h
            refine v_callV (pc := 145) (a := 207) (As := [.int (dI p17.2 260 (((8 : Int32) * x2) + p15.1).toNatClampNeg)]) (rest := []) (r := none) (D' := p21) O (bb0 hz) (c_X12_give hm e22) mw_X12_give im_X12_give se_X12_give ml_X12_481 kq_207 (by decide) rfl rfl rfl (by decide) (by decide) (Nat.le_of_ble_eq_true rfl) dX12_perform_145 rfl rfl ?_
            refine v_goto (pc := 148) 222 O dX12_perform_148 (by decide) ?_
            refine v_sub [] rfl ?_
            exact w_X12_perform_b222 O hm hn hz p21 h
          · have h := (if_neg c19).symm.trans h
            refine v_aload_n (pc := 125) O dX12_perform_125 1 rfl ?_
            refine v_iconst (pc := 126) O dX12_perform_126 ic_2 ?_
            refine v_putI (pc := 127) (a := 207) O pf_X12_84 fl_X12_475 kq_207 dX12_perform_127 ?_
            refine v_goto (pc := 130) 222 O dX12_perform_130 (by decide) ?_
            refine v_sub [] rfl ?_
            exact w_X12_perform_b222 O hm hn hz (sI p17.2 207 84 2) h
        · have h := (if_neg c14).symm.trans h
          by_cases c23 : x1 = (4 : Int32)
          · have h := (if_pos c23).symm.trans h
            refine v_tableIn (pc := 3) 151 O dX12_perform_3 (by rw [c23]; decide) (by rw [c23]; decide) (by rw [c23]; rfl) (by decide) ?_
            refine v_aload_n (pc := 151) O dX12_perform_151 1 rfl ?_
            obtain ⟨p24, e25, h⟩ := bind_some h
            refine v_callV (pc := 152) (a := 207) (As := []) (rest := []) (r := (some (.int p24.1))) (D' := p24.2) O (bb0 hz) (c_X12_pop hm e25) mw_X12_pop im_X12_pop se_X12_pop ml_X12_478 kq_207 (by decide) rfl rfl rfl (by decide) (by decide) (Nat.le_of_ble_eq_true rfl) dX12_perform_152 rfl rfl ?_
            refine v_istore_n (pc := 155) (lv' := [(3, .int p24.1), (0, .ref (bo X + pp 207)), (1, .int x1), (2, .int x2)]) O dX12_perform_155 rfl (by rw [hn]; decide) rfl ?_
            refine v_aload_n (pc := 156) O dX12_perform_156 1 rfl ?_
            obtain ⟨p26, e27, h⟩ := bind_some h
            refine v_callV (pc := 157) (a := 207) (As := []) (rest := []) (r := (some (.int p26.1))) (D' := p26.2) O (bb0 hz) (c_X12_pop hm e27) mw_X12_pop im_X12_pop se_X12_pop ml_X12_478 kq_207 (by decide) rfl rfl rfl (by decide) (by decide) (Nat.le_of_ble_eq_true rfl) dX12_perform_157 rfl rfl ?_
            refine v_istore (pc := 160) (lv' := [(4, .int p26.1), (3, .int p24.1), (0, .ref (bo X + pp 207)), (1, .int x1), (2, .int x2)]) O dX12_perform_160 (by rw [hn]; decide) rfl ?_
            refine v_aload_n (pc := 162) O dX12_perform_162 2 rfl ?_
            refine v_iload (pc := 163) O dX12_perform_163 0 rfl ?_
            refine v_bipush (pc := 165) O dX12_perform_165 bp_8 ?_
            obtain ⟨p28, e29, h⟩ := bind_some h
            refine v_callV (pc := 167) (a := 207) (As := [.int p26.1, .int 8]) (rest := []) (r := (some (.int p28.1))) (D' := p28.2) O (bb0 hz) (c_X12_out hm e29) mw_X12_out im_X12_out se_X12_out ml_X12_186 kq_207 (by decide) rfl rfl rfl (by decide) (by decide) (Nat.le_of_ble_eq_true rfl) dX12_perform_167 rfl rfl ?_
            refine v_ifeq (pc := 170) 181 O dX12_perform_170 (by decide) (fun c30 => ?_) (fun c30 => ?_)
            · have h := (if_pos c30).symm.trans h
              refine v_aload_n (pc := 181) O dX12_perform_181 2 rfl ?_
              refine v_getK (pc := 182) (a := 207) O hm gf_X12_80 fl_X12_174 kq_207 lk_207_80 dX12_perform_182 ?_
              refine v_bipush (pc := 185) O dX12_perform_185 bp_8 ?_
              refine v_iload_n (pc := 187) O dX12_perform_187 4 rfl ?_
              refine v_imul (pc := 188) O dX12_perform_188 ?_
              refine v_iload (pc := 189) O dX12_perform_189 0 rfl ?_
              refine v_iadd (pc := 191) O dX12_perform_191 ?_
              refine v_iload_n (pc := 192) O dX12_perform_192 1 rfl ?_
              obtain ⟨c31, h⟩ := or_none h
              refine v_iast (pc := 193) (a := 260) O kq_260 (inq lq_260 c31) dX12_perform_193 ?_
              refine v_goto (pc := 194) 222 O dX12_perform_194 (by decide) ?_
              refine v_sub [] rfl ?_
              exact w_X12_perform_b222 O hm hn hz (sI p28.2 260 (((8 : Int32) * x2) + p26.1).toNatClampNeg p24.1) h
            · have h := (if_neg c30).symm.trans h
              refine v_aload_n (pc := 173) O dX12_perform_173 2 rfl ?_
              refine v_iconst (pc := 174) O dX12_perform_174 ic_2 ?_
              refine v_putI (pc := 175) (a := 207) O pf_X12_84 fl_X12_475 kq_207 dX12_perform_175 ?_
              refine v_goto (pc := 178) 222 O dX12_perform_178 (by decide) ?_
              refine v_sub [] rfl ?_
              exact w_X12_perform_b222 O hm hn hz (sI p28.2 207 84 2) h
          · have h := (if_neg c23).symm.trans h
            by_cases c32 : x1 = (13 : Int32)
            · have h := (if_pos c32).symm.trans h
              refine v_tableIn (pc := 3) 197 O dX12_perform_3 (by rw [c32]; decide) (by rw [c32]; decide) (by rw [c32]; rfl) (by decide) ?_
              refine v_aload_n (pc := 197) O dX12_perform_197 1 rfl ?_
              refine v_aload_n (pc := 198) O dX12_perform_198 1 rfl ?_
              refine v_iload_n (pc := 199) O dX12_perform_199 3 rfl ?_
              obtain ⟨p33, e34, h⟩ := bind_some h
              refine v_callV (pc := 200) (a := 207) (As := [.int x2]) (rest := [.ref (bo X + pp 207)]) (r := (some (.int p33.1))) (D' := p33.2) O (bb0 hz) (c_X12_input hm e34) mw_X12_input im_X12_input se_X12_input ml_X12_484 kq_207 (by decide) rfl rfl rfl (by decide) (by decide) (Nat.le_of_ble_eq_true rfl) dX12_perform_200 rfl rfl ?_
              obtain ⟨p35, e36, h⟩ := bind_some h
              refine v_callV (pc := 203) (a := 207) (As := [.int p33.1]) (rest := []) (r := none) (D' := p35) O (bb0 hz) (c_X12_give hm e36) mw_X12_give im_X12_give se_X12_give ml_X12_481 kq_207 (by decide) rfl rfl rfl (by decide) (by decide) (Nat.le_of_ble_eq_true rfl) dX12_perform_203 rfl rfl ?_
              refine v_goto (pc := 206) 222 O dX12_perform_206 (by decide) ?_
              refine v_sub [] rfl ?_
              exact w_X12_perform_b222 O hm hn hz p35 h
            · have h := (if_neg c32).symm.trans h
              by_cases c37 : x1 = (14 : Int32)
              · have h := (if_pos c37).symm.trans h
                refine v_tableIn (pc := 3) 209 O dX12_perform_3 (by rw [c37]; decide) (by rw [c37]; decide) (by rw [c37]; rfl) (by decide) ?_
                refine v_aload_n (pc := 209) O dX12_perform_209 1 rfl ?_
                refine v_iload_n (pc := 210) O dX12_perform_210 3 rfl ?_
                obtain ⟨p38, e39, h⟩ := bind_some h
                refine v_callV (pc := 211) (a := 207) (As := [.int x2]) (rest := []) (r := none) (D' := p38) O (bb0 hz) (c_X12_write hm e39) mw_X12_write im_X12_write se_X12_write ml_X12_487 kq_207 (by decide) rfl rfl rfl (by decide) (by decide) (Nat.le_of_ble_eq_true rfl) dX12_perform_211 rfl rfl ?_
                refine v_goto (pc := 214) 222 O dX12_perform_214 (by decide) ?_
                refine v_sub [] rfl ?_
                exact w_X12_perform_b222 O hm hn hz p38 h
              · have h := (if_neg c37).symm.trans h
                refine v_table (pc := 3) 217 O dX12_perform_3 (fun g1 g2 => by
                    have c3i := ne_i (0) rfl c3
                    have c6i := ne_i (1) rfl c6
                    have c10i := ne_i (2) rfl c10
                    have c14i := ne_i (3) rfl c14
                    have c23i := ne_i (4) rfl c23
                    have c32i := ne_i (13) rfl c32
                    have c37i := ne_i (14) rfl c37
                    rcases (show x1.toInt = 5 ∨ x1.toInt = 6 ∨ x1.toInt = 7 ∨ x1.toInt = 8 ∨ x1.toInt = 9 ∨ x1.toInt = 10 ∨ x1.toInt = 11 ∨ x1.toInt = 12 by omega) with e9 | e9 | e9 | e9 | e9 | e9 | e9 | e9 <;> (rw [e9]; exact ⟨_, rfl, by decide⟩)) (by decide) ?_
                refine v_sub [1, 2] rfl ?_
                exact w_X12_perform_b217 O hm hn hz x1 D h
theorem c_X12_perform {l : Launch} {w : Wx} {n nu c u : Nat} {K : Nat → Nat} (hm : wlm w = true) {x1 : Int32} {x2 : Int32} {D : Dat} {z : Dat} (h : f_X12_perform x1 x2 D = some z) : C0 l w yX12_perform cX12_perform 5 none 2 44 [.ref (wb w + pp 207), .int x1, .int x2] n (Ax nu K c u) D none z :=
  C0.of (by decide) (Nat.le_of_ble_eq_true rfl) (fun X e1 e2 e3 hz O => by
  subst e1
  subst e2
  exact w_X12_perform O hm e3 hz x1 x2 D h)
def f_X12_run_b17 (N : Nat) (D : Dat) : Option (Int32 × Dat) :=
  (f_X12_fail 1 D).bind (fun p1 => some (p1.1, p1.2))
set_option maxHeartbeats 4000000 in
theorem w_X12_run_b17 {X : Cx} {n nu c u : Nat} {K : Nat → Nat} {N : Nat} {z : Int32 × Dat} (O : Ok X cX12_run RX12 (some .int) 3 68) (hm : wlm (xw X) = true) (hn : xn X = 5) (hz : Z0 X (Ax nu K c u)) (D : Dat) (h : f_X12_run_b17 N D = some z) : V X (Q0 X n (Ax nu K c u) (some (.int z.1)) z.2) n (Ax nu K c u) D 17 [(0, .ref (bo X + pp 207))] [] := by
  unfold f_X12_run_b17 at h
  refine v_aload_n (pc := 17) O dX12_run_17 0 rfl ?_
  refine v_iconst (pc := 18) O dX12_run_18 ic_1 ?_
  obtain ⟨p1, e2, h⟩ := bind_some h
  refine v_callV (pc := 19) (a := 207) (As := [.int 1]) (rest := []) (r := (some (.int p1.1))) (D' := p1.2) O (bb0 hz) (c_X12_fail hm e2) mw_X12_fail im_X12_fail se_X12_fail ml_X12_190 kq_207 (by decide) rfl rfl rfl (by decide) (by decide) (Nat.le_of_ble_eq_true rfl) dX12_run_19 rfl rfl ?_
  obtain rfl := Option.some.inj h
  exact v_iret (pc := 22) O hz dX12_run_22
def f_X12_run_b145 (N : Nat) (rec_42 : Int32 → Int32 → Dat → Option (Int32 × Dat)) (x1 : Int32) (x2 : Int32) (D : Dat) : Option (Int32 × Dat) :=
  rec_42 x1 x2 D
set_option maxHeartbeats 4000000 in
theorem w_X12_run_b145 {X : Cx} {n nu c u : Nat} {K : Nat → Nat} {N : Nat} {rec_42 : Int32 → Int32 → Dat → Option (Int32 × Dat)} {z : Int32 × Dat} (O : Ok X cX12_run RX12 (some .int) 3 68) (hm : wlm (xw X) = true) (hn : xn X = 5) (hz : Z0 X (Ax nu K c u)) (hrec_42 : ∀ (x1 : Int32) (x2 : Int32) (D : Dat), rec_42 x1 x2 D = some z → V X (Q0 X n (Ax nu K c u) (some (.int z.1)) z.2) n (Ax nu K c u) D 42 [(0, .ref (bo X + pp 207)), (1, .int x1), (2, .int x2)] []) (x1 : Int32) (x2 : Int32) (D : Dat) (h : f_X12_run_b145 N rec_42 x1 x2 D = some z) : V X (Q0 X n (Ax nu K c u) (some (.int z.1)) z.2) n (Ax nu K c u) D 145 [(0, .ref (bo X + pp 207)), (1, .int x1), (2, .int x2)] [] := by
  unfold f_X12_run_b145 at h
  refine v_goto (pc := 145) 42 O dX12_run_145 (by decide) ?_
  refine v_sub [0, 1, 2] rfl ?_
  exact hrec_42 x1 x2 D h
def f_X12_run_b148 (N : Nat) (D : Dat) : Option (Int32 × Dat) :=
  some ((dI D 207 84), D)
set_option maxHeartbeats 4000000 in
theorem w_X12_run_b148 {X : Cx} {n nu c u : Nat} {K : Nat → Nat} {N : Nat} {z : Int32 × Dat} (O : Ok X cX12_run RX12 (some .int) 3 68) (hm : wlm (xw X) = true) (hn : xn X = 5) (hz : Z0 X (Ax nu K c u)) (D : Dat) (h : f_X12_run_b148 N D = some z) : V X (Q0 X n (Ax nu K c u) (some (.int z.1)) z.2) n (Ax nu K c u) D 148 [(0, .ref (bo X + pp 207))] [] := by
  unfold f_X12_run_b148 at h
  refine v_aload_n (pc := 148) O dX12_run_148 0 rfl ?_
  refine v_getI (pc := 149) (a := 207) O gf_X12_84 fl_X12_475 kq_207 dX12_run_149 ?_
  obtain rfl := Option.some.inj h
  exact v_iret (pc := 152) O hz dX12_run_152
def f_X12_run_b42 (N : Nat) : Nat → Int32 → Int32 → Dat → Option (Int32 × Dat)
  | 0, _, _, _ => none
  | g + 1, x1, x2, D => if 0 ≤ (dI D 207 84) then (f_X12_run_b148 N D) else (if (dI D 207 83) = x1 then (f_X12_run_b148 N (sI D 207 84 3)) else (if x2 < 0 ∨ 64 ≤ (x2).toNatClampNeg then none else (if x2 < 0 ∨ 64 ≤ (x2).toNatClampNeg then none else (if (dI (sI D 207 83 ((dI D 207 83) + (1 : Int32))) 212 (x2).toNatClampNeg) = 15 then (f_X12_run_b145 N (f_X12_run_b42 N g) x1 (x2 + 1) (sI (sI D 207 83 ((dI D 207 83) + (1 : Int32))) 207 84 0)) else (if (dI (sI D 207 83 ((dI D 207 83) + (1 : Int32))) 212 (x2).toNatClampNeg) = 12 then (f_X12_run_b145 N (f_X12_run_b42 N g) x1 (dI (sI D 207 83 ((dI D 207 83) + (1 : Int32))) 213 (x2).toNatClampNeg) (sI D 207 83 ((dI D 207 83) + (1 : Int32)))) else (if (dI (sI D 207 83 ((dI D 207 83) + (1 : Int32))) 212 (x2).toNatClampNeg) = 11 then ((f_X12_pop (sI D 207 83 ((dI D 207 83) + (1 : Int32)))).bind (fun p10 => if p10.1 = 0 then (f_X12_run_b145 N (f_X12_run_b42 N g) x1 (dI (sI D 207 83 ((dI D 207 83) + (1 : Int32))) 213 (x2).toNatClampNeg) p10.2) else (f_X12_run_b145 N (f_X12_run_b42 N g) x1 (x2 + 1) p10.2))) else ((f_X12_perform (dI (sI D 207 83 ((dI D 207 83) + (1 : Int32))) 212 (x2).toNatClampNeg) (dI (sI D 207 83 ((dI D 207 83) + (1 : Int32))) 213 (x2).toNatClampNeg) (sI D 207 83 ((dI D 207 83) + (1 : Int32)))).bind (fun p13 => f_X12_run_b145 N (f_X12_run_b42 N g) x1 (x2 + 1) p13))))))))
set_option maxHeartbeats 4000000 in
theorem w_X12_run_b42 {X : Cx} {n nu c u : Nat} {K : Nat → Nat} {N : Nat} {z : Int32 × Dat} (O : Ok X cX12_run RX12 (some .int) 3 68) (hm : wlm (xw X) = true) (hn : xn X = 5) (hz : Z0 X (Ax nu K c u)) : ∀ (g : Nat) (x1 : Int32) (x2 : Int32) (D : Dat), f_X12_run_b42 N g x1 x2 D = some z → V X (Q0 X n (Ax nu K c u) (some (.int z.1)) z.2) n (Ax nu K c u) D 42 [(0, .ref (bo X + pp 207)), (1, .int x1), (2, .int x2)] [] := by
  intro g
  induction g with
  | zero => intro x1 x2 D h; exact absurd h (by simp [f_X12_run_b42])
  | succ g ih =>
    intro x1 x2 D h
    rw [f_X12_run_b42] at h
    refine v_aload_n (pc := 42) O dX12_run_42 0 rfl ?_
    refine v_getI (pc := 43) (a := 207) O gf_X12_84 fl_X12_475 kq_207 dX12_run_43 ?_
    refine v_ifge (pc := 46) 148 O dX12_run_46 (by decide) (fun c3 => ?_) (fun c3 => ?_)
    · have h := (if_pos c3).symm.trans h
      refine v_sub [0] rfl ?_
      exact w_X12_run_b148 O hm hn hz D h
    · have h := (if_neg c3).symm.trans h
      refine v_aload_n (pc := 49) O dX12_run_49 0 rfl ?_
      refine v_getI (pc := 50) (a := 207) O gf_X12_83 fl_X12_472 kq_207 dX12_run_50 ?_
      refine v_iload_n (pc := 53) O dX12_run_53 1 rfl ?_
      refine v_icmpne (pc := 54) 65 O dX12_run_54 (by decide) (fun c4 => ?_) (fun c4 => ?_)
      · have h := (if_neg c4).symm.trans h
        refine v_aload_n (pc := 65) O dX12_run_65 0 rfl ?_
        refine v_dup (pc := 66) O dX12_run_66 rfl ?_
        refine v_getI (pc := 67) (a := 207) O gf_X12_83 fl_X12_472 kq_207 dX12_run_67 ?_
        refine v_iconst (pc := 70) O dX12_run_70 ic_1 ?_
        refine v_iadd (pc := 71) O dX12_run_71 ?_
        refine v_putI (pc := 72) (a := 207) O pf_X12_83 fl_X12_472 kq_207 dX12_run_72 ?_
        refine v_aload_n (pc := 75) O dX12_run_75 0 rfl ?_
        refine v_getK (pc := 76) (a := 207) O hm gf_X12_11 fl_X12_30 kq_207 lk_207_11 dX12_run_76 ?_
        refine v_iload_n (pc := 79) O dX12_run_79 2 rfl ?_
        obtain ⟨c5, h⟩ := or_none h
        refine v_iald (pc := 80) (a := 212) O kq_212 (inq lq_212 c5) dX12_run_80 ?_
        refine v_istore_n (pc := 81) (lv' := [(3, .int (dI (sI D 207 83 ((dI D 207 83) + (1 : Int32))) 212 (x2).toNatClampNeg)), (0, .ref (bo X + pp 207)), (1, .int x1), (2, .int x2)]) O dX12_run_81 rfl (by rw [hn]; decide) rfl ?_
        refine v_aload_n (pc := 82) O dX12_run_82 1 rfl ?_
        refine v_getK (pc := 83) (a := 207) O hm gf_X12_12 fl_X12_33 kq_207 lk_207_12 dX12_run_83 ?_
        refine v_iload_n (pc := 86) O dX12_run_86 3 rfl ?_
        obtain ⟨c6, h⟩ := or_none h
        refine v_iald (pc := 87) (a := 213) O kq_213 (inq lq_213 c6) dX12_run_87 ?_
        refine v_istore (pc := 88) (lv' := [(4, .int (dI (sI D 207 83 ((dI D 207 83) + (1 : Int32))) 213 (x2).toNatClampNeg)), (3, .int (dI (sI D 207 83 ((dI D 207 83) + (1 : Int32))) 212 (x2).toNatClampNeg)), (0, .ref (bo X + pp 207)), (1, .int x1), (2, .int x2)]) O dX12_run_88 (by rw [hn]; decide) rfl ?_
        refine v_iinc (pc := 90) (lv' := [(2, .int (x2 + 1)), (4, .int (dI (sI D 207 83 ((dI D 207 83) + (1 : Int32))) 213 (x2).toNatClampNeg)), (3, .int (dI (sI D 207 83 ((dI D 207 83) + (1 : Int32))) 212 (x2).toNatClampNeg)), (0, .ref (bo X + pp 207)), (1, .int x1)]) O dX12_run_90 4 rfl (congrArg (fun q => x2 + q) ic_1) (by rw [hn]; decide) rfl ?_
        refine v_iload_n (pc := 93) O dX12_run_93 2 rfl ?_
        refine v_bipush (pc := 94) O dX12_run_94 bp_15 ?_
        refine v_icmpne (pc := 96) 107 O dX12_run_96 (by decide) (fun c7 => ?_) (fun c7 => ?_)
        · have h := (if_neg c7).symm.trans h
          refine v_iload_n (pc := 107) O dX12_run_107 2 rfl ?_
          refine v_bipush (pc := 108) O dX12_run_108 bp_12 ?_
          refine v_icmpne (pc := 110) 119 O dX12_run_110 (by decide) (fun c8 => ?_) (fun c8 => ?_)
          · have h := (if_neg c8).symm.trans h
            refine v_iload_n (pc := 119) O dX12_run_119 2 rfl ?_
            refine v_bipush (pc := 120) O dX12_run_120 bp_11 ?_
            refine v_icmpeq (pc := 122) 135 O dX12_run_122 (by decide) (fun c9 => ?_) (fun c9 => ?_)
            · have h := (if_pos c9).symm.trans h
              refine v_aload_n (pc := 135) O dX12_run_135 3 rfl ?_
              obtain ⟨p10, e11, h⟩ := bind_some h
              refine v_callV (pc := 136) (a := 207) (As := []) (rest := []) (r := (some (.int p10.1))) (D' := p10.2) O (bb0 hz) (c_X12_pop hm e11) mw_X12_pop im_X12_pop se_X12_pop ml_X12_478 kq_207 (by decide) rfl rfl rfl (by decide) (by decide) (Nat.le_of_ble_eq_true rfl) dX12_run_136 rfl rfl ?_
              refine v_ifne (pc := 139) 145 O dX12_run_139 (by decide) (fun c12 => ?_) (fun c12 => ?_)
              · have h := (if_neg c12).symm.trans h
                refine v_sub [3, 4, 0] rfl ?_
                exact w_X12_run_b145 O hm hn hz ih x1 (x2 + 1) p10.2 h
              · have h := (if_pos c12).symm.trans h
                refine v_iload (pc := 142) O dX12_run_142 1 rfl ?_
                refine v_istore_n (pc := 144) (lv' := [(2, .int (dI (sI D 207 83 ((dI D 207 83) + (1 : Int32))) 213 (x2).toNatClampNeg)), (4, .int (dI (sI D 207 83 ((dI D 207 83) + (1 : Int32))) 213 (x2).toNatClampNeg)), (3, .int (dI (sI D 207 83 ((dI D 207 83) + (1 : Int32))) 212 (x2).toNatClampNeg)), (0, .ref (bo X + pp 207)), (1, .int x1)]) O dX12_run_144 rfl (by rw [hn]; decide) rfl ?_
                refine v_sub [3, 4, 0] rfl ?_
                exact w_X12_run_b145 O hm hn hz ih x1 (dI (sI D 207 83 ((dI D 207 83) + (1 : Int32))) 213 (x2).toNatClampNeg) p10.2 h
            · have h := (if_neg c9).symm.trans h
              refine v_aload_n (pc := 125) O dX12_run_125 3 rfl ?_
              refine v_iload_n (pc := 126) O dX12_run_126 2 rfl ?_
              refine v_iload (pc := 127) O dX12_run_127 1 rfl ?_
              obtain ⟨p13, e14, h⟩ := bind_some h
              refine v_callV (pc := 129) (a := 207) (As := [.int (dI (sI D 207 83 ((dI D 207 83) + (1 : Int32))) 212 (x2).toNatClampNeg), .int (dI (sI D 207 83 ((dI D 207 83) + (1 : Int32))) 213 (x2).toNatClampNeg)]) (rest := []) (r := none) (D' := p13) O (bb0 hz) (c_X12_perform hm e14) mw_X12_perform im_X12_perform se_X12_perform ml_X12_496 kq_207 (by decide) rfl rfl rfl (by decide) (by decide) (Nat.le_of_ble_eq_true rfl) dX12_run_129 rfl rfl ?_
              refine v_goto (pc := 132) 145 O dX12_run_132 (by decide) ?_
              refine v_sub [3, 4, 0] rfl ?_
              exact w_X12_run_b145 O hm hn hz ih x1 (x2 + 1) p13 h
          · have h := (if_pos c8).symm.trans h
            refine v_iload (pc := 113) O dX12_run_113 1 rfl ?_
            refine v_istore_n (pc := 115) (lv' := [(2, .int (dI (sI D 207 83 ((dI D 207 83) + (1 : Int32))) 213 (x2).toNatClampNeg)), (4, .int (dI (sI D 207 83 ((dI D 207 83) + (1 : Int32))) 213 (x2).toNatClampNeg)), (3, .int (dI (sI D 207 83 ((dI D 207 83) + (1 : Int32))) 212 (x2).toNatClampNeg)), (0, .ref (bo X + pp 207)), (1, .int x1)]) O dX12_run_115 rfl (by rw [hn]; decide) rfl ?_
            refine v_goto (pc := 116) 145 O dX12_run_116 (by decide) ?_
            refine v_sub [3, 4, 0] rfl ?_
            exact w_X12_run_b145 O hm hn hz ih x1 (dI (sI D 207 83 ((dI D 207 83) + (1 : Int32))) 213 (x2).toNatClampNeg) (sI D 207 83 ((dI D 207 83) + (1 : Int32))) h
        · have h := (if_pos c7).symm.trans h
          refine v_aload_n (pc := 99) O dX12_run_99 3 rfl ?_
          refine v_iconst (pc := 100) O dX12_run_100 ic_0 ?_
          refine v_putI (pc := 101) (a := 207) O pf_X12_84 fl_X12_475 kq_207 dX12_run_101 ?_
          refine v_goto (pc := 104) 145 O dX12_run_104 (by decide) ?_
          refine v_sub [3, 4, 0] rfl ?_
          exact w_X12_run_b145 O hm hn hz ih x1 (x2 + 1) (sI (sI D 207 83 ((dI D 207 83) + (1 : Int32))) 207 84 0) h
      · have h := (if_pos c4).symm.trans h
        refine v_aload_n (pc := 57) O dX12_run_57 0 rfl ?_
        refine v_iconst (pc := 58) O dX12_run_58 ic_3 ?_
        refine v_putI (pc := 59) (a := 207) O pf_X12_84 fl_X12_475 kq_207 dX12_run_59 ?_
        refine v_goto (pc := 62) 148 O dX12_run_62 (by decide) ?_
        refine v_sub [0] rfl ?_
        exact w_X12_run_b148 O hm hn hz (sI D 207 84 3) h
def f_X12_run (N : Nat) (x1 : Int32) (D : Dat) : Option (Int32 × Dat) :=
  if x1 < 1 then (f_X12_run_b17 N (sI D 207 0 0)) else (if x1 ≤ 600 then (if (dI (sI D 207 0 0) 207 16) = 0 then ((f_X12_fail 2 (sI D 207 0 0)).bind (fun p20 => some (p20.1, p20.2))) else ((f_X12_begin N (sI D 207 0 0)).bind (fun p18 => f_X12_run_b42 N N x1 0 p18))) else (f_X12_run_b17 N (sI D 207 0 0)))
set_option maxHeartbeats 4000000 in
theorem w_X12_run {X : Cx} {n nu c u : Nat} {K : Nat → Nat} {N : Nat} {z : Int32 × Dat} (O : Ok X cX12_run RX12 (some .int) 3 68) (hm : wlm (xw X) = true) (hn : xn X = 5) (hz : Z0 X (Ax nu K c u)) (x1 : Int32) (D : Dat) (h : f_X12_run N x1 D = some z) : V X (Q0 X n (Ax nu K c u) (some (.int z.1)) z.2) n (Ax nu K c u) D 0 [(0, .ref (bo X + pp 207)), (1, .int x1)] [] := by
  unfold f_X12_run at h
  refine v_aload_n (pc := 0) O dX12_run_0 0 rfl ?_
  refine v_iconst (pc := 1) O dX12_run_1 ic_0 ?_
  refine v_putI (pc := 2) (a := 207) O pf_X12_0 fl_X12_183 kq_207 dX12_run_2 ?_
  refine v_iload_n (pc := 5) O dX12_run_5 1 rfl ?_
  refine v_iconst (pc := 6) O dX12_run_6 ic_1 ?_
  refine v_icmplt (pc := 7) 17 O dX12_run_7 (by decide) (fun c15 => ?_) (fun c15 => ?_)
  · have h := (if_pos c15).symm.trans h
    refine v_sub [0] rfl ?_
    exact w_X12_run_b17 O hm hn hz (sI D 207 0 0) h
  · have h := (if_neg c15).symm.trans h
    refine v_iload_n (pc := 10) O dX12_run_10 1 rfl ?_
    refine v_sipush (pc := 11) O dX12_run_11 sp_600 ?_
    refine v_icmple (pc := 14) 23 O dX12_run_14 (by decide) (fun c16 => ?_) (fun c16 => ?_)
    · have h := (if_pos c16).symm.trans h
      refine v_aload_n (pc := 23) O dX12_run_23 0 rfl ?_
      refine v_getI (pc := 24) (a := 207) O gf_X12_16 fl_X12_409 kq_207 dX12_run_24 ?_
      refine v_ifne (pc := 27) 36 O dX12_run_27 (by decide) (fun c17 => ?_) (fun c17 => ?_)
      · have h := (if_neg c17).symm.trans h
        refine v_aload_n (pc := 36) O dX12_run_36 0 rfl ?_
        obtain ⟨p18, e19, h⟩ := bind_some h
        refine v_callV (pc := 37) (a := 207) (As := []) (rest := []) (r := none) (D' := p18) O (bb0 hz) (c_X12_begin hm e19) mw_X12_begin im_X12_begin se_X12_begin ml_X12_493 kq_207 (by decide) rfl rfl rfl (by decide) (by decide) (Nat.le_of_ble_eq_true rfl) dX12_run_37 rfl rfl ?_
        refine v_iconst (pc := 40) O dX12_run_40 ic_0 ?_
        refine v_istore_n (pc := 41) (lv' := [(2, .int 0), (0, .ref (bo X + pp 207)), (1, .int x1)]) O dX12_run_41 rfl (by rw [hn]; decide) rfl ?_
        refine v_sub [1, 2, 0] rfl ?_
        exact w_X12_run_b42 O hm hn hz N x1 0 p18 h
      · have h := (if_pos c17).symm.trans h
        refine v_aload_n (pc := 30) O dX12_run_30 0 rfl ?_
        refine v_iconst (pc := 31) O dX12_run_31 ic_2 ?_
        obtain ⟨p20, e21, h⟩ := bind_some h
        refine v_callV (pc := 32) (a := 207) (As := [.int 2]) (rest := []) (r := (some (.int p20.1))) (D' := p20.2) O (bb0 hz) (c_X12_fail hm e21) mw_X12_fail im_X12_fail se_X12_fail ml_X12_190 kq_207 (by decide) rfl rfl rfl (by decide) (by decide) (Nat.le_of_ble_eq_true rfl) dX12_run_32 rfl rfl ?_
        obtain rfl := Option.some.inj h
        exact v_iret (pc := 35) O hz dX12_run_35
    · have h := (if_neg c16).symm.trans h
      refine v_sub [0] rfl ?_
      exact w_X12_run_b17 O hm hn hz (sI D 207 0 0) h
theorem c_X12_run {l : Launch} {w : Wx} {n nu c u : Nat} {K : Nat → Nat} {N : Nat} (hm : wlm w = true) {x1 : Int32} {D : Dat} {z : Int32 × Dat} (h : f_X12_run N x1 D = some z) : C0 l w yX12_run cX12_run 5 (some .int) 3 68 [.ref (wb w + pp 207), .int x1] n (Ax nu K c u) D (some (.int z.1)) z.2 :=
  C0.of (by decide) (Nat.le_of_ble_eq_true rfl) (fun X e1 e2 e3 hz O => by
  subst e1
  subst e2
  exact w_X12_run O hm e3 hz x1 D h)
def f_X12_fuelled_b38 (s0 : Int32) (D : Dat) : Option (Int32 × Dat) :=
  if s0 &&& 1 = s0 then some (s0, D) else none
set_option maxHeartbeats 4000000 in
theorem w_X12_fuelled_b38 {X : Cx} {n nu c u : Nat} {K : Nat → Nat} {z : Int32 × Dat} (O : Ok X cX12_fuelled RX12 (some .boolean) 0 0) (hm : wlm (xw X) = true) (hn : xn X = 2) (hz : Z0 X (Ax nu K c u)) (s0 : Int32) (D : Dat) (h : f_X12_fuelled_b38 s0 D = some z) : V X (Q0 X n (Ax nu K c u) (some (.int z.1)) z.2) n (Ax nu K c u) D 38 [] [.int s0] := by
  unfold f_X12_fuelled_b38 at h
  obtain ⟨c1, h⟩ := if_none h
  obtain rfl := Option.some.inj h
  exact v_zret (pc := 38) O hz (congrArg Value.int c1) dX12_fuelled_38
def f_X12_fuelled_b26 (D : Dat) : Option (Int32 × Dat) :=
  if 0 ≤ (dI D 207 84) then (f_X12_fuelled_b38 0 D) else (f_X12_fuelled_b38 1 D)
set_option maxHeartbeats 4000000 in
theorem w_X12_fuelled_b26 {X : Cx} {n nu c u : Nat} {K : Nat → Nat} {z : Int32 × Dat} (O : Ok X cX12_fuelled RX12 (some .boolean) 0 0) (hm : wlm (xw X) = true) (hn : xn X = 2) (hz : Z0 X (Ax nu K c u)) (D : Dat) (h : f_X12_fuelled_b26 D = some z) : V X (Q0 X n (Ax nu K c u) (some (.int z.1)) z.2) n (Ax nu K c u) D 26 [(0, .ref (bo X + pp 207))] [] := by
  unfold f_X12_fuelled_b26 at h
  refine v_aload_n (pc := 26) O dX12_fuelled_26 0 rfl ?_
  refine v_getI (pc := 27) (a := 207) O gf_X12_84 fl_X12_475 kq_207 dX12_fuelled_27 ?_
  refine v_ifge (pc := 30) 37 O dX12_fuelled_30 (by decide) (fun c2 => ?_) (fun c2 => ?_)
  · have h := (if_pos c2).symm.trans h
    refine v_iconst (pc := 37) O dX12_fuelled_37 ic_0 ?_
    refine v_sub [] rfl ?_
    exact w_X12_fuelled_b38 O hm hn hz 0 D h
  · have h := (if_neg c2).symm.trans h
    refine v_iconst (pc := 33) O dX12_fuelled_33 ic_1 ?_
    refine v_goto (pc := 34) 38 O dX12_fuelled_34 (by decide) ?_
    refine v_sub [] rfl ?_
    exact w_X12_fuelled_b38 O hm hn hz 1 D h
def f_X12_fuelled (x1 : Int32) (D : Dat) : Option (Int32 × Dat) :=
  if (dI D 207 83) = x1 then (f_X12_fuelled_b26 (sI D 207 84 3)) else (f_X12_fuelled_b26 (sI D 207 83 ((dI D 207 83) + (1 : Int32))))
set_option maxHeartbeats 4000000 in
theorem w_X12_fuelled {X : Cx} {n nu c u : Nat} {K : Nat → Nat} {z : Int32 × Dat} (O : Ok X cX12_fuelled RX12 (some .boolean) 0 0) (hm : wlm (xw X) = true) (hn : xn X = 2) (hz : Z0 X (Ax nu K c u)) (x1 : Int32) (D : Dat) (h : f_X12_fuelled x1 D = some z) : V X (Q0 X n (Ax nu K c u) (some (.int z.1)) z.2) n (Ax nu K c u) D 0 [(0, .ref (bo X + pp 207)), (1, .int x1)] [] := by
  unfold f_X12_fuelled at h
  refine v_aload_n (pc := 0) O dX12_fuelled_0 0 rfl ?_
  refine v_getI (pc := 1) (a := 207) O gf_X12_83 fl_X12_472 kq_207 dX12_fuelled_1 ?_
  refine v_iload_n (pc := 4) O dX12_fuelled_4 1 rfl ?_
  refine v_icmpne (pc := 5) 16 O dX12_fuelled_5 (by decide) (fun c3 => ?_) (fun c3 => ?_)
  · have h := (if_neg c3).symm.trans h
    refine v_aload_n (pc := 16) O dX12_fuelled_16 0 rfl ?_
    refine v_dup (pc := 17) O dX12_fuelled_17 rfl ?_
    refine v_getI (pc := 18) (a := 207) O gf_X12_83 fl_X12_472 kq_207 dX12_fuelled_18 ?_
    refine v_iconst (pc := 21) O dX12_fuelled_21 ic_1 ?_
    refine v_iadd (pc := 22) O dX12_fuelled_22 ?_
    refine v_putI (pc := 23) (a := 207) O pf_X12_83 fl_X12_472 kq_207 dX12_fuelled_23 ?_
    refine v_sub [0] rfl ?_
    exact w_X12_fuelled_b26 O hm hn hz (sI D 207 83 ((dI D 207 83) + (1 : Int32))) h
  · have h := (if_pos c3).symm.trans h
    refine v_aload_n (pc := 8) O dX12_fuelled_8 0 rfl ?_
    refine v_iconst (pc := 9) O dX12_fuelled_9 ic_3 ?_
    refine v_putI (pc := 10) (a := 207) O pf_X12_84 fl_X12_475 kq_207 dX12_fuelled_10 ?_
    refine v_goto (pc := 13) 26 O dX12_fuelled_13 (by decide) ?_
    refine v_sub [0] rfl ?_
    exact w_X12_fuelled_b26 O hm hn hz (sI D 207 84 3) h
theorem c_X12_fuelled {l : Launch} {w : Wx} {n nu c u : Nat} {K : Nat → Nat} (hm : wlm w = true) {x1 : Int32} {D : Dat} {z : Int32 × Dat} (h : f_X12_fuelled x1 D = some z) : C0 l w yX12_fuelled cX12_fuelled 2 (some .boolean) 0 0 [.ref (wb w + pp 207), .int x1] n (Ax nu K c u) D (some (.int z.1)) z.2 :=
  C0.of (by decide) (Nat.le_of_ble_eq_true rfl) (fun X e1 e2 e3 hz O => by
  subst e1
  subst e2
  exact w_X12_fuelled O hm e3 hz x1 D h)
