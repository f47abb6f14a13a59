theorem cw_X0_argument : Cond.code yX0_argument cX0_argument 2 (some .int) ∈ tb := tb_of 1312 (by decide +kernel) (by decide +kernel)
theorem mw_X0_argument : MW yX0_argument cX0_argument 2 (some .int) 1 := ⟨cw_X0_argument, ini_X0, by decide +kernel⟩
theorem im_X0_argument : Cond.instanceMethod yX0_argument ∈ tb := tb_of 1310 (by decide +kernel) (by decide +kernel)
theorem se_X0_argument : Cond.selects (yX0_argument).cls yX0_argument yX0_argument ∈ tb := tb_of 1311 (by decide +kernel) (by decide +kernel)
theorem cw_X0_size : Cond.code yX0_size cX0_size 1 (some .int) ∈ tb := tb_of 550 (by decide +kernel) (by decide +kernel)
theorem mw_X0_size : MW yX0_size cX0_size 1 (some .int) 0 := ⟨cw_X0_size, ini_X0, by decide +kernel⟩
theorem im_X0_size : Cond.instanceMethod yX0_size ∈ tb := tb_of 548 (by decide +kernel) (by decide +kernel)
theorem se_X0_size : Cond.selects (yX0_size).cls yX0_size yX0_size ∈ tb := tb_of 549 (by decide +kernel) (by decide +kernel)
theorem fl_X9_83 : Cond.fieldLink RX9 83 RX9 (TX9 2).2.1 (TX9 2).2.2.1 ∈ tb := tb_of 353 (by decide +kernel) (by decide +kernel)
theorem gf_X9_2 : FI 9 RX9 TX9 13 tyX9 2 2 := ⟨rfl, inb_X9, tyX9_ok, nmX9, by decide, by decide, rfl, rfl, rfl⟩
theorem fl_X9_87 : Cond.fieldLink RX9 87 RX9 (TX9 3).2.1 (TX9 3).2.2.1 ∈ tb := tb_of 354 (by decide +kernel) (by decide +kernel)
theorem gf_X9_3 : FI 9 RX9 TX9 13 tyX9 3 2 := ⟨rfl, inb_X9, tyX9_ok, nmX9, by decide, by decide, rfl, rfl, rfl⟩
theorem pf_X9_11 : PI 9 RX9 TX9 13 tyX9 11 0 .int := ⟨gf_X9_11, rfl, rfl⟩
theorem pf_X9_12 : PI 9 RX9 TX9 13 tyX9 12 0 .int := ⟨gf_X9_12, rfl, rfl⟩
theorem ml_X9_110 : Cond.methodLink RX9 110 yX0_size ∈ tb := tb_of 1304 (by decide +kernel) (by decide +kernel)
theorem ml_X9_116 : Cond.methodLink RX9 116 yX0_operation ∈ tb := tb_of 1305 (by decide +kernel) (by decide +kernel)
theorem ml_X9_119 : Cond.methodLink RX9 119 yX0_argument ∈ tb := tb_of 1309 (by decide +kernel) (by decide +kernel)
theorem fl_X9_33 : Cond.fieldLink RX9 33 RX9 (TX9 0).2.1 (TX9 0).2.2.1 ∈ tb := tb_of 351 (by decide +kernel) (by decide +kernel)
theorem gf_X9_0 : FI 9 RX9 TX9 13 tyX9 0 3 := ⟨rfl, inb_X9, tyX9_ok, nmX9, by decide, by decide, rfl, rfl, rfl⟩
theorem lk_107_0 : lks 107 0 = some 1 := by decide +kernel
theorem ml_X9_128 : Cond.methodLink RX9 128 yX2_has ∈ tb := tb_of 1317 (by decide +kernel) (by decide +kernel)
theorem ml_X9_131 : Cond.methodLink RX9 131 yX0_has ∈ tb := tb_of 1318 (by decide +kernel) (by decide +kernel)
theorem ini_X9 : Cond.initialized RX9 ∈ tb := tb_of 166 (by decide +kernel) (by decide +kernel)
theorem cw_X9_refuse : Cond.code yX9_refuse cX9_refuse 3 (some .boolean) ∈ tb := tb_of 1322 (by decide +kernel) (by decide +kernel)
theorem mw_X9_refuse : MW yX9_refuse cX9_refuse 3 (some .boolean) 2 := ⟨cw_X9_refuse, ini_X9, by decide +kernel⟩
theorem im_X9_refuse : Cond.instanceMethod yX9_refuse ∈ tb := tb_of 1321 (by decide +kernel) (by decide +kernel)
theorem se_X9_refuse : Cond.selects (yX9_refuse).cls yX9_refuse yX9_refuse ∈ tb := tb_of 51 (by decide +kernel) (by decide +kernel)
theorem ml_X9_125 : Cond.methodLink RX9 125 yX9_refuse ∈ tb := tb_of 1319 (by decide +kernel) (by decide +kernel)
theorem fl_X9_18 : Cond.fieldLink RX9 18 RX9 (TX9 4).2.1 (TX9 4).2.2.1 ∈ tb := tb_of 355 (by decide +kernel) (by decide +kernel)
theorem gf_X9_4 : FI 9 RX9 TX9 13 tyX9 4 3 := ⟨rfl, inb_X9, tyX9_ok, nmX9, by decide, by decide, rfl, rfl, rfl⟩
theorem lk_107_4 : lks 107 4 = some 113 := by decide +kernel
theorem kq_113 {nu c u : Nat} {K : Nat → Nat} : (Ax nu K c u).1 113 = 14 := kd_lt (K := K) (a := 113) (by decide) rfl
theorem lq_113 {nu c u : Nat} {K : Nat → Nat} : (Ax nu K c u).2.1 113 = 64 := rfl
theorem cw_X0_taken : Cond.code yX0_taken cX0_taken 3 (some .int) ∈ tb := tb_of 1352 (by decide +kernel) (by decide +kernel)
theorem mw_X0_taken : MW yX0_taken cX0_taken 3 (some .int) 1 := ⟨cw_X0_taken, ini_X0, by decide +kernel⟩
theorem im_X0_taken : Cond.instanceMethod yX0_taken ∈ tb := tb_of 1350 (by decide +kernel) (by decide +kernel)
theorem se_X0_taken : Cond.selects (yX0_taken).cls yX0_taken yX0_taken ∈ tb := tb_of 1351 (by decide +kernel) (by decide +kernel)
theorem ml_X9_150 : Cond.methodLink RX9 150 yX0_taken ∈ tb := tb_of 1349 (by decide +kernel) (by decide +kernel)
theorem fl_X9_22 : Cond.fieldLink RX9 22 RX9 (TX9 6).2.1 (TX9 6).2.2.1 ∈ tb := tb_of 357 (by decide +kernel) (by decide +kernel)
theorem gf_X9_6 : FI 9 RX9 TX9 13 tyX9 6 3 := ⟨rfl, inb_X9, tyX9_ok, nmX9, by decide, by decide, rfl, rfl, rfl⟩
theorem lk_107_6 : lks 107 6 = some 114 := by decide +kernel
theorem kq_114 {nu c u : Nat} {K : Nat → Nat} : (Ax nu K c u).1 114 = 14 := kd_lt (K := K) (a := 114) (by decide) rfl
theorem lq_114 {nu c u : Nat} {K : Nat → Nat} : (Ax nu K c u).2.1 114 = 64 := rfl
theorem cw_X9_heldAt : Cond.code yX9_heldAt cX9_heldAt 3 (some .int) ∈ tb := tb_of 1424 (by decide +kernel) (by decide +kernel)
theorem mw_X9_heldAt : MW yX9_heldAt cX9_heldAt 3 (some .int) 2 := ⟨cw_X9_heldAt, ini_X9, by decide +kernel⟩
theorem im_X9_heldAt : Cond.instanceMethod yX9_heldAt ∈ tb := tb_of 1423 (by decide +kernel) (by decide +kernel)
theorem se_X9_heldAt : Cond.selects (yX9_heldAt).cls yX9_heldAt yX9_heldAt ∈ tb := tb_of 63 (by decide +kernel) (by decide +kernel)
theorem ml_X9_74 : Cond.methodLink RX9 74 yX9_heldAt ∈ tb := tb_of 1421 (by decide +kernel) (by decide +kernel)
theorem cw_X9_shadeTaken : Cond.code yX9_shadeTaken cX9_shadeTaken 4 (some .int) ∈ tb := tb_of 1420 (by decide +kernel) (by decide +kernel)
theorem mw_X9_shadeTaken : MW yX9_shadeTaken cX9_shadeTaken 4 (some .int) 1 := ⟨cw_X9_shadeTaken, ini_X9, by decide +kernel⟩
theorem im_X9_shadeTaken : Cond.instanceMethod yX9_shadeTaken ∈ tb := tb_of 1419 (by decide +kernel) (by decide +kernel)
theorem se_X9_shadeTaken : Cond.selects (yX9_shadeTaken).cls yX9_shadeTaken yX9_shadeTaken ∈ tb := tb_of 62 (by decide +kernel) (by decide +kernel)
theorem ml_X9_178 : Cond.methodLink RX9 178 yX9_shadeTaken ∈ tb := tb_of 1417 (by decide +kernel) (by decide +kernel)
theorem cw_X2_fits : Cond.code yX2_fits cX2_fits 3 (some .boolean) ∈ tb := tb_of 1194 (by decide +kernel) (by decide +kernel)
theorem mw_X2_fits : MW yX2_fits cX2_fits 3 (some .boolean) 2 := ⟨cw_X2_fits, ini_X2, by decide +kernel⟩
theorem im_X2_fits : Cond.instanceMethod yX2_fits ∈ tb := tb_of 1192 (by decide +kernel) (by decide +kernel)
theorem se_X2_fits : Cond.selects (yX2_fits).cls yX2_fits yX2_fits ∈ tb := tb_of 1193 (by decide +kernel) (by decide +kernel)
theorem ml_X9_197 : Cond.methodLink RX9 197 yX2_fits ∈ tb := tb_of 1457 (by decide +kernel) (by decide +kernel)
theorem cw_X9_rowMark : Cond.code yX9_rowMark cX9_rowMark 2 (some .int) ∈ tb := tb_of 1432 (by decide +kernel) (by decide +kernel)
theorem mw_X9_rowMark : MW yX9_rowMark cX9_rowMark 2 (some .int) 1 := ⟨cw_X9_rowMark, ini_X9, by decide +kernel⟩
theorem im_X9_rowMark : Cond.instanceMethod yX9_rowMark ∈ tb := tb_of 1431 (by decide +kernel) (by decide +kernel)
theorem se_X9_rowMark : Cond.selects (yX9_rowMark).cls yX9_rowMark yX9_rowMark ∈ tb := tb_of 65 (by decide +kernel) (by decide +kernel)
theorem ml_X9_191 : Cond.methodLink RX9 191 yX9_rowMark ∈ tb := tb_of 1429 (by decide +kernel) (by decide +kernel)
theorem kq_0 {nu c u : Nat} {K : Nat → Nat} : (Ax nu K c u).1 0 = 11 := kd_lt (K := K) (a := 0) (by decide) rfl
theorem fl_X11_23 : Cond.fieldLink RX11 23 RX11 (TX11 0).2.1 (TX11 0).2.2.1 ∈ tb := tb_of 494 (by decide +kernel) (by decide +kernel)
theorem inb_X11 : ∀ w ∈ u_ws RX11 TX11 16, w ∈ tb := by decide +kernel
theorem gf_X11_0 : FI 11 RX11 TX11 16 tyX11 0 3 := ⟨rfl, inb_X11, tyX11_ok, nmX11, by decide, by decide, rfl, rfl, rfl⟩
theorem lk_0_0 : lks 0 0 = some 1 := by decide +kernel
theorem ml_X11_110 : Cond.methodLink RX11 110 yX2_has ∈ tb := tb_of 575 (by decide +kernel) (by decide +kernel)
theorem cw_X2_isSealed : Cond.code yX2_isSealed cX2_isSealed 1 (some .boolean) ∈ tb := tb_of 647 (by decide +kernel) (by decide +kernel)
theorem mw_X2_isSealed : MW yX2_isSealed cX2_isSealed 1 (some .boolean) 0 := ⟨cw_X2_isSealed, ini_X2, by decide +kernel⟩
theorem im_X2_isSealed : Cond.instanceMethod yX2_isSealed ∈ tb := tb_of 645 (by decide +kernel) (by decide +kernel)
theorem se_X2_isSealed : Cond.selects (yX2_isSealed).cls yX2_isSealed yX2_isSealed ∈ tb := tb_of 646 (by decide +kernel) (by decide +kernel)
theorem ml_X11_117 : Cond.methodLink RX11 117 yX2_isSealed ∈ tb := tb_of 644 (by decide +kernel) (by decide +kernel)
theorem cw_X2_put : Cond.code yX2_put cX2_put 5 none ∈ tb := tb_of 666 (by decide +kernel) (by decide +kernel)
theorem mw_X2_put : MW yX2_put cX2_put 5 none 2 := ⟨cw_X2_put, ini_X2, by decide +kernel⟩
theorem im_X2_put : Cond.instanceMethod yX2_put ∈ tb := tb_of 664 (by decide +kernel) (by decide +kernel)
theorem se_X2_put : Cond.selects (yX2_put).cls yX2_put yX2_put ∈ tb := tb_of 665 (by decide +kernel) (by decide +kernel)
theorem ml_X11_124 : Cond.methodLink RX11 124 yX2_put ∈ tb := tb_of 663 (by decide +kernel) (by decide +kernel)
theorem cw_X2_pairs : Cond.code yX2_pairs cX2_pairs 3 (some .int) ∈ tb := tb_of 675 (by decide +kernel) (by decide +kernel)
theorem mw_X2_pairs : MW yX2_pairs cX2_pairs 3 (some .int) 0 := ⟨cw_X2_pairs, ini_X2, by decide +kernel⟩
theorem im_X2_pairs : Cond.instanceMethod yX2_pairs ∈ tb := tb_of 673 (by decide +kernel) (by decide +kernel)
theorem se_X2_pairs : Cond.selects (yX2_pairs).cls yX2_pairs yX2_pairs ∈ tb := tb_of 674 (by decide +kernel) (by decide +kernel)
theorem ml_X11_128 : Cond.methodLink RX11 128 yX2_pairs ∈ tb := tb_of 672 (by decide +kernel) (by decide +kernel)
theorem tw_X11_121_123 : TW RX11 121 123 "java/lang/IllegalStateException" := ⟨by decide +kernel, tb_of 648 (by decide +kernel) (by decide +kernel), tb_of 178 (by decide +kernel) (by decide +kernel), by decide +kernel, by decide +kernel, by decide +kernel⟩
theorem tw_X11_114_116 : TW RX11 114 116 "java/lang/IllegalArgumentException" := ⟨by decide +kernel, tb_of 579 (by decide +kernel) (by decide +kernel), tb_of 177 (by decide +kernel) (by decide +kernel), by decide +kernel, by decide +kernel, by decide +kernel⟩
theorem tw_X11_183_185 : TW RX11 183 185 "java/util/NoSuchElementException" := ⟨by decide +kernel, tb_of 799 (by decide +kernel) (by decide +kernel), tb_of 187 (by decide +kernel) (by decide +kernel), by decide +kernel, by decide +kernel, by decide +kernel⟩
theorem fl_X11_60 : Cond.fieldLink RX11 60 RX11 (TX11 5).2.1 (TX11 5).2.2.1 ∈ tb := tb_of 499 (by decide +kernel) (by decide +kernel)
theorem gf_X11_5 : FI 11 RX11 TX11 16 tyX11 5 3 := ⟨rfl, inb_X11, tyX11_ok, nmX11, by decide, by decide, rfl, rfl, rfl⟩
theorem lk_0_5 : lks 0 5 = some 181 := by decide +kernel
theorem cw_X3_fed : Cond.code yX3_fed cX3_fed 2 (some .int) ∈ tb := tb_of 1523 (by decide +kernel) (by decide +kernel)
theorem mw_X3_fed : MW yX3_fed cX3_fed 2 (some .int) 1 := ⟨cw_X3_fed, ini_X3, by decide +kernel⟩
theorem im_X3_fed : Cond.instanceMethod yX3_fed ∈ tb := tb_of 1521 (by decide +kernel) (by decide +kernel)
theorem se_X3_fed : Cond.selects (yX3_fed).cls yX3_fed yX3_fed ∈ tb := tb_of 1522 (by decide +kernel) (by decide +kernel)
theorem ml_X11_243 : Cond.methodLink RX11 243 yX3_fed ∈ tb := tb_of 1520 (by decide +kernel) (by decide +kernel)
theorem cw_X3_addInput : Cond.code yX3_addInput cX3_addInput 3 none ∈ tb := tb_of 1530 (by decide +kernel) (by decide +kernel)
theorem mw_X3_addInput : MW yX3_addInput cX3_addInput 3 none 2 := ⟨cw_X3_addInput, ini_X3, by decide +kernel⟩
theorem im_X3_addInput : Cond.instanceMethod yX3_addInput ∈ tb := tb_of 1528 (by decide +kernel) (by decide +kernel)
theorem se_X3_addInput : Cond.selects (yX3_addInput).cls yX3_addInput yX3_addInput ∈ tb := tb_of 1529 (by decide +kernel) (by decide +kernel)
theorem ml_X11_246 : Cond.methodLink RX11 246 yX3_addInput ∈ tb := tb_of 1527 (by decide +kernel) (by decide +kernel)
theorem cw_X3_emptyInput : Cond.code yX3_emptyInput cX3_emptyInput 2 none ∈ tb := tb_of 1541 (by decide +kernel) (by decide +kernel)
theorem mw_X3_emptyInput : MW yX3_emptyInput cX3_emptyInput 2 none 1 := ⟨cw_X3_emptyInput, ini_X3, by decide +kernel⟩
theorem im_X3_emptyInput : Cond.instanceMethod yX3_emptyInput ∈ tb := tb_of 1539 (by decide +kernel) (by decide +kernel)
theorem se_X3_emptyInput : Cond.selects (yX3_emptyInput).cls yX3_emptyInput yX3_emptyInput ∈ tb := tb_of 1540 (by decide +kernel) (by decide +kernel)
theorem ml_X11_249 : Cond.methodLink RX11 249 yX3_emptyInput ∈ tb := tb_of 1538 (by decide +kernel) (by decide +kernel)
theorem ml_X11_268 : Cond.methodLink RX11 268 yX3_written ∈ tb := tb_of 1671 (by decide +kernel) (by decide +kernel)
theorem cw_X3_numberPut : Cond.code yX3_numberPut cX3_numberPut 3 (some .int) ∈ tb := tb_of 1678 (by decide +kernel) (by decide +kernel)
theorem mw_X3_numberPut : MW yX3_numberPut cX3_numberPut 3 (some .int) 2 := ⟨cw_X3_numberPut, ini_X3, by decide +kernel⟩
theorem im_X3_numberPut : Cond.instanceMethod yX3_numberPut ∈ tb := tb_of 1676 (by decide +kernel) (by decide +kernel)
theorem se_X3_numberPut : Cond.selects (yX3_numberPut).cls yX3_numberPut yX3_numberPut ∈ tb := tb_of 1677 (by decide +kernel) (by decide +kernel)
theorem ml_X11_271 : Cond.methodLink RX11 271 yX3_numberPut ∈ tb := tb_of 1675 (by decide +kernel) (by decide +kernel)
def f_X9_refuse (x1 : Int32) (x2 : Int32) (D : Dat) : Option (Int32 × Dat) :=
  some (0, (sI (sI D 107 11 x1) 107 12 x2))
set_option maxHeartbeats 4000000 in
theorem w_X9_refuse {X : Cx} {n nu c u : Nat} {K : Nat → Nat} {z : Int32 × Dat} (O : Ok X cX9_refuse RX9 (some .boolean) 0 0) (hm : wlm (xw X) = true) (hn : xn X = 3) (hz : Z0 X (Ax nu K c u)) (x1 : Int32) (x2 : Int32) (D : Dat) (h : f_X9_refuse x1 x2 D = some z) : V X (Q0 X n (Ax nu K c u) (some (.int z.1)) z.2) n (Ax nu K c u) D 0 [(0, .ref (bo X + pp 107)), (1, .int x1), (2, .int x2)] [] := by
  unfold f_X9_refuse at h
  refine v_aload_n (pc := 0) O dX9_refuse_0 0 rfl ?_
  refine v_iload_n (pc := 1) O dX9_refuse_1 1 rfl ?_
  refine v_putI (pc := 2) (a := 107) O pf_X9_11 fl_X9_37 kq_107 dX9_refuse_2 ?_
  refine v_aload_n (pc := 5) O dX9_refuse_5 0 rfl ?_
  refine v_iload_n (pc := 6) O dX9_refuse_6 2 rfl ?_
  refine v_putI (pc := 7) (a := 107) O pf_X9_12 fl_X9_41 kq_107 dX9_refuse_7 ?_
  refine v_iconst (pc := 10) O dX9_refuse_10 ic_0 ?_
  obtain rfl := Option.some.inj h
  exact v_zret (pc := 11) O hz narrow_b0 dX9_refuse_11
theorem c_X9_refuse {l : Launch} {w : Wx} {n nu c u : Nat} {K : Nat → Nat} (hm : wlm w = true) {x1 : Int32} {x2 : Int32} {D : Dat} {z : Int32 × Dat} (h : f_X9_refuse x1 x2 D = some z) : C0 l w yX9_refuse cX9_refuse 3 (some .boolean) 0 0 [.ref (wb w + pp 107), .int x1, .int x2] n (Ax nu K c u) D (some (.int z.1)) z.2 :=
  C0.of (by decide) (Nat.le_of_ble_eq_true rfl) (fun X e1 e2 e3 hz O => by
  subst e1
  subst e2
  exact w_X9_refuse O hm e3 hz x1 x2 D h)
def f_X9_argumentFits_b87 (s0 : Int32) (D : Dat) : Option (Int32 × Dat) :=
  if s0 &&& 1 = s0 then some (s0, D) else none
set_option maxHeartbeats 4000000 in
theorem w_X9_argumentFits_b87 {X : Cx} {n nu c u : Nat} {K : Nat → Nat} {z : Int32 × Dat} (O : Ok X cX9_argumentFits RX9 (some .boolean) 1 21) (hm : wlm (xw X) = true) (hn : xn X = 3) (hz : Z0 X (Ax nu K c u)) (s0 : Int32) (D : Dat) (h : f_X9_argumentFits_b87 s0 D = some z) : V X (Q0 X n (Ax nu K c u) (some (.int z.1)) z.2) n (Ax nu K c u) D 87 [] [.int s0] := by
  unfold f_X9_argumentFits_b87 at h
  obtain ⟨c1, h⟩ := if_none h
  obtain rfl := Option.some.inj h
  exact v_zret (pc := 87) O hz (congrArg Value.int c1) dX9_argumentFits_87
def f_X9_argumentFits_b86 (D : Dat) : Option (Int32 × Dat) :=
  f_X9_argumentFits_b87 0 D
set_option maxHeartbeats 4000000 in
theorem w_X9_argumentFits_b86 {X : Cx} {n nu c u : Nat} {K : Nat → Nat} {z : Int32 × Dat} (O : Ok X cX9_argumentFits RX9 (some .boolean) 1 21) (hm : wlm (xw X) = true) (hn : xn X = 3) (hz : Z0 X (Ax nu K c u)) (D : Dat) (h : f_X9_argumentFits_b86 D = some z) : V X (Q0 X n (Ax nu K c u) (some (.int z.1)) z.2) n (Ax nu K c u) D 86 [] [] := by
  unfold f_X9_argumentFits_b86 at h
  refine v_iconst (pc := 86) O dX9_argumentFits_86 ic_0 ?_
  refine v_sub [] rfl ?_
  exact w_X9_argumentFits_b87 O hm hn hz 0 D h
def f_X9_argumentFits_b72 (x2 : Int32) (D : Dat) : Option (Int32 × Dat) :=
  if x2 < 0 then (f_X9_argumentFits_b86 D) else (if 26 ≤ x2 then (f_X9_argumentFits_b86 D) else (f_X9_argumentFits_b87 1 D))
set_option maxHeartbeats 4000000 in
theorem w_X9_argumentFits_b72 {X : Cx} {n nu c u : Nat} {K : Nat → Nat} {z : Int32 × Dat} (O : Ok X cX9_argumentFits RX9 (some .boolean) 1 21) (hm : wlm (xw X) = true) (hn : xn X = 3) (hz : Z0 X (Ax nu K c u)) (x2 : Int32) (D : Dat) (h : f_X9_argumentFits_b72 x2 D = some z) : V X (Q0 X n (Ax nu K c u) (some (.int z.1)) z.2) n (Ax nu K c u) D 72 [(2, .int x2)] [] := by
  unfold f_X9_argumentFits_b72 at h
  refine v_iload_n (pc := 72) O dX9_argumentFits_72 0 rfl ?_
  refine v_iflt (pc := 73) 86 O dX9_argumentFits_73 (by decide) (fun c2 => ?_) (fun c2 => ?_)
  · have h := (if_pos c2).symm.trans h
    refine v_sub [] rfl ?_
    exact w_X9_argumentFits_b86 O hm hn hz D h
  · have h := (if_neg c2).symm.trans h
    refine v_iload_n (pc := 76) O dX9_argumentFits_76 0 rfl ?_
    refine v_bipush (pc := 77) O dX9_argumentFits_77 bp_26 ?_
    refine v_icmpge (pc := 79) 86 O dX9_argumentFits_79 (by decide) (fun c3 => ?_) (fun c3 => ?_)
    · have h := (if_pos c3).symm.trans h
      refine v_sub [] rfl ?_
      exact w_X9_argumentFits_b86 O hm hn hz D h
    · have h := (if_neg c3).symm.trans h
      refine v_iconst (pc := 82) O dX9_argumentFits_82 ic_1 ?_
      refine v_goto (pc := 83) 87 O dX9_argumentFits_83 (by decide) ?_
      refine v_sub [] rfl ?_
      exact w_X9_argumentFits_b87 O hm hn hz 1 D h
def f_X9_argumentFits_b88 (x2 : Int32) (D : Dat) : Option (Int32 × Dat) :=
  (f_X2_has x2 D).bind (fun p4 => if p4.1 &&& 1 = p4.1 then some (p4.1, p4.2) else none)
set_option maxHeartbeats 4000000 in
theorem w_X9_argumentFits_b88 {X : Cx} {n nu c u : Nat} {K : Nat → Nat} {z : Int32 × Dat} (O : Ok X cX9_argumentFits RX9 (some .boolean) 1 21) (hm : wlm (xw X) = true) (hn : xn X = 3) (hz : Z0 X (Ax nu K c u)) (x2 : Int32) (D : Dat) (h : f_X9_argumentFits_b88 x2 D = some z) : V X (Q0 X n (Ax nu K c u) (some (.int z.1)) z.2) n (Ax nu K c u) D 88 [(0, .ref (bo X + pp 107)), (2, .int x2)] [] := by
  unfold f_X9_argumentFits_b88 at h
  refine v_aload_n (pc := 88) O dX9_argumentFits_88 0 rfl ?_
  refine v_getK (pc := 89) (a := 107) O hm gf_X9_0 fl_X9_33 kq_107 lk_107_0 dX9_argumentFits_89 ?_
  refine v_iload_n (pc := 92) O dX9_argumentFits_92 1 rfl ?_
  obtain ⟨p4, e5, h⟩ := bind_some h
  refine v_callV (pc := 93) (a := 1) (As := [.int x2]) (rest := []) (r := (some (.int p4.1))) (D' := p4.2) O (bb0 hz) (c_X2_has hm e5) mw_X2_has im_X2_has se_X2_has ml_X9_128 kq_1 (by decide) rfl rfl rfl (by decide) (by decide) (Nat.le_of_ble_eq_true rfl) dX9_argumentFits_93 rfl rfl ?_
  obtain ⟨c6, h⟩ := if_none h
  obtain rfl := Option.some.inj h
  exact v_zret (pc := 96) O hz (congrArg Value.int c6) dX9_argumentFits_96
def f_X9_argumentFits_b97 (x2 : Int32) (D : Dat) : Option (Int32 × Dat) :=
  ((dR D 107 2)).bind (fun a7 => if a7 = 201 ∨ a7 = 204 then ((f_X0_has a7 x2 D).bind (fun p10 => if p10.1 &&& 1 = p10.1 then some (p10.1, p10.2) else none)) else none)
set_option maxHeartbeats 4000000 in
theorem w_X9_argumentFits_b97 {X : Cx} {n nu c u : Nat} {K : Nat → Nat} {z : Int32 × Dat} (O : Ok X cX9_argumentFits RX9 (some .boolean) 1 21) (hm : wlm (xw X) = true) (hn : xn X = 3) (hz : Z0 X (Ax nu K c u)) (x2 : Int32) (D : Dat) (h : f_X9_argumentFits_b97 x2 D = some z) : V X (Q0 X n (Ax nu K c u) (some (.int z.1)) z.2) n (Ax nu K c u) D 97 [(0, .ref (bo X + pp 107)), (2, .int x2)] [] := by
  unfold f_X9_argumentFits_b97 at h
  refine v_aload_n (pc := 97) O dX9_argumentFits_97 0 rfl ?_
  refine v_getR (pc := 98) (a := 107) O gf_X9_2 fl_X9_83 kq_107 dX9_argumentFits_98 ?_
  refine v_iload_n (pc := 101) O dX9_argumentFits_101 1 rfl ?_
  obtain ⟨a7, e8, h⟩ := bind_some h
  rw [e8]
  obtain ⟨c9, h⟩ := if_none h
  obtain ⟨p10, e11, h⟩ := bind_some h
  refine v_callV (pc := 102) (a := a7) (As := [.int x2]) (rest := []) (r := (some (.int p10.1))) (D' := p10.2) O (bb0 hz) (c_X0_has hm c9 e11) mw_X0_has im_X0_has se_X0_has ml_X9_131 (kt_X0 c9) (by decide) rfl rfl rfl (by decide) (by decide) (Nat.le_of_ble_eq_true rfl) dX9_argumentFits_102 rfl rfl ?_
  obtain ⟨c12, h⟩ := if_none h
  obtain rfl := Option.some.inj h
  exact v_zret (pc := 105) O hz (congrArg Value.int c12) dX9_argumentFits_105
def f_X9_argumentFits_b106 (D : Dat) : Option (Int32 × Dat) :=
  some (1, D)
set_option maxHeartbeats 4000000 in
theorem w_X9_argumentFits_b106 {X : Cx} {n nu c u : Nat} {K : Nat → Nat} {z : Int32 × Dat} (O : Ok X cX9_argumentFits RX9 (some .boolean) 1 21) (hm : wlm (xw X) = true) (hn : xn X = 3) (hz : Z0 X (Ax nu K c u)) (D : Dat) (h : f_X9_argumentFits_b106 D = some z) : V X (Q0 X n (Ax nu K c u) (some (.int z.1)) z.2) n (Ax nu K c u) D 106 [] [] := by
  unfold f_X9_argumentFits_b106 at h
  refine v_iconst (pc := 106) O dX9_argumentFits_106 ic_1 ?_
  obtain rfl := Option.some.inj h
  exact v_zret (pc := 107) O hz narrow_b1 dX9_argumentFits_107
def f_X9_argumentFits (x1 : Int32) (x2 : Int32) (D : Dat) : Option (Int32 × Dat) :=
  (if x1 = (1 : Int32) then (f_X9_argumentFits_b72 x2 D) else (if x1 = (2 : Int32) then (f_X9_argumentFits_b72 x2 D) else (if x1 = (3 : Int32) then (f_X9_argumentFits_b72 x2 D) else (if x1 = (4 : Int32) then (f_X9_argumentFits_b72 x2 D) else (if x1 = (11 : Int32) then (f_X9_argumentFits_b97 x2 D) else (if x1 = (12 : Int32) then (f_X9_argumentFits_b97 x2 D) else (if x1 = (13 : Int32) then (f_X9_argumentFits_b88 x2 D) else (if x1 = (14 : Int32) then (f_X9_argumentFits_b88 x2 D) else (f_X9_argumentFits_b106 D)))))))))
set_option maxHeartbeats 4000000 in
theorem w_X9_argumentFits {X : Cx} {n nu c u : Nat} {K : Nat → Nat} {z : Int32 × Dat} (O : Ok X cX9_argumentFits RX9 (some .boolean) 1 21) (hm : wlm (xw X) = true) (hn : xn X = 3) (hz : Z0 X (Ax nu K c u)) (x1 : Int32) (x2 : Int32) (D : Dat) (h : f_X9_argumentFits x1 x2 D = some z) : V X (Q0 X n (Ax nu K c u) (some (.int z.1)) z.2) n (Ax nu K c u) D 0 [(0, .ref (bo X + pp 107)), (1, .int x1), (2, .int x2)] [] := by
  unfold f_X9_argumentFits at h
  refine v_iload_n (pc := 0) O dX9_argumentFits_0 1 rfl ?_
  by_cases c13 : x1 = (1 : Int32)
  · have h := (if_pos c13).symm.trans h
    refine v_tableIn (pc := 1) 72 O dX9_argumentFits_1 (by rw [c13]; decide) (by rw [c13]; decide) (by rw [c13]; rfl) (by decide) ?_
    refine v_sub [2] rfl ?_
    exact w_X9_argumentFits_b72 O hm hn hz x2 D h
  · have h := (if_neg c13).symm.trans h
    by_cases c14 : x1 = (2 : Int32)
    · have h := (if_pos c14).symm.trans h
      refine v_tableIn (pc := 1) 72 O dX9_argumentFits_1 (by rw [c14]; decide) (by rw [c14]; decide) (by rw [c14]; rfl) (by decide) ?_
      refine v_sub [2] rfl ?_
      exact w_X9_argumentFits_b72 O hm hn hz x2 D h
    · have h := (if_neg c14).symm.trans h
      by_cases c15 : x1 = (3 : Int32)
      · have h := (if_pos c15).symm.trans h
        refine v_tableIn (pc := 1) 72 O dX9_argumentFits_1 (by rw [c15]; decide) (by rw [c15]; decide) (by rw [c15]; rfl) (by decide) ?_
        refine v_sub [2] rfl ?_
        exact w_X9_argumentFits_b72 O hm hn hz x2 D h
      · have h := (if_neg c15).symm.trans h
        by_cases c16 : x1 = (4 : Int32)
        · have h := (if_pos c16).symm.trans h
          refine v_tableIn (pc := 1) 72 O dX9_argumentFits_1 (by rw [c16]; decide) (by rw [c16]; decide) (by rw [c16]; rfl) (by decide) ?_
          refine v_sub [2] rfl ?_
          exact w_X9_argumentFits_b72 O hm hn hz x2 D h
        · have h := (if_neg c16).symm.trans h
          by_cases c17 : x1 = (11 : Int32)
          · have h := (if_pos c17).symm.trans h
            refine v_tableIn (pc := 1) 97 O dX9_argumentFits_1 (by rw [c17]; decide) (by rw [c17]; decide) (by rw [c17]; rfl) (by decide) ?_
            refine v_sub [0, 2] rfl ?_
            exact w_X9_argumentFits_b97 O hm hn hz x2 D h
          · have h := (if_neg c17).symm.trans h
            by_cases c18 : x1 = (12 : Int32)
            · have h := (if_pos c18).symm.trans h
              refine v_tableIn (pc := 1) 97 O dX9_argumentFits_1 (by rw [c18]; decide) (by rw [c18]; decide) (by rw [c18]; rfl) (by decide) ?_
              refine v_sub [0, 2] rfl ?_
              exact w_X9_argumentFits_b97 O hm hn hz x2 D h
            · have h := (if_neg c18).symm.trans h
              by_cases c19 : x1 = (13 : Int32)
              · have h := (if_pos c19).symm.trans h
                refine v_tableIn (pc := 1) 88 O dX9_argumentFits_1 (by rw [c19]; decide) (by rw [c19]; decide) (by rw [c19]; rfl) (by decide) ?_
                refine v_sub [0, 2] rfl ?_
                exact w_X9_argumentFits_b88 O hm hn hz x2 D h
              · have h := (if_neg c19).symm.trans h
                by_cases c20 : x1 = (14 : Int32)
                · have h := (if_pos c20).symm.trans h
                  refine v_tableIn (pc := 1) 88 O dX9_argumentFits_1 (by rw [c20]; decide) (by rw [c20]; decide) (by rw [c20]; rfl) (by decide) ?_
                  refine v_sub [0, 2] rfl ?_
                  exact w_X9_argumentFits_b88 O hm hn hz x2 D h
                · have h := (if_neg c20).symm.trans h
                  refine v_table (pc := 1) 106 O dX9_argumentFits_1 (fun g1 g2 => by
                      have c13i := ne_i (1) rfl c13
                      have c14i := ne_i (2) rfl c14
                      have c15i := ne_i (3) rfl c15
                      have c16i := ne_i (4) rfl c16
                      have c17i := ne_i (11) rfl c17
                      have c18i := ne_i (12) rfl c18
                      have c19i := ne_i (13) rfl c19
                      have c20i := ne_i (14) rfl c20
                      rcases (show x1.toInt = 5 ∨ x1.toInt = 6 ∨ x1.toInt = 7 ∨ x1.toInt = 8 ∨ x1.toInt = 9 ∨ x1.toInt = 10 by omega) with e9 | e9 | e9 | e9 | e9 | e9 <;> (rw [e9]; exact ⟨_, rfl, by decide⟩)) (by decide) ?_
                  refine v_sub [] rfl ?_
                  exact w_X9_argumentFits_b106 O hm hn hz D h
theorem c_X9_argumentFits {l : Launch} {w : Wx} {n nu c u : Nat} {K : Nat → Nat} (hm : wlm w = true) {x1 : Int32} {x2 : Int32} {D : Dat} {z : Int32 × Dat} (h : f_X9_argumentFits x1 x2 D = some z) : C0 l w yX9_argumentFits cX9_argumentFits 3 (some .boolean) 1 21 [.ref (wb w + pp 107), .int x1, .int x2] n (Ax nu K c u) D (some (.int z.1)) z.2 :=
  C0.of (by decide) (Nat.le_of_ble_eq_true rfl) (fun X e1 e2 e3 hz O => by
  subst e1
  subst e2
  exact w_X9_argumentFits O hm e3 hz x1 x2 D h)
def f_X9_endFits_b45 (s0 : Int32) (D : Dat) : Option (Int32 × Dat) :=
  if s0 &&& 1 = s0 then some (s0, D) else none
set_option maxHeartbeats 4000000 in
theorem w_X9_endFits_b45 {X : Cx} {n nu c u : Nat} {K : Nat → Nat} {z : Int32 × Dat} (O : Ok X cX9_endFits RX9 (some .boolean) 2 42) (hm : wlm (xw X) = true) (hn : xn X = 3) (hz : Z0 X (Ax nu K c u)) (s0 : Int32) (D : Dat) (h : f_X9_endFits_b45 s0 D = some z) : V X (Q0 X n (Ax nu K c u) (some (.int z.1)) z.2) n (Ax nu K c u) D 45 [] [.int s0] := by
  unfold f_X9_endFits_b45 at h
  obtain ⟨c1, h⟩ := if_none h
  obtain rfl := Option.some.inj h
  exact v_zret (pc := 45) O hz (congrArg Value.int c1) dX9_endFits_45
def f_X9_endFits_b40 (D : Dat) : Option (Int32 × Dat) :=
  f_X9_endFits_b45 1 D
set_option maxHeartbeats 4000000 in
theorem w_X9_endFits_b40 {X : Cx} {n nu c u : Nat} {K : Nat → Nat} {z : Int32 × Dat} (O : Ok X cX9_endFits RX9 (some .boolean) 2 42) (hm : wlm (xw X) = true) (hn : xn X = 3) (hz : Z0 X (Ax nu K c u)) (D : Dat) (h : f_X9_endFits_b40 D = some z) : V X (Q0 X n (Ax nu K c u) (some (.int z.1)) z.2) n (Ax nu K c u) D 40 [] [] := by
  unfold f_X9_endFits_b40 at h
  refine v_iconst (pc := 40) O dX9_endFits_40 ic_1 ?_
  refine v_goto (pc := 41) 45 O dX9_endFits_41 (by decide) ?_
  refine v_sub [] rfl ?_
  exact w_X9_endFits_b45 O hm hn hz 1 D h
def f_X9_endFits (D : Dat) : Option (Int32 × Dat) :=
  ((dR D 107 2)).bind (fun a2 => if a2 = 201 ∨ a2 = 204 then ((f_X0_size a2 D).bind (fun p5 => ((dR p5.2 107 2)).bind (fun a7 => if a7 = 201 ∨ a7 = 204 then ((f_X0_operation a7 (p5.1 - (1 : Int32)) p5.2).bind (fun p10 => if p10.1 = 12 then (f_X9_endFits_b40 p10.2) else (if p10.1 = 15 then (f_X9_endFits_b40 p10.2) else ((f_X9_refuse (p5.1 - (1 : Int32)) 2 p10.2).bind (fun p14 => if p14.1 = 0 then (f_X9_endFits_b45 0 p14.2) else (f_X9_endFits_b40 p14.2)))))) else none))) else none)
set_option maxHeartbeats 4000000 in
theorem w_X9_endFits {X : Cx} {n nu c u : Nat} {K : Nat → Nat} {z : Int32 × Dat} (O : Ok X cX9_endFits RX9 (some .boolean) 2 42) (hm : wlm (xw X) = true) (hn : xn X = 3) (hz : Z0 X (Ax nu K c u)) (D : Dat) (h : f_X9_endFits D = some z) : V X (Q0 X n (Ax nu K c u) (some (.int z.1)) z.2) n (Ax nu K c u) D 0 [(0, .ref (bo X + pp 107))] [] := by
  unfold f_X9_endFits at h
  refine v_aload_n (pc := 0) O dX9_endFits_0 0 rfl ?_
  refine v_getR (pc := 1) (a := 107) O gf_X9_2 fl_X9_83 kq_107 dX9_endFits_1 ?_
  obtain ⟨a2, e3, h⟩ := bind_some h
  rw [e3]
  obtain ⟨c4, h⟩ := if_none h
  obtain ⟨p5, e6, h⟩ := bind_some h
  refine v_callV (pc := 4) (a := a2) (As := []) (rest := []) (r := (some (.int p5.1))) (D' := p5.2) O (bb0 hz) (c_X0_size hm c4 e6) mw_X0_size im_X0_size se_X0_size ml_X9_110 (kt_X0 c4) (by decide) rfl rfl rfl (by decide) (by decide) (Nat.le_of_ble_eq_true rfl) dX9_endFits_4 rfl rfl ?_
  refine v_iconst (pc := 7) O dX9_endFits_7 ic_1 ?_
  refine v_isub (pc := 8) O dX9_endFits_8 ?_
  refine v_istore_n (pc := 9) (lv' := [(1, .int (p5.1 - (1 : Int32))), (0, .ref (bo X + pp 107))]) O dX9_endFits_9 rfl (by rw [hn]; decide) rfl ?_
  refine v_aload_n (pc := 10) O dX9_endFits_10 1 rfl ?_
  refine v_getR (pc := 11) (a := 107) O gf_X9_2 fl_X9_83 kq_107 dX9_endFits_11 ?_
  refine v_iload_n (pc := 14) O dX9_endFits_14 0 rfl ?_
  obtain ⟨a7, e8, h⟩ := bind_some h
  rw [e8]
  obtain ⟨c9, h⟩ := if_none h
  obtain ⟨p10, e11, h⟩ := bind_some h
  refine v_callV (pc := 15) (a := a7) (As := [.int (p5.1 - (1 : Int32))]) (rest := []) (r := (some (.int p10.1))) (D' := p10.2) O (bb0 hz) (c_X0_operation hm c9 e11) mw_X0_operation im_X0_operation se_X0_operation ml_X9_116 (kt_X0 c9) (by decide) rfl rfl rfl (by decide) (by decide) (Nat.le_of_ble_eq_true rfl) dX9_endFits_15 rfl rfl ?_
  refine v_istore_n (pc := 18) (lv' := [(2, .int p10.1), (1, .int (p5.1 - (1 : Int32))), (0, .ref (bo X + pp 107))]) O dX9_endFits_18 rfl (by rw [hn]; decide) rfl ?_
  refine v_iload_n (pc := 19) O dX9_endFits_19 0 rfl ?_
  refine v_bipush (pc := 20) O dX9_endFits_20 bp_12 ?_
  refine v_icmpeq (pc := 22) 40 O dX9_endFits_22 (by decide) (fun c12 => ?_) (fun c12 => ?_)
  · have h := (if_pos c12).symm.trans h
    refine v_sub [] rfl ?_
    exact w_X9_endFits_b40 O hm hn hz p10.2 h
  · have h := (if_neg c12).symm.trans h
    refine v_iload_n (pc := 25) O dX9_endFits_25 0 rfl ?_
    refine v_bipush (pc := 26) O dX9_endFits_26 bp_15 ?_
    refine v_icmpeq (pc := 28) 40 O dX9_endFits_28 (by decide) (fun c13 => ?_) (fun c13 => ?_)
    · have h := (if_pos c13).symm.trans h
      refine v_sub [] rfl ?_
      exact w_X9_endFits_b40 O hm hn hz p10.2 h
    · have h := (if_neg c13).symm.trans h
      refine v_aload_n (pc := 31) O dX9_endFits_31 2 rfl ?_
      refine v_iload_n (pc := 32) O dX9_endFits_32 1 rfl ?_
      refine v_iconst (pc := 33) O dX9_endFits_33 ic_2 ?_
      obtain ⟨p14, e15, h⟩ := bind_some h
      refine v_callV (pc := 34) (a := 107) (As := [.int (p5.1 - (1 : Int32)), .int 2]) (rest := []) (r := (some (.int p14.1))) (D' := p14.2) O (bb0 hz) (c_X9_refuse hm e15) mw_X9_refuse im_X9_refuse se_X9_refuse ml_X9_125 kq_107 (by decide) rfl rfl rfl (by decide) (by decide) (Nat.le_of_ble_eq_true rfl) dX9_endFits_34 rfl rfl ?_
      refine v_ifeq (pc := 37) 44 O dX9_endFits_37 (by decide) (fun c16 => ?_) (fun c16 => ?_)
      · have h := (if_pos c16).symm.trans h
        refine v_iconst (pc := 44) O dX9_endFits_44 ic_0 ?_
        refine v_sub [] rfl ?_
        exact w_X9_endFits_b45 O hm hn hz 0 p14.2 h
      · have h := (if_neg c16).symm.trans h
        refine v_sub [] rfl ?_
        exact w_X9_endFits_b40 O hm hn hz p14.2 h
theorem c_X9_endFits {l : Launch} {w : Wx} {n nu c u : Nat} {K : Nat → Nat} (hm : wlm w = true) {D : Dat} {z : Int32 × Dat} (h : f_X9_endFits D = some z) : C0 l w yX9_endFits cX9_endFits 3 (some .boolean) 2 42 [.ref (wb w + pp 107)] n (Ax nu K c u) D (some (.int z.1)) z.2 :=
  C0.of (by decide) (Nat.le_of_ble_eq_true rfl) (fun X e1 e2 e3 hz O => by
  subst e1
  subst e2
  exact w_X9_endFits O hm e3 hz  D h)
def f_X9_shadeTaken_b4 (N : Nat) : Nat → Int32 → Int32 → Int32 → Dat → Option (Int32 × Dat)
  | 0, _, _, _, _ => none
  | g + 1, x1, x2, x3, D => ((dR D 107 2)).bind (fun a1 => if a1 = 201 ∨ a1 = 204 then ((f_X0_taken a1 x1 D).bind (fun p4 => if p4.1 < x3 then (some (x2, p4.2)) else (if x1 < 0 ∨ 64 ≤ (x1).toNatClampNeg then none else ((f_X9_heldAt x1 (((26 : Int32) + (dI p4.2 113 (x1).toNatClampNeg)) - x3) p4.2).bind (fun p8 => (f_X9_shadeTaken_b4 N g) x1 (x2 ||| p8.1) (x3 + 1) p8.2))))) else none)
set_option maxHeartbeats 4000000 in
theorem w_X9_shadeTaken_b4 {X : Cx} {n nu c u : Nat} {K : Nat → Nat} {N : Nat} {z : Int32 × Dat} (O : Ok X cX9_shadeTaken RX9 (some .int) 3 64) (hm : wlm (xw X) = true) (hn : xn X = 4) (hz : Z0 X (Ax nu K c u)) : ∀ (g : Nat) (x1 : Int32) (x2 : Int32) (x3 : Int32) (D : Dat), f_X9_shadeTaken_b4 N g x1 x2 x3 D = some z → V X (Q0 X n (Ax nu K c u) (some (.int z.1)) z.2) n (Ax nu K c u) D 4 [(0, .ref (bo X + pp 107)), (1, .int x1), (2, .int x2), (3, .int x3)] [] := by
  intro g
  induction g with
  | zero => intro x1 x2 x3 D h; exact absurd h (by simp [f_X9_shadeTaken_b4])
  | succ g ih =>
    intro x1 x2 x3 D h
    rw [f_X9_shadeTaken_b4] at h
    refine v_iload_n (pc := 4) O dX9_shadeTaken_4 3 rfl ?_
    refine v_aload_n (pc := 5) O dX9_shadeTaken_5 0 rfl ?_
    refine v_getR (pc := 6) (a := 107) O gf_X9_2 fl_X9_83 kq_107 dX9_shadeTaken_6 ?_
    refine v_iload_n (pc := 9) O dX9_shadeTaken_9 1 rfl ?_
    obtain ⟨a1, e2, h⟩ := bind_some h
    rw [e2]
    obtain ⟨c3, h⟩ := if_none h
    obtain ⟨p4, e5, h⟩ := bind_some h
    refine v_callV (pc := 10) (a := a1) (As := [.int x1]) (rest := [.int x3]) (r := (some (.int p4.1))) (D' := p4.2) O (bb0 hz) (c_X0_taken hm c3 e5) mw_X0_taken im_X0_taken se_X0_taken ml_X9_150 (kt_X0 c3) (by decide) rfl rfl rfl (by decide) (by decide) (Nat.le_of_ble_eq_true rfl) dX9_shadeTaken_10 rfl rfl ?_
    refine v_icmpgt (pc := 13) 41 O dX9_shadeTaken_13 (by decide) (fun c6 => ?_) (fun c6 => ?_)
    · have h := (if_pos c6).symm.trans h
      refine v_iload_n (pc := 41) O dX9_shadeTaken_41 2 rfl ?_
      obtain rfl := Option.some.inj h
      exact v_iret (pc := 42) O hz dX9_shadeTaken_42
    · have h := (if_neg c6).symm.trans h
      refine v_iload_n (pc := 16) O dX9_shadeTaken_16 2 rfl ?_
      refine v_aload_n (pc := 17) O dX9_shadeTaken_17 0 rfl ?_
      refine v_iload_n (pc := 18) O dX9_shadeTaken_18 1 rfl ?_
      refine v_bipush (pc := 19) O dX9_shadeTaken_19 bp_26 ?_
      refine v_aload_n (pc := 21) O dX9_shadeTaken_21 0 rfl ?_
      refine v_getK (pc := 22) (a := 107) O hm gf_X9_4 fl_X9_18 kq_107 lk_107_4 dX9_shadeTaken_22 ?_
      refine v_iload_n (pc := 25) O dX9_shadeTaken_25 1 rfl ?_
      obtain ⟨c7, h⟩ := or_none h
      refine v_iald (pc := 26) (a := 113) O kq_113 (inq lq_113 c7) dX9_shadeTaken_26 ?_
      refine v_iadd (pc := 27) O dX9_shadeTaken_27 ?_
      refine v_iload_n (pc := 28) O dX9_shadeTaken_28 3 rfl ?_
      refine v_isub (pc := 29) O dX9_shadeTaken_29 ?_
      obtain ⟨p8, e9, h⟩ := bind_some h
      refine v_callV (pc := 30) (a := 107) (As := [.int x1, .int (((26 : Int32) + (dI p4.2 113 (x1).toNatClampNeg)) - x3)]) (rest := [.int x2]) (r := (some (.int p8.1))) (D' := p8.2) O (bb0 hz) (c_X9_heldAt hm e9) mw_X9_heldAt im_X9_heldAt se_X9_heldAt ml_X9_74 kq_107 (by decide) rfl rfl rfl (by decide) (by decide) (Nat.le_of_ble_eq_true rfl) dX9_shadeTaken_30 rfl rfl ?_
      refine v_ior (pc := 33) O dX9_shadeTaken_33 ?_
      refine v_istore_n (pc := 34) (lv' := [(2, .int (x2 ||| p8.1)), (0, .ref (bo X + pp 107)), (1, .int x1), (3, .int x3)]) O dX9_shadeTaken_34 rfl (by rw [hn]; decide) rfl ?_
      refine v_iinc (pc := 35) (lv' := [(3, .int (x3 + 1)), (2, .int (x2 ||| p8.1)), (0, .ref (bo X + pp 107)), (1, .int x1)]) O dX9_shadeTaken_35 3 rfl (congrArg (fun q => x3 + q) ic_1) (by rw [hn]; decide) rfl ?_
      refine v_goto (pc := 38) 4 O dX9_shadeTaken_38 (by decide) ?_
      refine v_sub [2, 3, 1, 0] rfl ?_
      exact ih x1 (x2 ||| p8.1) (x3 + 1) p8.2 h
def f_X9_shadeTaken (N : Nat) (x1 : Int32) (D : Dat) : Option (Int32 × Dat) :=
  f_X9_shadeTaken_b4 N N x1 0 1 D
set_option maxHeartbeats 4000000 in
theorem w_X9_shadeTaken {X : Cx} {n nu c u : Nat} {K : Nat → Nat} {N : Nat} {z : Int32 × Dat} (O : Ok X cX9_shadeTaken RX9 (some .int) 3 64) (hm : wlm (xw X) = true) (hn : xn X = 4) (hz : Z0 X (Ax nu K c u)) (x1 : Int32) (D : Dat) (h : f_X9_shadeTaken N x1 D = some z) : V X (Q0 X n (Ax nu K c u) (some (.int z.1)) z.2) n (Ax nu K c u) D 0 [(0, .ref (bo X + pp 107)), (1, .int x1)] [] := by
  unfold f_X9_shadeTaken at h
  refine v_iconst (pc := 0) O dX9_shadeTaken_0 ic_0 ?_
  refine v_istore_n (pc := 1) (lv' := [(2, .int 0), (0, .ref (bo X + pp 107)), (1, .int x1)]) O dX9_shadeTaken_1 rfl (by rw [hn]; decide) rfl ?_
  refine v_iconst (pc := 2) O dX9_shadeTaken_2 ic_1 ?_
  refine v_istore_n (pc := 3) (lv' := [(3, .int 1), (2, .int 0), (0, .ref (bo X + pp 107)), (1, .int x1)]) O dX9_shadeTaken_3 rfl (by rw [hn]; decide) rfl ?_
  refine v_sub [2, 3, 1, 0] rfl ?_
  exact w_X9_shadeTaken_b4 O hm hn hz N x1 0 1 D h
theorem c_X9_shadeTaken {l : Launch} {w : Wx} {n nu c u : Nat} {K : Nat → Nat} {N : Nat} (hm : wlm w = true) {x1 : Int32} {D : Dat} {z : Int32 × Dat} (h : f_X9_shadeTaken N x1 D = some z) : C0 l w yX9_shadeTaken cX9_shadeTaken 4 (some .int) 3 64 [.ref (wb w + pp 107), .int x1] n (Ax nu K c u) D (some (.int z.1)) z.2 :=
  C0.of (by decide) (Nat.le_of_ble_eq_true rfl) (fun X e1 e2 e3 hz O => by
  subst e1
  subst e2
  exact w_X9_shadeTaken O hm e3 hz x1 D h)
def f_X9_rowMark_b23 (nu : Nat) (K : Nat → Nat) (s0 : Int32) (D : Dat) : Option (Int32 × Dat) :=
  some (s0, D)
set_option maxHeartbeats 4000000 in
theorem w_X9_rowMark_b23 {X : Cx} {n nu c u : Nat} {K : Nat → Nat} {z : Int32 × Dat} (O : Ok X cX9_rowMark RX9 (some .int) 0 0) (hm : wlm (xw X) = true) (hn : xn X = 2) (hz : Z0 X (Ax nu K c u)) (s0 : Int32) (D : Dat) (h : f_X9_rowMark_b23 nu K s0 D = some z) : V X (Q0 X n (Ax nu K c u) (some (.int z.1)) z.2) n (Ax nu K c u) D 23 [] [.int s0] := by
  unfold f_X9_rowMark_b23 at h
  obtain rfl := Option.some.inj h
  exact v_iret (pc := 23) O hz dX9_rowMark_23
def f_X9_rowMark_b22 (nu : Nat) (K : Nat → Nat) (D : Dat) : Option (Int32 × Dat) :=
  f_X9_rowMark_b23 nu K (-1) D
set_option maxHeartbeats 4000000 in
theorem w_X9_rowMark_b22 {X : Cx} {n nu c u : Nat} {K : Nat → Nat} {z : Int32 × Dat} (O : Ok X cX9_rowMark RX9 (some .int) 0 0) (hm : wlm (xw X) = true) (hn : xn X = 2) (hz : Z0 X (Ax nu K c u)) (D : Dat) (h : f_X9_rowMark_b22 nu K D = some z) : V X (Q0 X n (Ax nu K c u) (some (.int z.1)) z.2) n (Ax nu K c u) D 22 [] [] := by
  unfold f_X9_rowMark_b22 at h
  refine v_iconst (pc := 22) O dX9_rowMark_22 ic_m1 ?_
  refine v_sub [] rfl ?_
  exact w_X9_rowMark_b23 O hm hn hz (-1) D h
def f_X9_rowMark (nu : Nat) (K : Nat → Nat) (x1 : Int32) (D : Dat) : Option (Int32 × Dat) :=
  if x1 < 0 then (f_X9_rowMark_b22 nu K D) else (if 26 ≤ x1 then (f_X9_rowMark_b22 nu K D) else (((dR D 107 3)).bind (fun a3 => if kd K a3 = 14 then (if ((26 : Int32) + x1) < 0 ∨ (nl nu a3) ≤ (((26 : Int32) + x1)).toNatClampNeg then none else (f_X9_rowMark_b23 nu K (dI D a3 ((26 : Int32) + x1).toNatClampNeg) D)) else none)))
set_option maxHeartbeats 4000000 in
theorem w_X9_rowMark {X : Cx} {n nu c u : Nat} {K : Nat → Nat} {z : Int32 × Dat} (O : Ok X cX9_rowMark RX9 (some .int) 0 0) (hm : wlm (xw X) = true) (hn : xn X = 2) (hz : Z0 X (Ax nu K c u)) (x1 : Int32) (D : Dat) (h : f_X9_rowMark nu K x1 D = some z) : V X (Q0 X n (Ax nu K c u) (some (.int z.1)) z.2) n (Ax nu K c u) D 0 [(0, .ref (bo X + pp 107)), (1, .int x1)] [] := by
  unfold f_X9_rowMark at h
  refine v_iload_n (pc := 0) O dX9_rowMark_0 1 rfl ?_
  refine v_iflt (pc := 1) 22 O dX9_rowMark_1 (by decide) (fun c1 => ?_) (fun c1 => ?_)
  · have h := (if_pos c1).symm.trans h
    refine v_sub [] rfl ?_
    exact w_X9_rowMark_b22 O hm hn hz D h
  · have h := (if_neg c1).symm.trans h
    refine v_iload_n (pc := 4) O dX9_rowMark_4 1 rfl ?_
    refine v_bipush (pc := 5) O dX9_rowMark_5 bp_26 ?_
    refine v_icmpge (pc := 7) 22 O dX9_rowMark_7 (by decide) (fun c2 => ?_) (fun c2 => ?_)
    · have h := (if_pos c2).symm.trans h
      refine v_sub [] rfl ?_
      exact w_X9_rowMark_b22 O hm hn hz D h
    · have h := (if_neg c2).symm.trans h
      refine v_aload_n (pc := 10) O dX9_rowMark_10 0 rfl ?_
      refine v_getR (pc := 11) (a := 107) O gf_X9_3 fl_X9_87 kq_107 dX9_rowMark_11 ?_
      refine v_bipush (pc := 14) O dX9_rowMark_14 bp_26 ?_
      refine v_iload_n (pc := 16) O dX9_rowMark_16 1 rfl ?_
      refine v_iadd (pc := 17) O dX9_rowMark_17 ?_
      obtain ⟨a3, e4, h⟩ := bind_some h
      rw [e4]
      obtain ⟨c5, h⟩ := if_none h
      obtain ⟨c6, h⟩ := or_none h
      refine v_iald (pc := 18) (a := a3) O c5 (inq rfl c6) dX9_rowMark_18 ?_
      refine v_goto (pc := 19) 23 O dX9_rowMark_19 (by decide) ?_
      refine v_sub [] rfl ?_
      exact w_X9_rowMark_b23 O hm hn hz (dI D a3 ((26 : Int32) + x1).toNatClampNeg) D h
theorem c_X9_rowMark {l : Launch} {w : Wx} {n nu c u : Nat} {K : Nat → Nat} (hm : wlm w = true) {x1 : Int32} {D : Dat} {z : Int32 × Dat} (h : f_X9_rowMark nu K x1 D = some z) : C0 l w yX9_rowMark cX9_rowMark 2 (some .int) 0 0 [.ref (wb w + pp 107), .int x1] n (Ax nu K c u) D (some (.int z.1)) z.2 :=
  C0.of (by decide) (Nat.le_of_ble_eq_true rfl) (fun X e1 e2 e3 hz O => by
  subst e1
  subst e2
  exact w_X9_rowMark O hm e3 hz x1 D h)
def f_X9_flowFits_b114 (N : Nat) (nu : Nat) (K : Nat → Nat) (s0 : Int32) (D : Dat) : Option (Int32 × Dat) :=
  if s0 &&& 1 = s0 then some (s0, D) else none
set_option maxHeartbeats 4000000 in
theorem w_X9_flowFits_b114 {X : Cx} {n nu c u : Nat} {K : Nat → Nat} {N : Nat} {z : Int32 × Dat} (O : Ok X cX9_flowFits RX9 (some .boolean) 4 87) (hm : wlm (xw X) = true) (hn : xn X = 4) (hz : Z0 X (Ax nu K c u)) (s0 : Int32) (D : Dat) (h : f_X9_flowFits_b114 N nu K s0 D = some z) : V X (Q0 X n (Ax nu K c u) (some (.int z.1)) z.2) n (Ax nu K c u) D 114 [] [.int s0] := by
  unfold f_X9_flowFits_b114 at h
  obtain ⟨c1, h⟩ := if_none h
  obtain rfl := Option.some.inj h
  exact v_zret (pc := 114) O hz (congrArg Value.int c1) dX9_flowFits_114
def f_X9_flowFits_b109 (N : Nat) (nu : Nat) (K : Nat → Nat) (D : Dat) : Option (Int32 × Dat) :=
  f_X9_flowFits_b114 N nu K 1 D
set_option maxHeartbeats 4000000 in
theorem w_X9_flowFits_b109 {X : Cx} {n nu c u : Nat} {K : Nat → Nat} {N : Nat} {z : Int32 × Dat} (O : Ok X cX9_flowFits RX9 (some .boolean) 4 87) (hm : wlm (xw X) = true) (hn : xn X = 4) (hz : Z0 X (Ax nu K c u)) (D : Dat) (h : f_X9_flowFits_b109 N nu K D = some z) : V X (Q0 X n (Ax nu K c u) (some (.int z.1)) z.2) n (Ax nu K c u) D 109 [] [] := by
  unfold f_X9_flowFits_b109 at h
  refine v_iconst (pc := 109) O dX9_flowFits_109 ic_1 ?_
  refine v_goto (pc := 110) 114 O dX9_flowFits_110 (by decide) ?_
  refine v_sub [] rfl ?_
  exact w_X9_flowFits_b114 O hm hn hz 1 D h
def f_X9_flowFits_b129 (N : Nat) (nu : Nat) (K : Nat → Nat) (x2 : Int32) (x3 : Int32) (D : Dat) : Option (Int32 × Dat) :=
  (f_X2_fits x3 x2 D).bind (fun p2 => if p2.1 &&& 1 = p2.1 then some (p2.1, p2.2) else none)
set_option maxHeartbeats 4000000 in
theorem w_X9_flowFits_b129 {X : Cx} {n nu c u : Nat} {K : Nat → Nat} {N : Nat} {z : Int32 × Dat} (O : Ok X cX9_flowFits RX9 (some .boolean) 4 87) (hm : wlm (xw X) = true) (hn : xn X = 4) (hz : Z0 X (Ax nu K c u)) (x2 : Int32) (x3 : Int32) (D : Dat) (h : f_X9_flowFits_b129 N nu K x2 x3 D = some z) : V X (Q0 X n (Ax nu K c u) (some (.int z.1)) z.2) n (Ax nu K c u) D 129 [(0, .ref (bo X + pp 107)), (2, .int x2), (3, .int x3)] [] := by
  unfold f_X9_flowFits_b129 at h
  refine v_aload_n (pc := 129) O dX9_flowFits_129 0 rfl ?_
  refine v_getK (pc := 130) (a := 107) O hm gf_X9_0 fl_X9_33 kq_107 lk_107_0 dX9_flowFits_130 ?_
  refine v_iload_n (pc := 133) O dX9_flowFits_133 2 rfl ?_
  refine v_iload_n (pc := 134) O dX9_flowFits_134 1 rfl ?_
  obtain ⟨p2, e3, h⟩ := bind_some h
  refine v_callV (pc := 135) (a := 1) (As := [.int x3, .int x2]) (rest := []) (r := (some (.int p2.1))) (D' := p2.2) O (bb0 hz) (c_X2_fits hm e3) mw_X2_fits im_X2_fits se_X2_fits ml_X9_197 kq_1 (by decide) rfl rfl rfl (by decide) (by decide) (Nat.le_of_ble_eq_true rfl) dX9_flowFits_135 rfl rfl ?_
  obtain ⟨c4, h⟩ := if_none h
  obtain rfl := Option.some.inj h
  exact v_zret (pc := 138) O hz (congrArg Value.int c4) dX9_flowFits_138
def f_X9_flowFits (N : Nat) (nu : Nat) (K : Nat → Nat) (x1 : Int32) (D : Dat) : Option (Int32 × Dat) :=
  ((dR D 107 2)).bind (fun a5 => if a5 = 201 ∨ a5 = 204 then ((f_X0_argument a5 x1 D).bind (fun p8 => if x1 < 0 ∨ 64 ≤ (x1).toNatClampNeg then none else ((f_X9_shadeTaken N x1 p8.2).bind (fun p11 => ((dR p11.2 107 2)).bind (fun a13 => if a13 = 201 ∨ a13 = 204 then ((f_X0_operation a13 x1 p11.2).bind (fun p16 => (if p16.1 = (2 : Int32) then (if p8.1 < 0 then (f_X9_flowFits_b109 N nu K p16.2) else (if 26 ≤ p8.1 then (f_X9_flowFits_b109 N nu K p16.2) else (((dR p16.2 107 3)).bind (fun a21 => if kd K a21 = 14 then (if p8.1 < 0 ∨ (nl nu a21) ≤ (p8.1).toNatClampNeg then none else (if (dI p16.2 a21 (p8.1).toNatClampNeg) = (-1) then (f_X9_flowFits_b109 N nu K p16.2) else (((dR p16.2 107 3)).bind (fun a26 => if kd K a26 = 14 then (if p8.1 < 0 ∨ (nl nu a26) ≤ (p8.1).toNatClampNeg then none else ((f_X2_fits ((dI p8.2 114 (x1).toNatClampNeg) ||| p11.1) (dI p16.2 a26 (p8.1).toNatClampNeg) p16.2).bind (fun p30 => if p30.1 = 0 then (f_X9_flowFits_b114 N nu K 0 p30.2) else (f_X9_flowFits_b109 N nu K p30.2)))) else none)))) else none)))) else (if p16.1 = (4 : Int32) then ((f_X9_rowMark nu K p8.1 p16.2).bind (fun p34 => (f_X2_fits ((dI p8.2 114 (x1).toNatClampNeg) ||| p11.1) p34.1 p34.2).bind (fun p36 => if p36.1 &&& 1 = p36.1 then some (p36.1, p36.2) else none))) else (if p16.1 = (13 : Int32) then (f_X9_flowFits_b129 N nu K p8.1 ((dI p8.2 114 (x1).toNatClampNeg) ||| p11.1) p16.2) else (if p16.1 = (14 : Int32) then (f_X9_flowFits_b129 N nu K p8.1 ((dI p8.2 114 (x1).toNatClampNeg) ||| p11.1) p16.2) else (some (1, p16.2)))))))) else none))))) else none)
set_option maxHeartbeats 4000000 in
theorem w_X9_flowFits {X : Cx} {n nu c u : Nat} {K : Nat → Nat} {N : Nat} {z : Int32 × Dat} (O : Ok X cX9_flowFits RX9 (some .boolean) 4 87) (hm : wlm (xw X) = true) (hn : xn X = 4) (hz : Z0 X (Ax nu K c u)) (x1 : Int32) (D : Dat) (h : f_X9_flowFits N nu K x1 D = some z) : V X (Q0 X n (Ax nu K c u) (some (.int z.1)) z.2) n (Ax nu K c u) D 0 [(0, .ref (bo X + pp 107)), (1, .int x1)] [] := by
  unfold f_X9_flowFits at h
  refine v_aload_n (pc := 0) O dX9_flowFits_0 0 rfl ?_
  refine v_getR (pc := 1) (a := 107) O gf_X9_2 fl_X9_83 kq_107 dX9_flowFits_1 ?_
  refine v_iload_n (pc := 4) O dX9_flowFits_4 1 rfl ?_
  obtain ⟨a5, e6, h⟩ := bind_some h
  rw [e6]
  obtain ⟨c7, h⟩ := if_none h
  obtain ⟨p8, e9, h⟩ := bind_some h
  refine v_callV (pc := 5) (a := a5) (As := [.int x1]) (rest := []) (r := (some (.int p8.1))) (D' := p8.2) O (bb0 hz) (c_X0_argument hm c7 e9) mw_X0_argument im_X0_argument se_X0_argument ml_X9_119 (kt_X0 c7) (by decide) rfl rfl rfl (by decide) (by decide) (Nat.le_of_ble_eq_true rfl) dX9_flowFits_5 rfl rfl ?_
  refine v_istore_n (pc := 8) (lv' := [(2, .int p8.1), (0, .ref (bo X + pp 107)), (1, .int x1)]) O dX9_flowFits_8 rfl (by rw [hn]; decide) rfl ?_
  refine v_aload_n (pc := 9) O dX9_flowFits_9 1 rfl ?_
  refine v_getK (pc := 10) (a := 107) O hm gf_X9_6 fl_X9_22 kq_107 lk_107_6 dX9_flowFits_10 ?_
  refine v_iload_n (pc := 13) O dX9_flowFits_13 2 rfl ?_
  obtain ⟨c10, h⟩ := or_none h
  refine v_iald (pc := 14) (a := 114) O kq_114 (inq lq_114 c10) dX9_flowFits_14 ?_
  refine v_aload_n (pc := 15) O dX9_flowFits_15 1 rfl ?_
  refine v_iload_n (pc := 16) O dX9_flowFits_16 2 rfl ?_
  obtain ⟨p11, e12, h⟩ := bind_some h
  refine v_callV (pc := 17) (a := 107) (As := [.int x1]) (rest := [.int (dI p8.2 114 (x1).toNatClampNeg)]) (r := (some (.int p11.1))) (D' := p11.2) O (bb0 hz) (c_X9_shadeTaken hm e12) mw_X9_shadeTaken im_X9_shadeTaken se_X9_shadeTaken ml_X9_178 kq_107 (by decide) rfl rfl rfl (by decide) (by decide) (Nat.le_of_ble_eq_true rfl) dX9_flowFits_17 rfl rfl ?_
  refine v_ior (pc := 20) O dX9_flowFits_20 ?_
  refine v_istore_n (pc := 21) (lv' := [(3, .int ((dI p8.2 114 (x1).toNatClampNeg) ||| p11.1)), (2, .int p8.1), (0, .ref (bo X + pp 107)), (1, .int x1)]) O dX9_flowFits_21 rfl (by rw [hn]; decide) rfl ?_
  refine v_aload_n (pc := 22) O dX9_flowFits_22 2 rfl ?_
  refine v_getR (pc := 23) (a := 107) O gf_X9_2 fl_X9_83 kq_107 dX9_flowFits_23 ?_
  refine v_iload_n (pc := 26) O dX9_flowFits_26 3 rfl ?_
  obtain ⟨a13, e14, h⟩ := bind_some h
  rw [e14]
  obtain ⟨c15, h⟩ := if_none h
  obtain ⟨p16, e17, h⟩ := bind_some h
  refine v_callV (pc := 27) (a := a13) (As := [.int x1]) (rest := []) (r := (some (.int p16.1))) (D' := p16.2) O (bb0 hz) (c_X0_operation hm c15 e17) mw_X0_operation im_X0_operation se_X0_operation ml_X9_116 (kt_X0 c15) (by decide) rfl rfl rfl (by decide) (by decide) (Nat.le_of_ble_eq_true rfl) dX9_flowFits_27 rfl rfl ?_
  by_cases c18 : p16.1 = (2 : Int32)
  · have h := (if_pos c18).symm.trans h
    refine v_lookup (pc := 30) 72 O dX9_flowFits_30 (by decide) (by rw [c18]) (by decide) ?_
    refine v_iload_n (pc := 72) O dX9_flowFits_72 1 rfl ?_
    refine v_iflt (pc := 73) 109 O dX9_flowFits_73 (by decide) (fun c19 => ?_) (fun c19 => ?_)
    · have h := (if_pos c19).symm.trans h
      refine v_sub [] rfl ?_
      exact w_X9_flowFits_b109 O hm hn hz p16.2 h
    · have h := (if_neg c19).symm.trans h
      refine v_iload_n (pc := 76) O dX9_flowFits_76 1 rfl ?_
      refine v_bipush (pc := 77) O dX9_flowFits_77 bp_26 ?_
      refine v_icmpge (pc := 79) 109 O dX9_flowFits_79 (by decide) (fun c20 => ?_) (fun c20 => ?_)
      · have h := (if_pos c20).symm.trans h
        refine v_sub [] rfl ?_
        exact w_X9_flowFits_b109 O hm hn hz p16.2 h
      · have h := (if_neg c20).symm.trans h
        refine v_aload_n (pc := 82) O dX9_flowFits_82 2 rfl ?_
        refine v_getR (pc := 83) (a := 107) O gf_X9_3 fl_X9_87 kq_107 dX9_flowFits_83 ?_
        refine v_iload_n (pc := 86) O dX9_flowFits_86 1 rfl ?_
        obtain ⟨a21, e22, h⟩ := bind_some h
        rw [e22]
        obtain ⟨c23, h⟩ := if_none h
        obtain ⟨c24, h⟩ := or_none h
        refine v_iald (pc := 87) (a := a21) O c23 (inq rfl c24) dX9_flowFits_87 ?_
        refine v_iconst (pc := 88) O dX9_flowFits_88 ic_m1 ?_
        refine v_icmpeq (pc := 89) 109 O dX9_flowFits_89 (by decide) (fun c25 => ?_) (fun c25 => ?_)
        · have h := (if_pos c25).symm.trans h
          refine v_sub [] rfl ?_
          exact w_X9_flowFits_b109 O hm hn hz p16.2 h
        · have h := (if_neg c25).symm.trans h
          refine v_aload_n (pc := 92) O dX9_flowFits_92 2 rfl ?_
          refine v_getK (pc := 93) (a := 107) O hm gf_X9_0 fl_X9_33 kq_107 lk_107_0 dX9_flowFits_93 ?_
          refine v_iload_n (pc := 96) O dX9_flowFits_96 0 rfl ?_
          refine v_aload_n (pc := 97) O dX9_flowFits_97 2 rfl ?_
          refine v_getR (pc := 98) (a := 107) O gf_X9_3 fl_X9_87 kq_107 dX9_flowFits_98 ?_
          refine v_iload_n (pc := 101) O dX9_flowFits_101 1 rfl ?_
          obtain ⟨a26, e27, h⟩ := bind_some h
          rw [e27]
          obtain ⟨c28, h⟩ := if_none h
          obtain ⟨c29, h⟩ := or_none h
          refine v_iald (pc := 102) (a := a26) O c28 (inq rfl c29) dX9_flowFits_102 ?_
          obtain ⟨p30, e31, h⟩ := bind_some h
          refine v_callV (pc := 103) (a := 1) (As := [.int ((dI p8.2 114 (x1).toNatClampNeg) ||| p11.1), .int (dI p16.2 a26 (p8.1).toNatClampNeg)]) (rest := []) (r := (some (.int p30.1))) (D' := p30.2) O (bb0 hz) (c_X2_fits hm e31) mw_X2_fits im_X2_fits se_X2_fits ml_X9_197 kq_1 (by decide) rfl rfl rfl (by decide) (by decide) (Nat.le_of_ble_eq_true rfl) dX9_flowFits_103 rfl rfl ?_
          refine v_ifeq (pc := 106) 113 O dX9_flowFits_106 (by decide) (fun c32 => ?_) (fun c32 => ?_)
          · have h := (if_pos c32).symm.trans h
            refine v_iconst (pc := 113) O dX9_flowFits_113 ic_0 ?_
            refine v_sub [] rfl ?_
            exact w_X9_flowFits_b114 O hm hn hz 0 p30.2 h
          · have h := (if_neg c32).symm.trans h
            refine v_sub [] rfl ?_
            exact w_X9_flowFits_b109 O hm hn hz p30.2 h
  · have h := (if_neg c18).symm.trans h
    by_cases c33 : p16.1 = (4 : Int32)
    · have h := (if_pos c33).symm.trans h
      refine v_lookup (pc := 30) 115 O dX9_flowFits_30 (by decide) (by rw [c33]) (by decide) ?_
      refine v_aload_n (pc := 115) O dX9_flowFits_115 2 rfl ?_
      refine v_getK (pc := 116) (a := 107) O hm gf_X9_0 fl_X9_33 kq_107 lk_107_0 dX9_flowFits_116 ?_
      refine v_iload_n (pc := 119) O dX9_flowFits_119 0 rfl ?_
      refine v_aload_n (pc := 120) O dX9_flowFits_120 2 rfl ?_
      refine v_iload_n (pc := 121) O dX9_flowFits_121 1 rfl ?_
      obtain ⟨p34, e35, h⟩ := bind_some h
      refine v_callV (pc := 122) (a := 107) (As := [.int p8.1]) (rest := [.int ((dI p8.2 114 (x1).toNatClampNeg) ||| p11.1), .ref (bo X + pp 1)]) (r := (some (.int p34.1))) (D' := p34.2) O (bb0 hz) (c_X9_rowMark hm e35) mw_X9_rowMark im_X9_rowMark se_X9_rowMark ml_X9_191 kq_107 (by decide) rfl rfl rfl (by decide) (by decide) (Nat.le_of_ble_eq_true rfl) dX9_flowFits_122 rfl rfl ?_
      obtain ⟨p36, e37, h⟩ := bind_some h
      refine v_callV (pc := 125) (a := 1) (As := [.int ((dI p8.2 114 (x1).toNatClampNeg) ||| p11.1), .int p34.1]) (rest := []) (r := (some (.int p36.1))) (D' := p36.2) O (bb0 hz) (c_X2_fits hm e37) mw_X2_fits im_X2_fits se_X2_fits ml_X9_197 kq_1 (by decide) rfl rfl rfl (by decide) (by decide) (Nat.le_of_ble_eq_true rfl) dX9_flowFits_125 rfl rfl ?_
      obtain ⟨c38, h⟩ := if_none h
      obtain rfl := Option.some.inj h
      exact v_zret (pc := 128) O hz (congrArg Value.int c38) dX9_flowFits_128
    · have h := (if_neg c33).symm.trans h
      by_cases c39 : p16.1 = (13 : Int32)
      · have h := (if_pos c39).symm.trans h
        refine v_lookup (pc := 30) 129 O dX9_flowFits_30 (by decide) (by rw [c39]) (by decide) ?_
        refine v_sub [2, 1, 0] rfl ?_
        exact w_X9_flowFits_b129 O hm hn hz p8.1 ((dI p8.2 114 (x1).toNatClampNeg) ||| p11.1) p16.2 h
      · have h := (if_neg c39).symm.trans h
        by_cases c40 : p16.1 = (14 : Int32)
        · have h := (if_pos c40).symm.trans h
          refine v_lookup (pc := 30) 129 O dX9_flowFits_30 (by decide) (by rw [c40]) (by decide) ?_
          refine v_sub [2, 1, 0] rfl ?_
          exact w_X9_flowFits_b129 O hm hn hz p8.1 ((dI p8.2 114 (x1).toNatClampNeg) ||| p11.1) p16.2 h
        · have h := (if_neg c40).symm.trans h
          refine v_lookup (pc := 30) 139 O dX9_flowFits_30 (by decide) (by have c18i := ne_i (2) rfl c18; have c33i := ne_i (4) rfl c33; have c39i := ne_i (13) rfl c39; have c40i := ne_i (14) rfl c40; exact lk_out _ _ _ (by simp [Ne.symm c18i, Ne.symm c33i, Ne.symm c39i, Ne.symm c40i])) (by decide) ?_
          refine v_iconst (pc := 139) O dX9_flowFits_139 ic_1 ?_
          obtain rfl := Option.some.inj h
          exact v_zret (pc := 140) O hz narrow_b1 dX9_flowFits_140
theorem c_X9_flowFits {l : Launch} {w : Wx} {n nu c u : Nat} {K : Nat → Nat} {N : Nat} (hm : wlm w = true) {x1 : Int32} {D : Dat} {z : Int32 × Dat} (h : f_X9_flowFits N nu K x1 D = some z) : C0 l w yX9_flowFits cX9_flowFits 4 (some .boolean) 4 87 [.ref (wb w + pp 107), .int x1] n (Ax nu K c u) D (some (.int z.1)) z.2 :=
  C0.of (by decide) (Nat.le_of_ble_eq_true rfl) (fun X e1 e2 e3 hz O => by
  subst e1
  subst e2
  exact w_X9_flowFits O hm e3 hz x1 D h)
def f_X11_below_b22 (N : Nat) (nu : Nat) (K : Nat → Nat) (D : Dat) : Option (Sum Nat Int32 × Dat) :=
  some (.inl 0, D)
set_option maxHeartbeats 4000000 in
theorem w_X11_below_b22 {X : Cx} {n nu c u : Nat} {K : Nat → Nat} {N : Nat} {z : Sum Nat Int32 × Dat} (O : Ok X cX11_below RX11 (some .int) 6 100) (hm : wlm (xw X) = true) (hn : xn X = 3) (hz : Z0 X (Ax nu K c u)) (hT : T1 X (zi z)) (D : Dat) (h : f_X11_below_b22 N nu K D = some z) : V X (Q1 X n (Ax nu K c u) (zi z)) n (Ax nu K c u) D 22 [] [] := by
  unfold f_X11_below_b22 at h
  obtain rfl := Option.some.inj h
  exact v_throw (pc := 22) (e := 0) O hz hT rfl tw_X11_114_116 (by decide) (Nat.le_of_ble_eq_true rfl) dX11_below_22 dX11_below_25 dX11_below_26 dX11_below_29
def f_X11_below (N : Nat) (nu : Nat) (K : Nat → Nat) (x1 : Int32) (x2 : Int32) (D : Dat) : Option (Sum Nat Int32 × Dat) :=
  (f_X2_has x1 D).bind (fun p1 => if p1.1 = 0 then (f_X11_below_b22 N nu K p1.2) else ((f_X2_has x2 p1.2).bind (fun p4 => if p4.1 = 0 then (f_X11_below_b22 N nu K p4.2) else ((f_X2_isSealed p4.2).bind (fun p7 => if p7.1 = 0 then ((f_X2_put N nu K x1 x2 p7.2).bind (fun p10 => (f_X2_pairs N nu K p10).bind (fun p12 => some (.inr p12.1, p12.2)))) else (some (.inl 1, p7.2)))))))
set_option maxHeartbeats 4000000 in
theorem w_X11_below {X : Cx} {n nu c u : Nat} {K : Nat → Nat} {N : Nat} {z : Sum Nat Int32 × Dat} (O : Ok X cX11_below RX11 (some .int) 6 100) (hm : wlm (xw X) = true) (hn : xn X = 3) (hz : Z0 X (Ax nu K c u)) (hT : T1 X (zi z)) (x1 : Int32) (x2 : Int32) (D : Dat) (h : f_X11_below N nu K x1 x2 D = some z) : V X (Q1 X n (Ax nu K c u) (zi z)) n (Ax nu K c u) D 0 [(0, .ref (bo X + pp 0)), (1, .int x1), (2, .int x2)] [] := by
  unfold f_X11_below at h
  refine v_aload_n (pc := 0) O dX11_below_0 0 rfl ?_
  refine v_getK (pc := 1) (a := 0) O hm gf_X11_0 fl_X11_23 kq_0 lk_0_0 dX11_below_1 ?_
  refine v_iload_n (pc := 4) O dX11_below_4 1 rfl ?_
  obtain ⟨p1, e2, h⟩ := bind_some h
  refine v_callV (pc := 5) (a := 1) (As := [.int x1]) (rest := []) (r := (some (.int p1.1))) (D' := p1.2) O (bb0 hz) (c_X2_has hm e2) mw_X2_has im_X2_has se_X2_has ml_X11_110 kq_1 (by decide) rfl rfl rfl (by decide) (by decide) (Nat.le_of_ble_eq_true rfl) dX11_below_5 rfl rfl ?_
  refine v_ifeq (pc := 8) 22 O dX11_below_8 (by decide) (fun c3 => ?_) (fun c3 => ?_)
  · have h := (if_pos c3).symm.trans h
    refine v_sub [] rfl ?_
    exact w_X11_below_b22 O hm hn hz hT p1.2 h
  · have h := (if_neg c3).symm.trans h
    refine v_aload_n (pc := 11) O dX11_below_11 0 rfl ?_
    refine v_getK (pc := 12) (a := 0) O hm gf_X11_0 fl_X11_23 kq_0 lk_0_0 dX11_below_12 ?_
    refine v_iload_n (pc := 15) O dX11_below_15 2 rfl ?_
    obtain ⟨p4, e5, h⟩ := bind_some h
    refine v_callV (pc := 16) (a := 1) (As := [.int x2]) (rest := []) (r := (some (.int p4.1))) (D' := p4.2) O (bb0 hz) (c_X2_has hm e5) mw_X2_has im_X2_has se_X2_has ml_X11_110 kq_1 (by decide) rfl rfl rfl (by decide) (by decide) (Nat.le_of_ble_eq_true rfl) dX11_below_16 rfl rfl ?_
    refine v_ifne (pc := 19) 30 O dX11_below_19 (by decide) (fun c6 => ?_) (fun c6 => ?_)
    · have h := (if_neg c6).symm.trans h
      refine v_aload_n (pc := 30) O dX11_below_30 0 rfl ?_
      refine v_getK (pc := 31) (a := 0) O hm gf_X11_0 fl_X11_23 kq_0 lk_0_0 dX11_below_31 ?_
      obtain ⟨p7, e8, h⟩ := bind_some h
      refine v_callV (pc := 34) (a := 1) (As := []) (rest := []) (r := (some (.int p7.1))) (D' := p7.2) O (bb0 hz) (c_X2_isSealed hm e8) mw_X2_isSealed im_X2_isSealed se_X2_isSealed ml_X11_117 kq_1 (by decide) rfl rfl rfl (by decide) (by decide) (Nat.le_of_ble_eq_true rfl) dX11_below_34 rfl rfl ?_
      refine v_ifeq (pc := 37) 48 O dX11_below_37 (by decide) (fun c9 => ?_) (fun c9 => ?_)
      · have h := (if_pos c9).symm.trans h
        refine v_aload_n (pc := 48) O dX11_below_48 0 rfl ?_
        refine v_getK (pc := 49) (a := 0) O hm gf_X11_0 fl_X11_23 kq_0 lk_0_0 dX11_below_49 ?_
        refine v_iload_n (pc := 52) O dX11_below_52 1 rfl ?_
        refine v_iload_n (pc := 53) O dX11_below_53 2 rfl ?_
        obtain ⟨p10, e11, h⟩ := bind_some h
        refine v_callV (pc := 54) (a := 1) (As := [.int x1, .int x2]) (rest := []) (r := none) (D' := p10) O (bb0 hz) (c_X2_put hm e11) mw_X2_put im_X2_put se_X2_put ml_X11_124 kq_1 (by decide) rfl rfl rfl (by decide) (by decide) (Nat.le_of_ble_eq_true rfl) dX11_below_54 rfl rfl ?_
        refine v_aload_n (pc := 57) O dX11_below_57 0 rfl ?_
        refine v_getK (pc := 58) (a := 0) O hm gf_X11_0 fl_X11_23 kq_0 lk_0_0 dX11_below_58 ?_
        obtain ⟨p12, e13, h⟩ := bind_some h
        refine v_callV (pc := 61) (a := 1) (As := []) (rest := []) (r := (some (.int p12.1))) (D' := p12.2) O (bb0 hz) (c_X2_pairs hm e13) mw_X2_pairs im_X2_pairs se_X2_pairs ml_X11_128 kq_1 (by decide) rfl rfl rfl (by decide) (by decide) (Nat.le_of_ble_eq_true rfl) dX11_below_61 rfl rfl ?_
        obtain rfl := Option.some.inj h
        exact v_r1 (v_iret (pc := 64) O hz dX11_below_64)
      · have h := (if_neg c9).symm.trans h
        obtain rfl := Option.some.inj h
        exact v_throw (pc := 40) (e := 1) O hz hT rfl tw_X11_121_123 (by decide) (Nat.le_of_ble_eq_true rfl) dX11_below_40 dX11_below_43 dX11_below_44 dX11_below_47
    · have h := (if_pos c6).symm.trans h
      refine v_sub [] rfl ?_
      exact w_X11_below_b22 O hm hn hz hT p4.2 h
theorem c_X11_below {l : Launch} {w : Wx} {n nu c u : Nat} {K : Nat → Nat} {N : Nat} (hl : l.stackTraces = false) (hm : wlm w = true) {x1 : Int32} {x2 : Int32} {D : Dat} {z : Sum Nat Int32 × Dat} (h : f_X11_below N nu K x1 x2 D = some z) : C1 l w yX11_below cX11_below 3 (some .int) 6 100 [.ref (wb w + pp 0), .int x1, .int x2] n (Ax nu K c u) D (zi z) :=
  C1.of hl (by decide) (Nat.le_of_ble_eq_true rfl) (fun X e1 e2 e3 hz hT O => by
  subst e1
  subst e2
  exact w_X11_below O hm e3 hz hT x1 x2 D h)
def f_X11_feed (x1 : Int32) (x2 : Int32) (D : Dat) : Option (Sum Nat Int32 × Dat) :=
  (f_X2_has x1 D).bind (fun p1 => if p1.1 = 0 then (some (.inl 0, p1.2)) else ((f_X3_fed x1 p1.2).bind (fun p4 => if p4.1 < 20 then ((f_X3_addInput x1 x2 p4.2).bind (fun p7 => (f_X3_fed x1 p7).bind (fun p9 => some (.inr p9.1, p9.2)))) else (some (.inl 1, p4.2)))))
set_option maxHeartbeats 4000000 in
theorem w_X11_feed {X : Cx} {n nu c u : Nat} {K : Nat → Nat} {z : Sum Nat Int32 × Dat} (O : Ok X cX11_feed RX11 (some .int) 6 100) (hm : wlm (xw X) = true) (hn : xn X = 3) (hz : Z0 X (Ax nu K c u)) (hT : T1 X (zi z)) (x1 : Int32) (x2 : Int32) (D : Dat) (h : f_X11_feed x1 x2 D = some z) : V X (Q1 X n (Ax nu K c u) (zi z)) n (Ax nu K c u) D 0 [(0, .ref (bo X + pp 0)), (1, .int x1), (2, .int x2)] [] := by
  unfold f_X11_feed at h
  refine v_aload_n (pc := 0) O dX11_feed_0 0 rfl ?_
  refine v_getK (pc := 1) (a := 0) O hm gf_X11_0 fl_X11_23 kq_0 lk_0_0 dX11_feed_1 ?_
  refine v_iload_n (pc := 4) O dX11_feed_4 1 rfl ?_
  obtain ⟨p1, e2, h⟩ := bind_some h
  refine v_callV (pc := 5) (a := 1) (As := [.int x1]) (rest := []) (r := (some (.int p1.1))) (D' := p1.2) O (bb0 hz) (c_X2_has hm e2) mw_X2_has im_X2_has se_X2_has ml_X11_110 kq_1 (by decide) rfl rfl rfl (by decide) (by decide) (Nat.le_of_ble_eq_true rfl) dX11_feed_5 rfl rfl ?_
  refine v_ifne (pc := 8) 19 O dX11_feed_8 (by decide) (fun c3 => ?_) (fun c3 => ?_)
  · have h := (if_neg c3).symm.trans h
    refine v_aload_n (pc := 19) O dX11_feed_19 0 rfl ?_
    refine v_getK (pc := 20) (a := 0) O hm gf_X11_5 fl_X11_60 kq_0 lk_0_5 dX11_feed_20 ?_
    refine v_iload_n (pc := 23) O dX11_feed_23 1 rfl ?_
    obtain ⟨p4, e5, h⟩ := bind_some h
    refine v_callV (pc := 24) (a := 181) (As := [.int x1]) (rest := []) (r := (some (.int p4.1))) (D' := p4.2) O (bb0 hz) (c_X3_fed hm e5) mw_X3_fed im_X3_fed se_X3_fed ml_X11_243 kq_181 (by decide) rfl rfl rfl (by decide) (by decide) (Nat.le_of_ble_eq_true rfl) dX11_feed_24 rfl rfl ?_
    refine v_bipush (pc := 27) O dX11_feed_27 bp_20 ?_
    refine v_icmplt (pc := 29) 40 O dX11_feed_29 (by decide) (fun c6 => ?_) (fun c6 => ?_)
    · have h := (if_pos c6).symm.trans h
      refine v_aload_n (pc := 40) O dX11_feed_40 0 rfl ?_
      refine v_getK (pc := 41) (a := 0) O hm gf_X11_5 fl_X11_60 kq_0 lk_0_5 dX11_feed_41 ?_
      refine v_iload_n (pc := 44) O dX11_feed_44 1 rfl ?_
      refine v_iload_n (pc := 45) O dX11_feed_45 2 rfl ?_
      obtain ⟨p7, e8, h⟩ := bind_some h
      refine v_callV (pc := 46) (a := 181) (As := [.int x1, .int x2]) (rest := []) (r := none) (D' := p7) O (bb0 hz) (c_X3_addInput hm e8) mw_X3_addInput im_X3_addInput se_X3_addInput ml_X11_246 kq_181 (by decide) rfl rfl rfl (by decide) (by decide) (Nat.le_of_ble_eq_true rfl) dX11_feed_46 rfl rfl ?_
      refine v_aload_n (pc := 49) O dX11_feed_49 0 rfl ?_
      refine v_getK (pc := 50) (a := 0) O hm gf_X11_5 fl_X11_60 kq_0 lk_0_5 dX11_feed_50 ?_
      refine v_iload_n (pc := 53) O dX11_feed_53 1 rfl ?_
      obtain ⟨p9, e10, h⟩ := bind_some h
      refine v_callV (pc := 54) (a := 181) (As := [.int x1]) (rest := []) (r := (some (.int p9.1))) (D' := p9.2) O (bb0 hz) (c_X3_fed hm e10) mw_X3_fed im_X3_fed se_X3_fed ml_X11_243 kq_181 (by decide) rfl rfl rfl (by decide) (by decide) (Nat.le_of_ble_eq_true rfl) dX11_feed_54 rfl rfl ?_
      obtain rfl := Option.some.inj h
      exact v_r1 (v_iret (pc := 57) O hz dX11_feed_57)
    · have h := (if_neg c6).symm.trans h
      obtain rfl := Option.some.inj h
      exact v_throw (pc := 32) (e := 1) O hz hT rfl tw_X11_121_123 (by decide) (Nat.le_of_ble_eq_true rfl) dX11_feed_32 dX11_feed_35 dX11_feed_36 dX11_feed_39
  · have h := (if_pos c3).symm.trans h
    obtain rfl := Option.some.inj h
    exact v_throw (pc := 11) (e := 0) O hz hT rfl tw_X11_114_116 (by decide) (Nat.le_of_ble_eq_true rfl) dX11_feed_11 dX11_feed_14 dX11_feed_15 dX11_feed_18
theorem c_X11_feed {l : Launch} {w : Wx} {n nu c u : Nat} {K : Nat → Nat} (hl : l.stackTraces = false) (hm : wlm w = true) {x1 : Int32} {x2 : Int32} {D : Dat} {z : Sum Nat Int32 × Dat} (h : f_X11_feed x1 x2 D = some z) : C1 l w yX11_feed cX11_feed 3 (some .int) 6 100 [.ref (wb w + pp 0), .int x1, .int x2] n (Ax nu K c u) D (zi z) :=
  C1.of hl (by decide) (Nat.le_of_ble_eq_true rfl) (fun X e1 e2 e3 hz hT O => by
  subst e1
  subst e2
  exact w_X11_feed O hm e3 hz hT x1 x2 D h)
def f_X11_drain (x1 : Int32) (D : Dat) : Option (Sum Nat Int32 × Dat) :=
  (f_X2_has x1 D).bind (fun p1 => if p1.1 = 0 then (some (.inl 0, p1.2)) else ((f_X3_fed x1 p1.2).bind (fun p4 => (f_X3_emptyInput x1 p4.2).bind (fun p6 => some (.inr p4.1, p6)))))
set_option maxHeartbeats 4000000 in
theorem w_X11_drain {X : Cx} {n nu c u : Nat} {K : Nat → Nat} {z : Sum Nat Int32 × Dat} (O : Ok X cX11_drain RX11 (some .int) 6 100) (hm : wlm (xw X) = true) (hn : xn X = 3) (hz : Z0 X (Ax nu K c u)) (hT : T1 X (zi z)) (x1 : Int32) (D : Dat) (h : f_X11_drain x1 D = some z) : V X (Q1 X n (Ax nu K c u) (zi z)) n (Ax nu K c u) D 0 [(0, .ref (bo X + pp 0)), (1, .int x1)] [] := by
  unfold f_X11_drain at h
  refine v_aload_n (pc := 0) O dX11_drain_0 0 rfl ?_
  refine v_getK (pc := 1) (a := 0) O hm gf_X11_0 fl_X11_23 kq_0 lk_0_0 dX11_drain_1 ?_
  refine v_iload_n (pc := 4) O dX11_drain_4 1 rfl ?_
  obtain ⟨p1, e2, h⟩ := bind_some h
  refine v_callV (pc := 5) (a := 1) (As := [.int x1]) (rest := []) (r := (some (.int p1.1))) (D' := p1.2) O (bb0 hz) (c_X2_has hm e2) mw_X2_has im_X2_has se_X2_has ml_X11_110 kq_1 (by decide) rfl rfl rfl (by decide) (by decide) (Nat.le_of_ble_eq_true rfl) dX11_drain_5 rfl rfl ?_
  refine v_ifne (pc := 8) 19 O dX11_drain_8 (by decide) (fun c3 => ?_) (fun c3 => ?_)
  · have h := (if_neg c3).symm.trans h
    refine v_aload_n (pc := 19) O dX11_drain_19 0 rfl ?_
    refine v_getK (pc := 20) (a := 0) O hm gf_X11_5 fl_X11_60 kq_0 lk_0_5 dX11_drain_20 ?_
    refine v_iload_n (pc := 23) O dX11_drain_23 1 rfl ?_
    obtain ⟨p4, e5, h⟩ := bind_some h
    refine v_callV (pc := 24) (a := 181) (As := [.int x1]) (rest := []) (r := (some (.int p4.1))) (D' := p4.2) O (bb0 hz) (c_X3_fed hm e5) mw_X3_fed im_X3_fed se_X3_fed ml_X11_243 kq_181 (by decide) rfl rfl rfl (by decide) (by decide) (Nat.le_of_ble_eq_true rfl) dX11_drain_24 rfl rfl ?_
    refine v_istore_n (pc := 27) (lv' := [(2, .int p4.1), (0, .ref (bo X + pp 0)), (1, .int x1)]) O dX11_drain_27 rfl (by rw [hn]; decide) rfl ?_
    refine v_aload_n (pc := 28) O dX11_drain_28 1 rfl ?_
    refine v_getK (pc := 29) (a := 0) O hm gf_X11_5 fl_X11_60 kq_0 lk_0_5 dX11_drain_29 ?_
    refine v_iload_n (pc := 32) O dX11_drain_32 2 rfl ?_
    obtain ⟨p6, e7, h⟩ := bind_some h
    refine v_callV (pc := 33) (a := 181) (As := [.int x1]) (rest := []) (r := none) (D' := p6) O (bb0 hz) (c_X3_emptyInput hm e7) mw_X3_emptyInput im_X3_emptyInput se_X3_emptyInput ml_X11_249 kq_181 (by decide) rfl rfl rfl (by decide) (by decide) (Nat.le_of_ble_eq_true rfl) dX11_drain_33 rfl rfl ?_
    refine v_iload_n (pc := 36) O dX11_drain_36 0 rfl ?_
    obtain rfl := Option.some.inj h
    exact v_r1 (v_iret (pc := 37) O hz dX11_drain_37)
  · have h := (if_pos c3).symm.trans h
    obtain rfl := Option.some.inj h
    exact v_throw (pc := 11) (e := 0) O hz hT rfl tw_X11_114_116 (by decide) (Nat.le_of_ble_eq_true rfl) dX11_drain_11 dX11_drain_14 dX11_drain_15 dX11_drain_18
theorem c_X11_drain {l : Launch} {w : Wx} {n nu c u : Nat} {K : Nat → Nat} (hl : l.stackTraces = false) (hm : wlm w = true) {x1 : Int32} {D : Dat} {z : Sum Nat Int32 × Dat} (h : f_X11_drain x1 D = some z) : C1 l w yX11_drain cX11_drain 3 (some .int) 6 100 [.ref (wb w + pp 0), .int x1] n (Ax nu K c u) D (zi z) :=
  C1.of hl (by decide) (Nat.le_of_ble_eq_true rfl) (fun X e1 e2 e3 hz hT O => by
  subst e1
  subst e2
  exact w_X11_drain O hm e3 hz hT x1 D h)
def f_X11_output_b15 (D : Dat) : Option (Sum Nat Int32 × Dat) :=
  some (.inl 0, D)
set_option maxHeartbeats 4000000 in
theorem w_X11_output_b15 {X : Cx} {n nu c u : Nat} {K : Nat → Nat} {z : Sum Nat Int32 × Dat} (O : Ok X cX11_output RX11 (some .int) 6 100) (hm : wlm (xw X) = true) (hn : xn X = 3) (hz : Z0 X (Ax nu K c u)) (hT : T1 X (zi z)) (D : Dat) (h : f_X11_output_b15 D = some z) : V X (Q1 X n (Ax nu K c u) (zi z)) n (Ax nu K c u) D 15 [] [] := by
  unfold f_X11_output_b15 at h
  obtain rfl := Option.some.inj h
  exact v_throw (pc := 15) (e := 0) O hz hT rfl tw_X11_114_116 (by decide) (Nat.le_of_ble_eq_true rfl) dX11_output_15 dX11_output_18 dX11_output_19 dX11_output_22
def f_X11_output (x1 : Int32) (x2 : Int32) (D : Dat) : Option (Sum Nat Int32 × Dat) :=
  (f_X2_has x1 D).bind (fun p1 => if p1.1 = 0 then (f_X11_output_b15 p1.2) else (if 0 ≤ x2 then ((f_X3_written x1 p1.2).bind (fun p5 => if x2 < p5.1 then ((f_X3_numberPut x1 x2 p5.2).bind (fun p8 => some (.inr p8.1, p8.2))) else (some (.inl 4, p5.2)))) else (f_X11_output_b15 p1.2)))
set_option maxHeartbeats 4000000 in
theorem w_X11_output {X : Cx} {n nu c u : Nat} {K : Nat → Nat} {z : Sum Nat Int32 × Dat} (O : Ok X cX11_output RX11 (some .int) 6 100) (hm : wlm (xw X) = true) (hn : xn X = 3) (hz : Z0 X (Ax nu K c u)) (hT : T1 X (zi z)) (x1 : Int32) (x2 : Int32) (D : Dat) (h : f_X11_output x1 x2 D = some z) : V X (Q1 X n (Ax nu K c u) (zi z)) n (Ax nu K c u) D 0 [(0, .ref (bo X + pp 0)), (1, .int x1), (2, .int x2)] [] := by
  unfold f_X11_output at h
  refine v_aload_n (pc := 0) O dX11_output_0 0 rfl ?_
  refine v_getK (pc := 1) (a := 0) O hm gf_X11_0 fl_X11_23 kq_0 lk_0_0 dX11_output_1 ?_
  refine v_iload_n (pc := 4) O dX11_output_4 1 rfl ?_
  obtain ⟨p1, e2, h⟩ := bind_some h
  refine v_callV (pc := 5) (a := 1) (As := [.int x1]) (rest := []) (r := (some (.int p1.1))) (D' := p1.2) O (bb0 hz) (c_X2_has hm e2) mw_X2_has im_X2_has se_X2_has ml_X11_110 kq_1 (by decide) rfl rfl rfl (by decide) (by decide) (Nat.le_of_ble_eq_true rfl) dX11_output_5 rfl rfl ?_
  refine v_ifeq (pc := 8) 15 O dX11_output_8 (by decide) (fun c3 => ?_) (fun c3 => ?_)
  · have h := (if_pos c3).symm.trans h
    refine v_sub [] rfl ?_
    exact w_X11_output_b15 O hm hn hz hT p1.2 h
  · have h := (if_neg c3).symm.trans h
    refine v_iload_n (pc := 11) O dX11_output_11 2 rfl ?_
    refine v_ifge (pc := 12) 23 O dX11_output_12 (by decide) (fun c4 => ?_) (fun c4 => ?_)
    · have h := (if_pos c4).symm.trans h
      refine v_iload_n (pc := 23) O dX11_output_23 2 rfl ?_
      refine v_aload_n (pc := 24) O dX11_output_24 0 rfl ?_
      refine v_getK (pc := 25) (a := 0) O hm gf_X11_5 fl_X11_60 kq_0 lk_0_5 dX11_output_25 ?_
      refine v_iload_n (pc := 28) O dX11_output_28 1 rfl ?_
      obtain ⟨p5, e6, h⟩ := bind_some h
      refine v_callV (pc := 29) (a := 181) (As := [.int x1]) (rest := [.int x2]) (r := (some (.int p5.1))) (D' := p5.2) O (bb0 hz) (c_X3_written hm e6) mw_X3_written im_X3_written se_X3_written ml_X11_268 kq_181 (by decide) rfl rfl rfl (by decide) (by decide) (Nat.le_of_ble_eq_true rfl) dX11_output_29 rfl rfl ?_
      refine v_icmplt (pc := 32) 43 O dX11_output_32 (by decide) (fun c7 => ?_) (fun c7 => ?_)
      · have h := (if_pos c7).symm.trans h
        refine v_aload_n (pc := 43) O dX11_output_43 0 rfl ?_
        refine v_getK (pc := 44) (a := 0) O hm gf_X11_5 fl_X11_60 kq_0 lk_0_5 dX11_output_44 ?_
        refine v_iload_n (pc := 47) O dX11_output_47 1 rfl ?_
        refine v_iload_n (pc := 48) O dX11_output_48 2 rfl ?_
        obtain ⟨p8, e9, h⟩ := bind_some h
        refine v_callV (pc := 49) (a := 181) (As := [.int x1, .int x2]) (rest := []) (r := (some (.int p8.1))) (D' := p8.2) O (bb0 hz) (c_X3_numberPut hm e9) mw_X3_numberPut im_X3_numberPut se_X3_numberPut ml_X11_271 kq_181 (by decide) rfl rfl rfl (by decide) (by decide) (Nat.le_of_ble_eq_true rfl) dX11_output_49 rfl rfl ?_
        obtain rfl := Option.some.inj h
        exact v_r1 (v_iret (pc := 52) O hz dX11_output_52)
      · have h := (if_neg c7).symm.trans h
        obtain rfl := Option.some.inj h
        exact v_throw (pc := 35) (e := 4) O hz hT rfl tw_X11_183_185 (by decide) (Nat.le_of_ble_eq_true rfl) dX11_output_35 dX11_output_38 dX11_output_39 dX11_output_42
    · have h := (if_neg c4).symm.trans h
      refine v_sub [] rfl ?_
      exact w_X11_output_b15 O hm hn hz hT p1.2 h
theorem c_X11_output {l : Launch} {w : Wx} {n nu c u : Nat} {K : Nat → Nat} (hl : l.stackTraces = false) (hm : wlm w = true) {x1 : Int32} {x2 : Int32} {D : Dat} {z : Sum Nat Int32 × Dat} (h : f_X11_output x1 x2 D = some z) : C1 l w yX11_output cX11_output 3 (some .int) 6 100 [.ref (wb w + pp 0), .int x1, .int x2] n (Ax nu K c u) D (zi z) :=
  C1.of hl (by decide) (Nat.le_of_ble_eq_true rfl) (fun X e1 e2 e3 hz hT O => by
  subst e1
  subst e2
  exact w_X11_output O hm e3 hz hT x1 x2 D h)
