theorem ini_X1 : Cond.initialized RX1 ∈ tb := tb_of 164 (by decide +kernel) (by decide +kernel)
theorem ml_X11_197 : Cond.methodLink RX11 197 yX0_size ∈ tb := tb_of 547 (by decide +kernel) (by decide +kernel)
theorem fl_X11_73 : Cond.fieldLink RX11 73 RX11 (TX11 7).2.1 (TX11 7).2.2.1 ∈ tb := tb_of 501 (by decide +kernel) (by decide +kernel)
theorem gf_X11_7 : FI 11 RX11 TX11 16 tyX11 7 3 := ⟨rfl, inb_X11, tyX11_ok, nmX11, by decide, by decide, rfl, rfl, rfl⟩
theorem lk_0_7 : lks 0 7 = some 190 := by decide +kernel
theorem kq_190 {nu c u : Nat} {K : Nat → Nat} : (Ax nu K c u).1 190 = 14 := kd_lt (K := K) (a := 190) (by decide) rfl
theorem lq_190 {nu c u : Nat} {K : Nat → Nat} : (Ax nu K c u).2.1 190 = 52 := rfl
theorem cw_X0_empty : Cond.code yX0_empty cX0_empty 1 none ∈ tb := tb_of 554 (by decide +kernel) (by decide +kernel)
theorem mw_X0_empty : MW yX0_empty cX0_empty 1 none 0 := ⟨cw_X0_empty, ini_X0, by decide +kernel⟩
theorem im_X0_empty : Cond.instanceMethod yX0_empty ∈ tb := tb_of 552 (by decide +kernel) (by decide +kernel)
theorem se_X0_empty : Cond.selects (yX0_empty).cls yX0_empty yX0_empty ∈ tb := tb_of 553 (by decide +kernel) (by decide +kernel)
theorem ml_X11_206 : Cond.methodLink RX11 206 yX0_empty ∈ tb := tb_of 551 (by decide +kernel) (by decide +kernel)
theorem ml_X11_77 : Cond.methodLink RX11 77 yJ7_fill_53178 ∈ tb := tb_of 444 (by decide +kernel) (by decide +kernel)
theorem cw_X9_hasMaps : Cond.code yX9_hasMaps cX9_hasMaps 1 (some .boolean) ∈ tb := tb_of 1481 (by decide +kernel) (by decide +kernel)
theorem mw_X9_hasMaps : MW yX9_hasMaps cX9_hasMaps 1 (some .boolean) 0 := ⟨cw_X9_hasMaps, ini_X9, by decide +kernel⟩
theorem im_X9_hasMaps : Cond.instanceMethod yX9_hasMaps ∈ tb := tb_of 1479 (by decide +kernel) (by decide +kernel)
theorem se_X9_hasMaps : Cond.selects (yX9_hasMaps).cls yX9_hasMaps yX9_hasMaps ∈ tb := tb_of 1480 (by decide +kernel) (by decide +kernel)
theorem ml_X11_223 : Cond.methodLink RX11 223 yX9_hasMaps ∈ tb := tb_of 1478 (by decide +kernel) (by decide +kernel)
theorem fl_X11_86 : Cond.fieldLink RX11 86 RX11 (TX11 8).2.1 (TX11 8).2.2.1 ∈ tb := tb_of 502 (by decide +kernel) (by decide +kernel)
theorem gf_X11_8 : FI 11 RX11 TX11 16 tyX11 8 2 := ⟨rfl, inb_X11, tyX11_ok, nmX11, by decide, by decide, rfl, rfl, rfl⟩
theorem cw_X2_size : Cond.code yX2_size cX2_size 1 (some .int) ∈ tb := tb_of 1709 (by decide +kernel) (by decide +kernel)
theorem mw_X2_size : MW yX2_size cX2_size 1 (some .int) 0 := ⟨cw_X2_size, ini_X2, by decide +kernel⟩
theorem im_X2_size : Cond.instanceMethod yX2_size ∈ tb := tb_of 1707 (by decide +kernel) (by decide +kernel)
theorem se_X2_size : Cond.selects (yX2_size).cls yX2_size yX2_size ∈ tb := tb_of 1708 (by decide +kernel) (by decide +kernel)
theorem ml_X11_283 : Cond.methodLink RX11 283 yX2_size ∈ tb := tb_of 1706 (by decide +kernel) (by decide +kernel)
theorem fl_X11_90 : Cond.fieldLink RX11 90 RX11 (TX11 9).2.1 (TX11 9).2.2.1 ∈ tb := tb_of 503 (by decide +kernel) (by decide +kernel)
theorem gf_X11_9 : FI 11 RX11 TX11 16 tyX11 9 2 := ⟨rfl, inb_X11, tyX11_ok, nmX11, by decide, by decide, rfl, rfl, rfl⟩
theorem pf_X11_8 : PI 11 RX11 TX11 16 tyX11 8 2 (.object "FlowChain$Program") := ⟨gf_X11_8, rfl, rfl⟩
theorem pf_X11_9 : PI 11 RX11 TX11 16 tyX11 9 2 (.object "FlowChain$Program") := ⟨gf_X11_9, rfl, rfl⟩
theorem fl_X11_100 : Cond.fieldLink RX11 100 RX11 (TX11 11).2.1 (TX11 11).2.2.1 ∈ tb := tb_of 505 (by decide +kernel) (by decide +kernel)
theorem gf_X11_11 : FI 11 RX11 TX11 16 tyX11 11 2 := ⟨rfl, inb_X11, tyX11_ok, nmX11, by decide, by decide, rfl, rfl, rfl⟩
theorem pf_X11_10 : PI 11 RX11 TX11 16 tyX11 10 2 (.object "FlowChain$Code") := ⟨gf_X11_10, rfl, rfl⟩
theorem pf_X11_11 : PI 11 RX11 TX11 16 tyX11 11 2 (.object "FlowChain$Code") := ⟨gf_X11_11, rfl, rfl⟩
theorem cw_X4_copyMarks : Cond.code yX4_copyMarks cX4_copyMarks 2 none ∈ tb := tb_of 1271 (by decide +kernel) (by decide +kernel)
theorem mw_X4_copyMarks : MW yX4_copyMarks cX4_copyMarks 2 none 1 := ⟨cw_X4_copyMarks, ini_X4, by decide +kernel⟩
theorem im_X4_copyMarks : Cond.instanceMethod yX4_copyMarks ∈ tb := tb_of 1269 (by decide +kernel) (by decide +kernel)
theorem se_X4_copyMarks : Cond.selects (yX4_copyMarks).cls yX4_copyMarks yX4_copyMarks ∈ tb := tb_of 1270 (by decide +kernel) (by decide +kernel)
theorem ml_X11_293 : Cond.methodLink RX11 293 yX4_copyMarks ∈ tb := tb_of 1268 (by decide +kernel) (by decide +kernel)
theorem cw_X4_variableMark : Cond.code yX4_variableMark cX4_variableMark 2 (some .int) ∈ tb := tb_of 1158 (by decide +kernel) (by decide +kernel)
theorem mw_X4_variableMark : MW yX4_variableMark cX4_variableMark 2 (some .int) 1 := ⟨cw_X4_variableMark, ini_X4, by decide +kernel⟩
theorem im_X4_variableMark : Cond.instanceMethod yX4_variableMark ∈ tb := tb_of 1156 (by decide +kernel) (by decide +kernel)
theorem se_X4_variableMark : Cond.selects (yX4_variableMark).cls yX4_variableMark yX4_variableMark ∈ tb := tb_of 1157 (by decide +kernel) (by decide +kernel)
theorem ml_X1_35 : Cond.methodLink RX1 35 yX4_variableMark ∈ tb := tb_of 1155 (by decide +kernel) (by decide +kernel)
theorem cw_X5_arePlain : Cond.code yX5_arePlain cX5_arePlain 6 (some .boolean) ∈ tb := tb_of 760 (by decide +kernel) (by decide +kernel)
theorem mw_X5_arePlain : MW yX5_arePlain cX5_arePlain 6 (some .boolean) 2 := ⟨cw_X5_arePlain, ini_X5, by decide +kernel⟩
theorem sm_X5_arePlain : Cond.static yX5_arePlain ∈ tb := tb_of 759 (by decide +kernel) (by decide +kernel)
theorem ml_X11_161 : Cond.methodLink RX11 161 yX5_arePlain ∈ tb := tb_of 758 (by decide +kernel) (by decide +kernel)
theorem fl_X11_32 : Cond.fieldLink RX11 32 RX11 (TX11 1).2.1 (TX11 1).2.2.1 ∈ tb := tb_of 495 (by decide +kernel) (by decide +kernel)
theorem gf_X11_1 : FI 11 RX11 TX11 16 tyX11 1 3 := ⟨rfl, inb_X11, tyX11_ok, nmX11, by decide, by decide, rfl, rfl, rfl⟩
theorem lk_0_1 : lks 0 1 = some 3 := by decide +kernel
theorem cw_X5_length : Cond.code yX5_length cX5_length 1 (some .int) ∈ tb := tb_of 767 (by decide +kernel) (by decide +kernel)
theorem mw_X5_length : MW yX5_length cX5_length 1 (some .int) 0 := ⟨cw_X5_length, ini_X5, by decide +kernel⟩
theorem im_X5_length : Cond.instanceMethod yX5_length ∈ tb := tb_of 765 (by decide +kernel) (by decide +kernel)
theorem se_X5_length : Cond.selects (yX5_length).cls yX5_length yX5_length ∈ tb := tb_of 766 (by decide +kernel) (by decide +kernel)
theorem ml_X11_165 : Cond.methodLink RX11 165 yX5_length ∈ tb := tb_of 764 (by decide +kernel) (by decide +kernel)
theorem cw_X5_addSigns : Cond.code yX5_addSigns cX5_addSigns 5 none ∈ tb := tb_of 786 (by decide +kernel) (by decide +kernel)
theorem mw_X5_addSigns : MW yX5_addSigns cX5_addSigns 5 none 2 := ⟨cw_X5_addSigns, ini_X5, by decide +kernel⟩
theorem im_X5_addSigns : Cond.instanceMethod yX5_addSigns ∈ tb := tb_of 784 (by decide +kernel) (by decide +kernel)
theorem se_X5_addSigns : Cond.selects (yX5_addSigns).cls yX5_addSigns yX5_addSigns ∈ tb := tb_of 785 (by decide +kernel) (by decide +kernel)
theorem ml_X11_171 : Cond.methodLink RX11 171 yX5_addSigns ∈ tb := tb_of 783 (by decide +kernel) (by decide +kernel)
theorem tw_X11_168_170 : TW RX11 168 170 "java/lang/IndexOutOfBoundsException" := ⟨by decide +kernel, tb_of 768 (by decide +kernel) (by decide +kernel), tb_of 181 (by decide +kernel) (by decide +kernel), by decide +kernel, by decide +kernel, by decide +kernel⟩
theorem cw_X11_forgetFindings : Cond.code yX11_forgetFindings cX11_forgetFindings 1 none ∈ tb := tb_of 558 (by decide +kernel) (by decide +kernel)
theorem mw_X11_forgetFindings : MW yX11_forgetFindings cX11_forgetFindings 1 none 0 := ⟨cw_X11_forgetFindings, ini_X11, by decide +kernel⟩
theorem im_X11_forgetFindings : Cond.instanceMethod yX11_forgetFindings ∈ tb := tb_of 557 (by decide +kernel) (by decide +kernel)
theorem se_X11_forgetFindings : Cond.selects (yX11_forgetFindings).cls yX11_forgetFindings yX11_forgetFindings ∈ tb := tb_of 0 (by decide +kernel) (by decide +kernel)
theorem ml_X11_200 : Cond.methodLink RX11 200 yX11_forgetFindings ∈ tb := tb_of 555 (by decide +kernel) (by decide +kernel)
theorem ml_X11_203 : Cond.methodLink RX11 203 yX0_add ∈ tb := tb_of 1281 (by decide +kernel) (by decide +kernel)
theorem cw_X9_mapped : Cond.code yX9_mapped cX9_mapped 4 (some .int) ∈ tb := tb_of 1486 (by decide +kernel) (by decide +kernel)
theorem mw_X9_mapped : MW yX9_mapped cX9_mapped 4 (some .int) 2 := ⟨cw_X9_mapped, ini_X9, by decide +kernel⟩
theorem im_X9_mapped : Cond.instanceMethod yX9_mapped ∈ tb := tb_of 1484 (by decide +kernel) (by decide +kernel)
theorem se_X9_mapped : Cond.selects (yX9_mapped).cls yX9_mapped yX9_mapped ∈ tb := tb_of 1485 (by decide +kernel) (by decide +kernel)
theorem ml_X11_227 : Cond.methodLink RX11 227 yX9_mapped ∈ tb := tb_of 1483 (by decide +kernel) (by decide +kernel)
theorem ml_X11_234 : Cond.methodLink RX11 234 yX9_hasHeight ∈ tb := tb_of 1500 (by decide +kernel) (by decide +kernel)
theorem cw_X9_isInside : Cond.code yX9_isInside cX9_isInside 3 (some .boolean) ∈ tb := tb_of 1512 (by decide +kernel) (by decide +kernel)
theorem mw_X9_isInside : MW yX9_isInside cX9_isInside 3 (some .boolean) 2 := ⟨cw_X9_isInside, ini_X9, by decide +kernel⟩
theorem im_X9_isInside : Cond.instanceMethod yX9_isInside ∈ tb := tb_of 1510 (by decide +kernel) (by decide +kernel)
theorem se_X9_isInside : Cond.selects (yX9_isInside).cls yX9_isInside yX9_isInside ∈ tb := tb_of 1511 (by decide +kernel) (by decide +kernel)
theorem ml_X11_240 : Cond.methodLink RX11 240 yX9_isInside ∈ tb := tb_of 1509 (by decide +kernel) (by decide +kernel)
theorem cw_X9_nextOf : Cond.code yX9_nextOf cX9_nextOf 2 (some .int) ∈ tb := tb_of 1504 (by decide +kernel) (by decide +kernel)
theorem mw_X9_nextOf : MW yX9_nextOf cX9_nextOf 2 (some .int) 1 := ⟨cw_X9_nextOf, ini_X9, by decide +kernel⟩
theorem im_X9_nextOf : Cond.instanceMethod yX9_nextOf ∈ tb := tb_of 1502 (by decide +kernel) (by decide +kernel)
theorem se_X9_nextOf : Cond.selects (yX9_nextOf).cls yX9_nextOf yX9_nextOf ∈ tb := tb_of 1503 (by decide +kernel) (by decide +kernel)
theorem ml_X11_237 : Cond.methodLink RX11 237 yX9_nextOf ∈ tb := tb_of 1501 (by decide +kernel) (by decide +kernel)
theorem cw_X3_fuelTaken : Cond.code yX3_fuelTaken cX3_fuelTaken 1 (some .int) ∈ tb := tb_of 1713 (by decide +kernel) (by decide +kernel)
theorem mw_X3_fuelTaken : MW yX3_fuelTaken cX3_fuelTaken 1 (some .int) 0 := ⟨cw_X3_fuelTaken, ini_X3, by decide +kernel⟩
theorem im_X3_fuelTaken : Cond.instanceMethod yX3_fuelTaken ∈ tb := tb_of 1711 (by decide +kernel) (by decide +kernel)
theorem se_X3_fuelTaken : Cond.selects (yX3_fuelTaken).cls yX3_fuelTaken yX3_fuelTaken ∈ tb := tb_of 1712 (by decide +kernel) (by decide +kernel)
theorem ml_X11_284 : Cond.methodLink RX11 284 yX3_fuelTaken ∈ tb := tb_of 1710 (by decide +kernel) (by decide +kernel)
theorem cw_X1_demand : Cond.code yX1_demand cX1_demand 4 none ∈ tb := tb_of 1190 (by decide +kernel) (by decide +kernel)
theorem mw_X1_demand : MW yX1_demand cX1_demand 4 none 3 := ⟨cw_X1_demand, ini_X1, by decide +kernel⟩
theorem im_X1_demand : Cond.instanceMethod yX1_demand ∈ tb := tb_of 1189 (by decide +kernel) (by decide +kernel)
theorem se_X1_demand : Cond.selects (yX1_demand).cls yX1_demand yX1_demand ∈ tb := tb_of 39 (by decide +kernel) (by decide +kernel)
theorem ml_X1_72 : Cond.methodLink RX1 72 yX1_demand ∈ tb := tb_of 1187 (by decide +kernel) (by decide +kernel)
def f_X11_append_b19 (N : Nat) (D : Dat) : Option (Sum Nat Int32 × Dat) :=
  some (.inl 0, D)
set_option maxHeartbeats 4000000 in
theorem w_X11_append_b19 {X : Cx} {n nu c u : Nat} {K : Nat → Nat} {N : Nat} {z : Sum Nat Int32 × Dat} (O : Ok X cX11_append RX11 (some .int) 6 100) (hm : wlm (xw X) = true) (hn : xn X = 4) (hz : Z0 X (Ax nu K c u)) (hT : T1 X (zi z)) (D : Dat) (h : f_X11_append_b19 N D = some z) : V X (Q1 X n (Ax nu K c u) (zi z)) n (Ax nu K c u) D 19 [] [] := by
  unfold f_X11_append_b19 at h
  obtain rfl := Option.some.inj h
  exact v_throw (pc := 19) (e := 0) O hz hT rfl tw_X11_114_116 (by decide) (Nat.le_of_ble_eq_true rfl) dX11_append_19 dX11_append_22 dX11_append_23 dX11_append_26
def f_X11_append (N : Nat) (x1 : Int64) (x3 : Int32) (D : Dat) : Option (Sum Nat Int32 × Dat) :=
  if x3 < 1 then (f_X11_append_b19 N D) else (if 8 < x3 then (f_X11_append_b19 N D) else ((f_X5_arePlain N x1 x3 D).bind (fun p3 => if p3.1 = 0 then (f_X11_append_b19 N p3.2) else ((f_X5_length p3.2).bind (fun p6 => if (p6.1 + x3) ≤ 240 then ((f_X5_addSigns N x1 x3 p6.2).bind (fun p9 => (f_X5_length p9).bind (fun p11 => some (.inr p11.1, p11.2)))) else (some (.inl 3, p6.2)))))))
set_option maxHeartbeats 4000000 in
theorem w_X11_append {X : Cx} {n nu c u : Nat} {K : Nat → Nat} {N : Nat} {z : Sum Nat Int32 × Dat} (O : Ok X cX11_append RX11 (some .int) 6 100) (hm : wlm (xw X) = true) (hn : xn X = 4) (hz : Z0 X (Ax nu K c u)) (hT : T1 X (zi z)) (x1 : Int64) (x3 : Int32) (D : Dat) (h : f_X11_append N x1 x3 D = some z) : V X (Q1 X n (Ax nu K c u) (zi z)) n (Ax nu K c u) D 0 [(0, .ref (bo X + pp 0)), (1, .long x1), (3, .int x3)] [] := by
  unfold f_X11_append at h
  refine v_iload_n (pc := 0) O dX11_append_0 2 rfl ?_
  refine v_iconst (pc := 1) O dX11_append_1 ic_1 ?_
  refine v_icmplt (pc := 2) 19 O dX11_append_2 (by decide) (fun c1 => ?_) (fun c1 => ?_)
  · have h := (if_pos c1).symm.trans h
    refine v_sub [] rfl ?_
    exact w_X11_append_b19 O hm hn hz hT D h
  · have h := (if_neg c1).symm.trans h
    refine v_iload_n (pc := 5) O dX11_append_5 2 rfl ?_
    refine v_bipush (pc := 6) O dX11_append_6 bp_8 ?_
    refine v_icmpgt (pc := 8) 19 O dX11_append_8 (by decide) (fun c2 => ?_) (fun c2 => ?_)
    · have h := (if_pos c2).symm.trans h
      refine v_sub [] rfl ?_
      exact w_X11_append_b19 O hm hn hz hT D h
    · have h := (if_neg c2).symm.trans h
      refine v_lload_n (pc := 11) O dX11_append_11 1 rfl ?_
      refine v_iload_n (pc := 12) O dX11_append_12 2 rfl ?_
      obtain ⟨p3, e4, h⟩ := bind_some h
      refine v_callS (pc := 13) (As := [.long x1, .int x3]) (rest := []) (r := (some (.int p3.1))) (D' := p3.2) O (bb0 hz) (c_X5_arePlain hm e4) mw_X5_arePlain sm_X5_arePlain ml_X11_161 rfl (by decide) (by decide) (Nat.le_of_ble_eq_true rfl) dX11_append_13 rfl rfl ?_
      refine v_ifne (pc := 16) 27 O dX11_append_16 (by decide) (fun c5 => ?_) (fun c5 => ?_)
      · have h := (if_neg c5).symm.trans h
        refine v_aload_n (pc := 27) O dX11_append_27 0 rfl ?_
        refine v_getK (pc := 28) (a := 0) O hm gf_X11_1 fl_X11_32 kq_0 lk_0_1 dX11_append_28 ?_
        obtain ⟨p6, e7, h⟩ := bind_some h
        refine v_callV (pc := 31) (a := 3) (As := []) (rest := []) (r := (some (.int p6.1))) (D' := p6.2) O (bb0 hz) (c_X5_length hm e7) mw_X5_length im_X5_length se_X5_length ml_X11_165 kq_3 (by decide) rfl rfl rfl (by decide) (by decide) (Nat.le_of_ble_eq_true rfl) dX11_append_31 rfl rfl ?_
        refine v_iload_n (pc := 34) O dX11_append_34 2 rfl ?_
        refine v_iadd (pc := 35) O dX11_append_35 ?_
        refine v_sipush (pc := 36) O dX11_append_36 sp_240 ?_
        refine v_icmple (pc := 39) 50 O dX11_append_39 (by decide) (fun c8 => ?_) (fun c8 => ?_)
        · have h := (if_pos c8).symm.trans h
          refine v_aload_n (pc := 50) O dX11_append_50 0 rfl ?_
          refine v_getK (pc := 51) (a := 0) O hm gf_X11_1 fl_X11_32 kq_0 lk_0_1 dX11_append_51 ?_
          refine v_lload_n (pc := 54) O dX11_append_54 1 rfl ?_
          refine v_iload_n (pc := 55) O dX11_append_55 2 rfl ?_
          obtain ⟨p9, e10, h⟩ := bind_some h
          refine v_callV (pc := 56) (a := 3) (As := [.long x1, .int x3]) (rest := []) (r := none) (D' := p9) O (bb0 hz) (c_X5_addSigns hm e10) mw_X5_addSigns im_X5_addSigns se_X5_addSigns ml_X11_171 kq_3 (by decide) rfl rfl rfl (by decide) (by decide) (Nat.le_of_ble_eq_true rfl) dX11_append_56 rfl rfl ?_
          refine v_aload_n (pc := 59) O dX11_append_59 0 rfl ?_
          refine v_getK (pc := 60) (a := 0) O hm gf_X11_1 fl_X11_32 kq_0 lk_0_1 dX11_append_60 ?_
          obtain ⟨p11, e12, h⟩ := bind_some h
          refine v_callV (pc := 63) (a := 3) (As := []) (rest := []) (r := (some (.int p11.1))) (D' := p11.2) O (bb0 hz) (c_X5_length hm e12) mw_X5_length im_X5_length se_X5_length ml_X11_165 kq_3 (by decide) rfl rfl rfl (by decide) (by decide) (Nat.le_of_ble_eq_true rfl) dX11_append_63 rfl rfl ?_
          obtain rfl := Option.some.inj h
          exact v_r1 (v_iret (pc := 66) O hz dX11_append_66)
        · have h := (if_neg c8).symm.trans h
          obtain rfl := Option.some.inj h
          exact v_throw (pc := 42) (e := 3) O hz hT rfl tw_X11_168_170 (by decide) (Nat.le_of_ble_eq_true rfl) dX11_append_42 dX11_append_45 dX11_append_46 dX11_append_49
      · have h := (if_pos c5).symm.trans h
        refine v_sub [] rfl ?_
        exact w_X11_append_b19 O hm hn hz hT p3.2 h
theorem c_X11_append {l : Launch} {w : Wx} {n nu c u : Nat} {K : Nat → Nat} {N : Nat} (hl : l.stackTraces = false) (hm : wlm w = true) {x1 : Int64} {x3 : Int32} {D : Dat} {z : Sum Nat Int32 × Dat} (h : f_X11_append N x1 x3 D = some z) : C1 l w yX11_append cX11_append 4 (some .int) 6 100 [.ref (wb w + pp 0), .long x1, .int x3] n (Ax nu K c u) D (zi z) :=
  C1.of hl (by decide) (Nat.le_of_ble_eq_true rfl) (fun X e1 e2 e3 hz hT O => by
  subst e1
  subst e2
  exact w_X11_append O hm e3 hz hT x1 x3 D h)
def f_X11_code_b10 (D : Dat) : Option (Sum Nat Int32 × Dat) :=
  some (.inl 0, D)
set_option maxHeartbeats 4000000 in
theorem w_X11_code_b10 {X : Cx} {n nu c u : Nat} {K : Nat → Nat} {z : Sum Nat Int32 × Dat} (O : Ok X cX11_code RX11 (some .int) 6 100) (hm : wlm (xw X) = true) (hn : xn X = 3) (hz : Z0 X (Ax nu K c u)) (hT : T1 X (zi z)) (D : Dat) (h : f_X11_code_b10 D = some z) : V X (Q1 X n (Ax nu K c u) (zi z)) n (Ax nu K c u) D 10 [] [] := by
  unfold f_X11_code_b10 at h
  obtain rfl := Option.some.inj h
  exact v_throw (pc := 10) (e := 0) O hz hT rfl tw_X11_114_116 (by decide) (Nat.le_of_ble_eq_true rfl) dX11_code_10 dX11_code_13 dX11_code_14 dX11_code_17
def f_X11_code (x1 : Int32) (x2 : Int32) (D : Dat) : Option (Sum Nat Int32 × Dat) :=
  if x1 < 0 then (f_X11_code_b10 D) else (if x1 ≤ 15 then (((dR D 0 10)).bind (fun a3 => if a3 = 201 ∨ a3 = 204 then ((f_X0_size a3 D).bind (fun p6 => if p6.1 < 64 then ((f_X11_forgetFindings p6.2).bind (fun p9 => ((dR p9 0 10)).bind (fun a11 => if a11 = 201 ∨ a11 = 204 then ((f_X0_add a11 x1 x2 p9).bind (fun p14 => ((dR p14 0 10)).bind (fun a16 => if a16 = 201 ∨ a16 = 204 then ((f_X0_size a16 p14).bind (fun p19 => some (.inr (p19.1 - (1 : Int32)), p19.2))) else none))) else none))) else (some (.inl 1, p6.2)))) else none)) else (f_X11_code_b10 D))
set_option maxHeartbeats 4000000 in
theorem w_X11_code {X : Cx} {n nu c u : Nat} {K : Nat → Nat} {z : Sum Nat Int32 × Dat} (O : Ok X cX11_code RX11 (some .int) 6 100) (hm : wlm (xw X) = true) (hn : xn X = 3) (hz : Z0 X (Ax nu K c u)) (hT : T1 X (zi z)) (x1 : Int32) (x2 : Int32) (D : Dat) (h : f_X11_code x1 x2 D = some z) : V X (Q1 X n (Ax nu K c u) (zi z)) n (Ax nu K c u) D 0 [(0, .ref (bo X + pp 0)), (1, .int x1), (2, .int x2)] [] := by
  unfold f_X11_code at h
  refine v_iload_n (pc := 0) O dX11_code_0 1 rfl ?_
  refine v_iflt (pc := 1) 10 O dX11_code_1 (by decide) (fun c1 => ?_) (fun c1 => ?_)
  · have h := (if_pos c1).symm.trans h
    refine v_sub [] rfl ?_
    exact w_X11_code_b10 O hm hn hz hT D h
  · have h := (if_neg c1).symm.trans h
    refine v_iload_n (pc := 4) O dX11_code_4 1 rfl ?_
    refine v_bipush (pc := 5) O dX11_code_5 bp_15 ?_
    refine v_icmple (pc := 7) 18 O dX11_code_7 (by decide) (fun c2 => ?_) (fun c2 => ?_)
    · have h := (if_pos c2).symm.trans h
      refine v_aload_n (pc := 18) O dX11_code_18 0 rfl ?_
      refine v_getR (pc := 19) (a := 0) O gf_X11_10 fl_X11_96 kq_0 dX11_code_19 ?_
      obtain ⟨a3, e4, h⟩ := bind_some h
      rw [e4]
      obtain ⟨c5, h⟩ := if_none h
      obtain ⟨p6, e7, h⟩ := bind_some h
      refine v_callV (pc := 22) (a := a3) (As := []) (rest := []) (r := (some (.int p6.1))) (D' := p6.2) O (bb0 hz) (c_X0_size hm c5 e7) mw_X0_size im_X0_size se_X0_size ml_X11_197 (kt_X0 c5) (by decide) rfl rfl rfl (by decide) (by decide) (Nat.le_of_ble_eq_true rfl) dX11_code_22 rfl rfl ?_
      refine v_bipush (pc := 25) O dX11_code_25 bp_64 ?_
      refine v_icmplt (pc := 27) 38 O dX11_code_27 (by decide) (fun c8 => ?_) (fun c8 => ?_)
      · have h := (if_pos c8).symm.trans h
        refine v_aload_n (pc := 38) O dX11_code_38 0 rfl ?_
        obtain ⟨p9, e10, h⟩ := bind_some h
        refine v_callV (pc := 39) (a := 0) (As := []) (rest := []) (r := none) (D' := p9) O (bb0 hz) (c_X11_forgetFindings hm e10) mw_X11_forgetFindings im_X11_forgetFindings se_X11_forgetFindings ml_X11_200 kq_0 (by decide) rfl rfl rfl (by decide) (by decide) (Nat.le_of_ble_eq_true rfl) dX11_code_39 rfl rfl ?_
        refine v_aload_n (pc := 42) O dX11_code_42 0 rfl ?_
        refine v_getR (pc := 43) (a := 0) O gf_X11_10 fl_X11_96 kq_0 dX11_code_43 ?_
        refine v_iload_n (pc := 46) O dX11_code_46 1 rfl ?_
        refine v_iload_n (pc := 47) O dX11_code_47 2 rfl ?_
        obtain ⟨a11, e12, h⟩ := bind_some h
        rw [e12]
        obtain ⟨c13, h⟩ := if_none h
        obtain ⟨p14, e15, h⟩ := bind_some h
        refine v_callV (pc := 48) (a := a11) (As := [.int x1, .int x2]) (rest := []) (r := none) (D' := p14) O (bb0 hz) (c_X0_add hm c13 e15) mw_X0_add im_X0_add se_X0_add ml_X11_203 (kt_X0 c13) (by decide) rfl rfl rfl (by decide) (by decide) (Nat.le_of_ble_eq_true rfl) dX11_code_48 rfl rfl ?_
        refine v_aload_n (pc := 51) O dX11_code_51 0 rfl ?_
        refine v_getR (pc := 52) (a := 0) O gf_X11_10 fl_X11_96 kq_0 dX11_code_52 ?_
        obtain ⟨a16, e17, h⟩ := bind_some h
        rw [e17]
        obtain ⟨c18, h⟩ := if_none h
        obtain ⟨p19, e20, h⟩ := bind_some h
        refine v_callV (pc := 55) (a := a16) (As := []) (rest := []) (r := (some (.int p19.1))) (D' := p19.2) O (bb0 hz) (c_X0_size hm c18 e20) mw_X0_size im_X0_size se_X0_size ml_X11_197 (kt_X0 c18) (by decide) rfl rfl rfl (by decide) (by decide) (Nat.le_of_ble_eq_true rfl) dX11_code_55 rfl rfl ?_
        refine v_iconst (pc := 58) O dX11_code_58 ic_1 ?_
        refine v_isub (pc := 59) O dX11_code_59 ?_
        obtain rfl := Option.some.inj h
        exact v_r1 (v_iret (pc := 60) O hz dX11_code_60)
      · have h := (if_neg c8).symm.trans h
        obtain rfl := Option.some.inj h
        exact v_throw (pc := 30) (e := 1) O hz hT rfl tw_X11_121_123 (by decide) (Nat.le_of_ble_eq_true rfl) dX11_code_30 dX11_code_33 dX11_code_34 dX11_code_37
    · have h := (if_neg c2).symm.trans h
      refine v_sub [] rfl ?_
      exact w_X11_code_b10 O hm hn hz hT D h
theorem c_X11_code {l : Launch} {w : Wx} {n nu c u : Nat} {K : Nat → Nat} (hl : l.stackTraces = false) (hm : wlm w = true) {x1 : Int32} {x2 : Int32} {D : Dat} {z : Sum Nat Int32 × Dat} (h : f_X11_code x1 x2 D = some z) : C1 l w yX11_code cX11_code 3 (some .int) 6 100 [.ref (wb w + pp 0), .int x1, .int x2] n (Ax nu K c u) D (zi z) :=
  C1.of hl (by decide) (Nat.le_of_ble_eq_true rfl) (fun X e1 e2 e3 hz hT O => by
  subst e1
  subst e2
  exact w_X11_code O hm e3 hz hT x1 x2 D h)
def f_X11_fix_b26 (D : Dat) : Option (Sum Nat Int32 × Dat) :=
  some (.inl 0, D)
set_option maxHeartbeats 4000000 in
theorem w_X11_fix_b26 {X : Cx} {n nu c u : Nat} {K : Nat → Nat} {z : Sum Nat Int32 × Dat} (O : Ok X cX11_fix RX11 (some .int) 6 100) (hm : wlm (xw X) = true) (hn : xn X = 6) (hz : Z0 X (Ax nu K c u)) (hT : T1 X (zi z)) (D : Dat) (h : f_X11_fix_b26 D = some z) : V X (Q1 X n (Ax nu K c u) (zi z)) n (Ax nu K c u) D 26 [] [] := by
  unfold f_X11_fix_b26 at h
  obtain rfl := Option.some.inj h
  exact v_throw (pc := 26) (e := 0) O hz hT rfl tw_X11_114_116 (by decide) (Nat.le_of_ble_eq_true rfl) dX11_fix_26 dX11_fix_29 dX11_fix_30 dX11_fix_33
def f_X11_fix_b46 (x3 : Int32) (s0 : Int32) (D : Dat) : Option (Sum Nat Int32 × Dat) :=
  if s0 < 0 ∨ 52 ≤ (s0).toNatClampNeg then none else (if s0 < 0 ∨ 52 ≤ (s0).toNatClampNeg then none else ((f_X11_forgetFindings (sI D 190 (s0).toNatClampNeg x3)).bind (fun p3 => some (.inr (dI D 190 (s0).toNatClampNeg), p3))))
set_option maxHeartbeats 4000000 in
theorem w_X11_fix_b46 {X : Cx} {n nu c u : Nat} {K : Nat → Nat} {z : Sum Nat Int32 × Dat} (O : Ok X cX11_fix RX11 (some .int) 6 100) (hm : wlm (xw X) = true) (hn : xn X = 6) (hz : Z0 X (Ax nu K c u)) (hT : T1 X (zi z)) (x3 : Int32) (s0 : Int32) (D : Dat) (h : f_X11_fix_b46 x3 s0 D = some z) : V X (Q1 X n (Ax nu K c u) (zi z)) n (Ax nu K c u) D 46 [(0, .ref (bo X + pp 0)), (3, .int x3)] [.int s0] := by
  unfold f_X11_fix_b46 at h
  refine v_istore (pc := 46) (lv' := [(4, .int s0), (0, .ref (bo X + pp 0)), (3, .int x3)]) O dX11_fix_46 (by rw [hn]; decide) rfl ?_
  refine v_aload_n (pc := 48) O dX11_fix_48 1 rfl ?_
  refine v_getK (pc := 49) (a := 0) O hm gf_X11_7 fl_X11_73 kq_0 lk_0_7 dX11_fix_49 ?_
  refine v_iload (pc := 52) O dX11_fix_52 0 rfl ?_
  obtain ⟨c1, h⟩ := or_none h
  refine v_iald (pc := 54) (a := 190) O kq_190 (inq lq_190 c1) dX11_fix_54 ?_
  refine v_istore (pc := 55) (lv' := [(5, .int (dI D 190 (s0).toNatClampNeg)), (4, .int s0), (0, .ref (bo X + pp 0)), (3, .int x3)]) O dX11_fix_55 (by rw [hn]; decide) rfl ?_
  refine v_aload_n (pc := 57) O dX11_fix_57 2 rfl ?_
  refine v_getK (pc := 58) (a := 0) O hm gf_X11_7 fl_X11_73 kq_0 lk_0_7 dX11_fix_58 ?_
  refine v_iload (pc := 61) O dX11_fix_61 1 rfl ?_
  refine v_iload_n (pc := 63) O dX11_fix_63 3 rfl ?_
  obtain ⟨c2, h⟩ := or_none h
  refine v_iast (pc := 64) (a := 190) O kq_190 (inq lq_190 c2) dX11_fix_64 ?_
  refine v_aload_n (pc := 65) O dX11_fix_65 2 rfl ?_
  obtain ⟨p3, e4, h⟩ := bind_some h
  refine v_callV (pc := 66) (a := 0) (As := []) (rest := []) (r := none) (D' := p3) O (bb0 hz) (c_X11_forgetFindings hm e4) mw_X11_forgetFindings im_X11_forgetFindings se_X11_forgetFindings ml_X11_200 kq_0 (by decide) rfl rfl rfl (by decide) (by decide) (Nat.le_of_ble_eq_true rfl) dX11_fix_66 rfl rfl ?_
  refine v_iload (pc := 69) O dX11_fix_69 0 rfl ?_
  obtain rfl := Option.some.inj h
  exact v_r1 (v_iret (pc := 71) O hz dX11_fix_71)
def f_X11_fix_b34 (x1 : Int32) (x2 : Int32) (x3 : Int32) (D : Dat) : Option (Sum Nat Int32 × Dat) :=
  if x2 = 0 then (f_X11_fix_b46 x3 x1 D) else (f_X11_fix_b46 x3 ((26 : Int32) + x1) D)
set_option maxHeartbeats 4000000 in
theorem w_X11_fix_b34 {X : Cx} {n nu c u : Nat} {K : Nat → Nat} {z : Sum Nat Int32 × Dat} (O : Ok X cX11_fix RX11 (some .int) 6 100) (hm : wlm (xw X) = true) (hn : xn X = 6) (hz : Z0 X (Ax nu K c u)) (hT : T1 X (zi z)) (x1 : Int32) (x2 : Int32) (x3 : Int32) (D : Dat) (h : f_X11_fix_b34 x1 x2 x3 D = some z) : V X (Q1 X n (Ax nu K c u) (zi z)) n (Ax nu K c u) D 34 [(0, .ref (bo X + pp 0)), (1, .int x1), (2, .int x2), (3, .int x3)] [] := by
  unfold f_X11_fix_b34 at h
  refine v_iload_n (pc := 34) O dX11_fix_34 2 rfl ?_
  refine v_ifeq (pc := 35) 45 O dX11_fix_35 (by decide) (fun c5 => ?_) (fun c5 => ?_)
  · have h := (if_pos c5).symm.trans h
    refine v_iload_n (pc := 45) O dX11_fix_45 1 rfl ?_
    refine v_sub [0, 3] rfl ?_
    exact w_X11_fix_b46 O hm hn hz hT x3 x1 D h
  · have h := (if_neg c5).symm.trans h
    refine v_bipush (pc := 38) O dX11_fix_38 bp_26 ?_
    refine v_iload_n (pc := 40) O dX11_fix_40 1 rfl ?_
    refine v_iadd (pc := 41) O dX11_fix_41 ?_
    refine v_goto (pc := 42) 46 O dX11_fix_42 (by decide) ?_
    refine v_sub [0, 3] rfl ?_
    exact w_X11_fix_b46 O hm hn hz hT x3 ((26 : Int32) + x1) D h
def f_X11_fix (x1 : Int32) (x2 : Int32) (x3 : Int32) (D : Dat) : Option (Sum Nat Int32 × Dat) :=
  if x1 < 0 then (f_X11_fix_b26 D) else (if 26 ≤ x1 then (f_X11_fix_b26 D) else (if x3 = (-1) then (f_X11_fix_b34 x1 x2 x3 D) else ((f_X2_has x3 D).bind (fun p9 => if p9.1 = 0 then (f_X11_fix_b26 p9.2) else (f_X11_fix_b34 x1 x2 x3 p9.2)))))
set_option maxHeartbeats 4000000 in
theorem w_X11_fix {X : Cx} {n nu c u : Nat} {K : Nat → Nat} {z : Sum Nat Int32 × Dat} (O : Ok X cX11_fix RX11 (some .int) 6 100) (hm : wlm (xw X) = true) (hn : xn X = 6) (hz : Z0 X (Ax nu K c u)) (hT : T1 X (zi z)) (x1 : Int32) (x2 : Int32) (x3 : Int32) (D : Dat) (h : f_X11_fix x1 x2 x3 D = some z) : V X (Q1 X n (Ax nu K c u) (zi z)) n (Ax nu K c u) D 0 [(0, .ref (bo X + pp 0)), (1, .int x1), (2, .int x2), (3, .int x3)] [] := by
  unfold f_X11_fix at h
  refine v_iload_n (pc := 0) O dX11_fix_0 1 rfl ?_
  refine v_iflt (pc := 1) 26 O dX11_fix_1 (by decide) (fun c6 => ?_) (fun c6 => ?_)
  · have h := (if_pos c6).symm.trans h
    refine v_sub [] rfl ?_
    exact w_X11_fix_b26 O hm hn hz hT D h
  · have h := (if_neg c6).symm.trans h
    refine v_iload_n (pc := 4) O dX11_fix_4 1 rfl ?_
    refine v_bipush (pc := 5) O dX11_fix_5 bp_26 ?_
    refine v_icmpge (pc := 7) 26 O dX11_fix_7 (by decide) (fun c7 => ?_) (fun c7 => ?_)
    · have h := (if_pos c7).symm.trans h
      refine v_sub [] rfl ?_
      exact w_X11_fix_b26 O hm hn hz hT D h
    · have h := (if_neg c7).symm.trans h
      refine v_iload_n (pc := 10) O dX11_fix_10 3 rfl ?_
      refine v_iconst (pc := 11) O dX11_fix_11 ic_m1 ?_
      refine v_icmpeq (pc := 12) 34 O dX11_fix_12 (by decide) (fun c8 => ?_) (fun c8 => ?_)
      · have h := (if_pos c8).symm.trans h
        refine v_sub [0, 1, 2, 3] rfl ?_
        exact w_X11_fix_b34 O hm hn hz hT x1 x2 x3 D h
      · have h := (if_neg c8).symm.trans h
        refine v_aload_n (pc := 15) O dX11_fix_15 0 rfl ?_
        refine v_getK (pc := 16) (a := 0) O hm gf_X11_0 fl_X11_23 kq_0 lk_0_0 dX11_fix_16 ?_
        refine v_iload_n (pc := 19) O dX11_fix_19 3 rfl ?_
        obtain ⟨p9, e10, h⟩ := bind_some h
        refine v_callV (pc := 20) (a := 1) (As := [.int x3]) (rest := []) (r := (some (.int p9.1))) (D' := p9.2) O (bb0 hz) (c_X2_has hm e10) mw_X2_has im_X2_has se_X2_has ml_X11_110 kq_1 (by decide) rfl rfl rfl (by decide) (by decide) (Nat.le_of_ble_eq_true rfl) dX11_fix_20 rfl rfl ?_
        refine v_ifne (pc := 23) 34 O dX11_fix_23 (by decide) (fun c11 => ?_) (fun c11 => ?_)
        · have h := (if_neg c11).symm.trans h
          refine v_sub [0, 1, 2, 3] rfl ?_
          exact w_X11_fix_b34 O hm hn hz hT x1 x2 x3 p9.2 h
        · have h := (if_pos c11).symm.trans h
          refine v_sub [] rfl ?_
          exact w_X11_fix_b26 O hm hn hz hT p9.2 h
theorem c_X11_fix {l : Launch} {w : Wx} {n nu c u : Nat} {K : Nat → Nat} (hl : l.stackTraces = false) (hm : wlm w = true) {x1 : Int32} {x2 : Int32} {x3 : Int32} {D : Dat} {z : Sum Nat Int32 × Dat} (h : f_X11_fix x1 x2 x3 D = some z) : C1 l w yX11_fix cX11_fix 6 (some .int) 6 100 [.ref (wb w + pp 0), .int x1, .int x2, .int x3] n (Ax nu K c u) D (zi z) :=
  C1.of hl (by decide) (Nat.le_of_ble_eq_true rfl) (fun X e1 e2 e3 hz hT O => by
  subst e1
  subst e2
  exact w_X11_fix O hm e3 hz hT x1 x2 x3 D h)
def f_X11_clear (N : Nat) (nu : Nat) (K : Nat → Nat) (D : Dat) : Option (Int32 × Dat) :=
  ((dR D 0 10)).bind (fun a1 => if a1 = 201 ∨ a1 = 204 then ((f_X0_size a1 D).bind (fun p4 => ((dR p4.2 0 10)).bind (fun a6 => if a6 = 201 ∨ a6 = 204 then ((f_X0_empty a6 p4.2).bind (fun p9 => (f_J7_fill_53178 N nu K 190 (-1) p9).bind (fun p11 => (f_X11_forgetFindings p11).bind (fun p13 => some (p4.1, p13))))) else none))) else none)
set_option maxHeartbeats 4000000 in
theorem w_X11_clear {X : Cx} {n nu c u : Nat} {K : Nat → Nat} {N : Nat} {z : Int32 × Dat} (O : Ok X cX11_clear RX11 (some .int) 2 40) (hm : wlm (xw X) = true) (hn : xn X = 2) (hz : Z0 X (Ax nu K c u)) (D : Dat) (h : f_X11_clear N nu K D = some z) : V X (Q0 X n (Ax nu K c u) (some (.int z.1)) z.2) n (Ax nu K c u) D 0 [(0, .ref (bo X + pp 0))] [] := by
  unfold f_X11_clear at h
  refine v_aload_n (pc := 0) O dX11_clear_0 0 rfl ?_
  refine v_getR (pc := 1) (a := 0) O gf_X11_10 fl_X11_96 kq_0 dX11_clear_1 ?_
  obtain ⟨a1, e2, h⟩ := bind_some h
  rw [e2]
  obtain ⟨c3, h⟩ := if_none h
  obtain ⟨p4, e5, h⟩ := bind_some h
  refine v_callV (pc := 4) (a := a1) (As := []) (rest := []) (r := (some (.int p4.1))) (D' := p4.2) O (bb0 hz) (c_X0_size hm c3 e5) mw_X0_size im_X0_size se_X0_size ml_X11_197 (kt_X0 c3) (by decide) rfl rfl rfl (by decide) (by decide) (Nat.le_of_ble_eq_true rfl) dX11_clear_4 rfl rfl ?_
  refine v_istore_n (pc := 7) (lv' := [(1, .int p4.1), (0, .ref (bo X + pp 0))]) O dX11_clear_7 rfl (by rw [hn]; decide) rfl ?_
  refine v_aload_n (pc := 8) O dX11_clear_8 1 rfl ?_
  refine v_getR (pc := 9) (a := 0) O gf_X11_10 fl_X11_96 kq_0 dX11_clear_9 ?_
  obtain ⟨a6, e7, h⟩ := bind_some h
  rw [e7]
  obtain ⟨c8, h⟩ := if_none h
  obtain ⟨p9, e10, h⟩ := bind_some h
  refine v_callV (pc := 12) (a := a6) (As := []) (rest := []) (r := none) (D' := p9) O (bb0 hz) (c_X0_empty hm c8 e10) mw_X0_empty im_X0_empty se_X0_empty ml_X11_206 (kt_X0 c8) (by decide) rfl rfl rfl (by decide) (by decide) (Nat.le_of_ble_eq_true rfl) dX11_clear_12 rfl rfl ?_
  refine v_aload_n (pc := 15) O dX11_clear_15 1 rfl ?_
  refine v_getK (pc := 16) (a := 0) O hm gf_X11_7 fl_X11_73 kq_0 lk_0_7 dX11_clear_16 ?_
  refine v_iconst (pc := 19) O dX11_clear_19 ic_m1 ?_
  obtain ⟨p11, e12, h⟩ := bind_some h
  refine v_callS (pc := 20) (As := [.ref (bo X + pp 190), .int (-1)]) (rest := []) (r := none) (D' := p11) O (bb0 hz) (c_J7_fill_53178 hm e12) mw_J7_fill_53178 sm_J7_fill_53178 ml_X11_77 rfl (by decide) (by decide) (Nat.le_of_ble_eq_true rfl) dX11_clear_20 rfl rfl ?_
  refine v_aload_n (pc := 23) O dX11_clear_23 1 rfl ?_
  obtain ⟨p13, e14, h⟩ := bind_some h
  refine v_callV (pc := 24) (a := 0) (As := []) (rest := []) (r := none) (D' := p13) O (bb0 hz) (c_X11_forgetFindings hm e14) mw_X11_forgetFindings im_X11_forgetFindings se_X11_forgetFindings ml_X11_200 kq_0 (by decide) rfl rfl rfl (by decide) (by decide) (Nat.le_of_ble_eq_true rfl) dX11_clear_24 rfl rfl ?_
  refine v_iload_n (pc := 27) O dX11_clear_27 0 rfl ?_
  obtain rfl := Option.some.inj h
  exact v_iret (pc := 28) O hz dX11_clear_28
theorem c_X11_clear {l : Launch} {w : Wx} {n nu c u : Nat} {K : Nat → Nat} {N : Nat} (hm : wlm w = true) {D : Dat} {z : Int32 × Dat} (h : f_X11_clear N nu K D = some z) : C0 l w yX11_clear cX11_clear 2 (some .int) 2 40 [.ref (wb w + pp 0)] n (Ax nu K c u) D (some (.int z.1)) z.2 :=
  C0.of (by decide) (Nat.le_of_ble_eq_true rfl) (fun X e1 e2 e3 hz O => by
  subst e1
  subst e2
  exact w_X11_clear O hm e3 hz  D h)
def f_X11_map_b10 (N : Nat) (nu : Nat) (K : Nat → Nat) (D : Dat) : Option (Sum Nat Int32 × Dat) :=
  some (.inl 0, D)
set_option maxHeartbeats 4000000 in
theorem w_X11_map_b10 {X : Cx} {n nu c u : Nat} {K : Nat → Nat} {N : Nat} {z : Sum Nat Int32 × Dat} (O : Ok X cX11_map RX11 (some .int) 6 100) (hm : wlm (xw X) = true) (hn : xn X = 3) (hz : Z0 X (Ax nu K c u)) (hT : T1 X (zi z)) (D : Dat) (h : f_X11_map_b10 N nu K D = some z) : V X (Q1 X n (Ax nu K c u) (zi z)) n (Ax nu K c u) D 10 [] [] := by
  unfold f_X11_map_b10 at h
  obtain rfl := Option.some.inj h
  exact v_throw (pc := 10) (e := 0) O hz hT rfl tw_X11_114_116 (by decide) (Nat.le_of_ble_eq_true rfl) dX11_map_10 dX11_map_13 dX11_map_14 dX11_map_17
def f_X11_map (N : Nat) (nu : Nat) (K : Nat → Nat) (x1 : Int32) (x2 : Int32) (D : Dat) : Option (Sum Nat Int32 × Dat) :=
  if x2 < 0 then (f_X11_map_b10 N nu K D) else (if x2 < 58 then ((f_X9_hasMaps D).bind (fun p3 => if p3.1 = 0 then (some (.inl 1, p3.2)) else (((dR p3.2 0 10)).bind (fun a6 => if a6 = 201 ∨ a6 = 204 then ((f_X0_has a6 x1 p3.2).bind (fun p9 => if p9.1 = 0 then (some (.inl 4, p9.2)) else ((f_X9_mapped N nu K x1 x2 p9.2).bind (fun p12 => some (.inr p12.1, p12.2))))) else none)))) else (f_X11_map_b10 N nu K D))
set_option maxHeartbeats 4000000 in
theorem w_X11_map {X : Cx} {n nu c u : Nat} {K : Nat → Nat} {N : Nat} {z : Sum Nat Int32 × Dat} (O : Ok X cX11_map RX11 (some .int) 6 100) (hm : wlm (xw X) = true) (hn : xn X = 3) (hz : Z0 X (Ax nu K c u)) (hT : T1 X (zi z)) (x1 : Int32) (x2 : Int32) (D : Dat) (h : f_X11_map N nu K x1 x2 D = some z) : V X (Q1 X n (Ax nu K c u) (zi z)) n (Ax nu K c u) D 0 [(0, .ref (bo X + pp 0)), (1, .int x1), (2, .int x2)] [] := by
  unfold f_X11_map at h
  refine v_iload_n (pc := 0) O dX11_map_0 2 rfl ?_
  refine v_iflt (pc := 1) 10 O dX11_map_1 (by decide) (fun c1 => ?_) (fun c1 => ?_)
  · have h := (if_pos c1).symm.trans h
    refine v_sub [] rfl ?_
    exact w_X11_map_b10 O hm hn hz hT D h
  · have h := (if_neg c1).symm.trans h
    refine v_iload_n (pc := 4) O dX11_map_4 2 rfl ?_
    refine v_bipush (pc := 5) O dX11_map_5 bp_58 ?_
    refine v_icmplt (pc := 7) 18 O dX11_map_7 (by decide) (fun c2 => ?_) (fun c2 => ?_)
    · have h := (if_pos c2).symm.trans h
      refine v_aload_n (pc := 18) O dX11_map_18 0 rfl ?_
      refine v_getK (pc := 19) (a := 0) O hm gf_X11_4 fl_X11_53 kq_0 lk_0_4 dX11_map_19 ?_
      obtain ⟨p3, e4, h⟩ := bind_some h
      refine v_callV (pc := 22) (a := 107) (As := []) (rest := []) (r := (some (.int p3.1))) (D' := p3.2) O (bb0 hz) (c_X9_hasMaps hm e4) mw_X9_hasMaps im_X9_hasMaps se_X9_hasMaps ml_X11_223 kq_107 (by decide) rfl rfl rfl (by decide) (by decide) (Nat.le_of_ble_eq_true rfl) dX11_map_22 rfl rfl ?_
      refine v_ifne (pc := 25) 36 O dX11_map_25 (by decide) (fun c5 => ?_) (fun c5 => ?_)
      · have h := (if_neg c5).symm.trans h
        refine v_aload_n (pc := 36) O dX11_map_36 0 rfl ?_
        refine v_getR (pc := 37) (a := 0) O gf_X11_10 fl_X11_96 kq_0 dX11_map_37 ?_
        refine v_iload_n (pc := 40) O dX11_map_40 1 rfl ?_
        obtain ⟨a6, e7, h⟩ := bind_some h
        rw [e7]
        obtain ⟨c8, h⟩ := if_none h
        obtain ⟨p9, e10, h⟩ := bind_some h
        refine v_callV (pc := 41) (a := a6) (As := [.int x1]) (rest := []) (r := (some (.int p9.1))) (D' := p9.2) O (bb0 hz) (c_X0_has hm c8 e10) mw_X0_has im_X0_has se_X0_has ml_X11_226 (kt_X0 c8) (by decide) rfl rfl rfl (by decide) (by decide) (Nat.le_of_ble_eq_true rfl) dX11_map_41 rfl rfl ?_
        refine v_ifne (pc := 44) 55 O dX11_map_44 (by decide) (fun c11 => ?_) (fun c11 => ?_)
        · have h := (if_neg c11).symm.trans h
          refine v_aload_n (pc := 55) O dX11_map_55 0 rfl ?_
          refine v_getK (pc := 56) (a := 0) O hm gf_X11_4 fl_X11_53 kq_0 lk_0_4 dX11_map_56 ?_
          refine v_iload_n (pc := 59) O dX11_map_59 1 rfl ?_
          refine v_iload_n (pc := 60) O dX11_map_60 2 rfl ?_
          obtain ⟨p12, e13, h⟩ := bind_some h
          refine v_callV (pc := 61) (a := 107) (As := [.int x1, .int x2]) (rest := []) (r := (some (.int p12.1))) (D' := p12.2) O (bb0 hz) (c_X9_mapped hm e13) mw_X9_mapped im_X9_mapped se_X9_mapped ml_X11_227 kq_107 (by decide) rfl rfl rfl (by decide) (by decide) (Nat.le_of_ble_eq_true rfl) dX11_map_61 rfl rfl ?_
          obtain rfl := Option.some.inj h
          exact v_r1 (v_iret (pc := 64) O hz dX11_map_64)
        · have h := (if_pos c11).symm.trans h
          obtain rfl := Option.some.inj h
          exact v_throw (pc := 47) (e := 4) O hz hT rfl tw_X11_183_185 (by decide) (Nat.le_of_ble_eq_true rfl) dX11_map_47 dX11_map_50 dX11_map_51 dX11_map_54
      · have h := (if_pos c5).symm.trans h
        obtain rfl := Option.some.inj h
        exact v_throw (pc := 28) (e := 1) O hz hT rfl tw_X11_121_123 (by decide) (Nat.le_of_ble_eq_true rfl) dX11_map_28 dX11_map_31 dX11_map_32 dX11_map_35
    · have h := (if_neg c2).symm.trans h
      refine v_sub [] rfl ?_
      exact w_X11_map_b10 O hm hn hz hT D h
theorem c_X11_map {l : Launch} {w : Wx} {n nu c u : Nat} {K : Nat → Nat} {N : Nat} (hl : l.stackTraces = false) (hm : wlm w = true) {x1 : Int32} {x2 : Int32} {D : Dat} {z : Sum Nat Int32 × Dat} (h : f_X11_map N nu K x1 x2 D = some z) : C1 l w yX11_map cX11_map 3 (some .int) 6 100 [.ref (wb w + pp 0), .int x1, .int x2] n (Ax nu K c u) D (zi z) :=
  C1.of hl (by decide) (Nat.le_of_ble_eq_true rfl) (fun X e1 e2 e3 hz hT O => by
  subst e1
  subst e2
  exact w_X11_map O hm e3 hz hT x1 x2 D h)
def f_X11_region_b11 (D : Dat) : Option (Sum Nat Int32 × Dat) :=
  some (.inl 0, D)
set_option maxHeartbeats 4000000 in
theorem w_X11_region_b11 {X : Cx} {n nu c u : Nat} {K : Nat → Nat} {z : Sum Nat Int32 × Dat} (O : Ok X cX11_region RX11 (some .int) 6 100) (hm : wlm (xw X) = true) (hn : xn X = 3) (hz : Z0 X (Ax nu K c u)) (hT : T1 X (zi z)) (D : Dat) (h : f_X11_region_b11 D = some z) : V X (Q1 X n (Ax nu K c u) (zi z)) n (Ax nu K c u) D 11 [] [] := by
  unfold f_X11_region_b11 at h
  obtain rfl := Option.some.inj h
  exact v_throw (pc := 11) (e := 0) O hz hT rfl tw_X11_114_116 (by decide) (Nat.le_of_ble_eq_true rfl) dX11_region_11 dX11_region_14 dX11_region_15 dX11_region_18
def f_X11_region_b63 (D : Dat) : Option (Sum Nat Int32 × Dat) :=
  some (.inl 4, D)
set_option maxHeartbeats 4000000 in
theorem w_X11_region_b63 {X : Cx} {n nu c u : Nat} {K : Nat → Nat} {z : Sum Nat Int32 × Dat} (O : Ok X cX11_region RX11 (some .int) 6 100) (hm : wlm (xw X) = true) (hn : xn X = 3) (hz : Z0 X (Ax nu K c u)) (hT : T1 X (zi z)) (D : Dat) (h : f_X11_region_b63 D = some z) : V X (Q1 X n (Ax nu K c u) (zi z)) n (Ax nu K c u) D 63 [] [] := by
  unfold f_X11_region_b63 at h
  obtain rfl := Option.some.inj h
  exact v_throw (pc := 63) (e := 4) O hz hT rfl tw_X11_183_185 (by decide) (Nat.le_of_ble_eq_true rfl) dX11_region_63 dX11_region_66 dX11_region_67 dX11_region_70
def f_X11_region_b131 (s0 : Int32) (D : Dat) : Option (Sum Nat Int32 × Dat) :=
  some (.inr s0, D)
set_option maxHeartbeats 4000000 in
theorem w_X11_region_b131 {X : Cx} {n nu c u : Nat} {K : Nat → Nat} {z : Sum Nat Int32 × Dat} (O : Ok X cX11_region RX11 (some .int) 6 100) (hm : wlm (xw X) = true) (hn : xn X = 3) (hz : Z0 X (Ax nu K c u)) (hT : T1 X (zi z)) (s0 : Int32) (D : Dat) (h : f_X11_region_b131 s0 D = some z) : V X (Q1 X n (Ax nu K c u) (zi z)) n (Ax nu K c u) D 131 [] [.int s0] := by
  unfold f_X11_region_b131 at h
  obtain rfl := Option.some.inj h
  exact v_r1 (v_iret (pc := 131) O hz dX11_region_131)
def f_X11_region_b95 (D : Dat) : Option (Sum Nat Int32 × Dat) :=
  some (.inl 2, D)
set_option maxHeartbeats 4000000 in
theorem w_X11_region_b95 {X : Cx} {n nu c u : Nat} {K : Nat → Nat} {z : Sum Nat Int32 × Dat} (O : Ok X cX11_region RX11 (some .int) 6 100) (hm : wlm (xw X) = true) (hn : xn X = 3) (hz : Z0 X (Ax nu K c u)) (hT : T1 X (zi z)) (D : Dat) (h : f_X11_region_b95 D = some z) : V X (Q1 X n (Ax nu K c u) (zi z)) n (Ax nu K c u) D 95 [] [] := by
  unfold f_X11_region_b95 at h
  obtain rfl := Option.some.inj h
  exact v_throw (pc := 95) (e := 2) O hz hT rfl tw_X11_138_140 (by decide) (Nat.le_of_ble_eq_true rfl) dX11_region_95 dX11_region_98 dX11_region_99 dX11_region_102
def f_X11_region_b71 (x1 : Int32) (x2 : Int32) (D : Dat) : Option (Sum Nat Int32 × Dat) :=
  ((dR D 0 10)).bind (fun a1 => if a1 = 201 ∨ a1 = 204 then ((f_X0_operation a1 x1 D).bind (fun p4 => if p4.1 = 11 then ((f_X9_hasHeight x1 p4.2).bind (fun p7 => if p7.1 = 0 then (f_X11_region_b95 p7.2) else (if x2 = (-1) then ((f_X9_nextOf x1 p7.2).bind (fun p15 => f_X11_region_b131 p15.1 p15.2)) else ((f_X9_isInside x1 x2 p7.2).bind (fun p11 => (f_X11_asNumber p11.1 p11.2).bind (fun p13 => f_X11_region_b131 p13.1 p13.2)))))) else (f_X11_region_b95 p4.2))) else none)
set_option maxHeartbeats 4000000 in
theorem w_X11_region_b71 {X : Cx} {n nu c u : Nat} {K : Nat → Nat} {z : Sum Nat Int32 × Dat} (O : Ok X cX11_region RX11 (some .int) 6 100) (hm : wlm (xw X) = true) (hn : xn X = 3) (hz : Z0 X (Ax nu K c u)) (hT : T1 X (zi z)) (x1 : Int32) (x2 : Int32) (D : Dat) (h : f_X11_region_b71 x1 x2 D = some z) : V X (Q1 X n (Ax nu K c u) (zi z)) n (Ax nu K c u) D 71 [(0, .ref (bo X + pp 0)), (1, .int x1), (2, .int x2)] [] := by
  unfold f_X11_region_b71 at h
  refine v_aload_n (pc := 71) O dX11_region_71 0 rfl ?_
  refine v_getR (pc := 72) (a := 0) O gf_X11_10 fl_X11_96 kq_0 dX11_region_72 ?_
  refine v_iload_n (pc := 75) O dX11_region_75 1 rfl ?_
  obtain ⟨a1, e2, h⟩ := bind_some h
  rw [e2]
  obtain ⟨c3, h⟩ := if_none h
  obtain ⟨p4, e5, h⟩ := bind_some h
  refine v_callV (pc := 76) (a := a1) (As := [.int x1]) (rest := []) (r := (some (.int p4.1))) (D' := p4.2) O (bb0 hz) (c_X0_operation hm c3 e5) mw_X0_operation im_X0_operation se_X0_operation ml_X11_230 (kt_X0 c3) (by decide) rfl rfl rfl (by decide) (by decide) (Nat.le_of_ble_eq_true rfl) dX11_region_76 rfl rfl ?_
  refine v_bipush (pc := 79) O dX11_region_79 bp_11 ?_
  refine v_icmpne (pc := 81) 95 O dX11_region_81 (by decide) (fun c6 => ?_) (fun c6 => ?_)
  · have h := (if_neg c6).symm.trans h
    refine v_sub [] rfl ?_
    exact w_X11_region_b95 O hm hn hz hT p4.2 h
  · have h := (if_pos c6).symm.trans h
    refine v_aload_n (pc := 84) O dX11_region_84 0 rfl ?_
    refine v_getK (pc := 85) (a := 0) O hm gf_X11_4 fl_X11_53 kq_0 lk_0_4 dX11_region_85 ?_
    refine v_iload_n (pc := 88) O dX11_region_88 1 rfl ?_
    obtain ⟨p7, e8, h⟩ := bind_some h
    refine v_callV (pc := 89) (a := 107) (As := [.int x1]) (rest := []) (r := (some (.int p7.1))) (D' := p7.2) O (bb0 hz) (c_X9_hasHeight hm e8) mw_X9_hasHeight im_X9_hasHeight se_X9_hasHeight ml_X11_234 kq_107 (by decide) rfl rfl rfl (by decide) (by decide) (Nat.le_of_ble_eq_true rfl) dX11_region_89 rfl rfl ?_
    refine v_ifne (pc := 92) 103 O dX11_region_92 (by decide) (fun c9 => ?_) (fun c9 => ?_)
    · have h := (if_neg c9).symm.trans h
      refine v_iload_n (pc := 103) O dX11_region_103 2 rfl ?_
      refine v_iconst (pc := 104) O dX11_region_104 ic_m1 ?_
      refine v_icmpne (pc := 105) 119 O dX11_region_105 (by decide) (fun c10 => ?_) (fun c10 => ?_)
      · have h := (if_neg c10).symm.trans h
        refine v_aload_n (pc := 119) O dX11_region_119 0 rfl ?_
        refine v_getK (pc := 120) (a := 0) O hm gf_X11_4 fl_X11_53 kq_0 lk_0_4 dX11_region_120 ?_
        refine v_iload_n (pc := 123) O dX11_region_123 1 rfl ?_
        refine v_iload_n (pc := 124) O dX11_region_124 2 rfl ?_
        obtain ⟨p11, e12, h⟩ := bind_some h
        refine v_callV (pc := 125) (a := 107) (As := [.int x1, .int x2]) (rest := []) (r := (some (.int p11.1))) (D' := p11.2) O (bb0 hz) (c_X9_isInside hm e12) mw_X9_isInside im_X9_isInside se_X9_isInside ml_X11_240 kq_107 (by decide) rfl rfl rfl (by decide) (by decide) (Nat.le_of_ble_eq_true rfl) dX11_region_125 rfl rfl ?_
        obtain ⟨p13, e14, h⟩ := bind_some h
        refine v_callS (pc := 128) (As := [.int p11.1]) (rest := []) (r := (some (.int p13.1))) (D' := p13.2) O (bb0 hz) (c_X11_asNumber hm e14) mw_X11_asNumber sm_X11_asNumber ml_X11_151 rfl (by decide) (by decide) (Nat.le_of_ble_eq_true rfl) dX11_region_128 rfl rfl ?_
        refine v_sub [] rfl ?_
        exact w_X11_region_b131 O hm hn hz hT p13.1 p13.2 h
      · have h := (if_pos c10).symm.trans h
        refine v_aload_n (pc := 108) O dX11_region_108 0 rfl ?_
        refine v_getK (pc := 109) (a := 0) O hm gf_X11_4 fl_X11_53 kq_0 lk_0_4 dX11_region_109 ?_
        refine v_iload_n (pc := 112) O dX11_region_112 1 rfl ?_
        obtain ⟨p15, e16, h⟩ := bind_some h
        refine v_callV (pc := 113) (a := 107) (As := [.int x1]) (rest := []) (r := (some (.int p15.1))) (D' := p15.2) O (bb0 hz) (c_X9_nextOf hm e16) mw_X9_nextOf im_X9_nextOf se_X9_nextOf ml_X11_237 kq_107 (by decide) rfl rfl rfl (by decide) (by decide) (Nat.le_of_ble_eq_true rfl) dX11_region_113 rfl rfl ?_
        refine v_goto (pc := 116) 131 O dX11_region_116 (by decide) ?_
        refine v_sub [] rfl ?_
        exact w_X11_region_b131 O hm hn hz hT p15.1 p15.2 h
    · have h := (if_pos c9).symm.trans h
      refine v_sub [] rfl ?_
      exact w_X11_region_b95 O hm hn hz hT p7.2 h
def f_X11_region (x1 : Int32) (x2 : Int32) (D : Dat) : Option (Sum Nat Int32 × Dat) :=
  if x2 < (-1) then (f_X11_region_b11 D) else (if x2 < 64 then ((f_X9_hasMaps D).bind (fun p19 => if p19.1 = 0 then (some (.inl 1, p19.2)) else (((dR p19.2 0 10)).bind (fun a22 => if a22 = 201 ∨ a22 = 204 then ((f_X0_has a22 x1 p19.2).bind (fun p25 => if p25.1 = 0 then (f_X11_region_b63 p25.2) else (if x2 ≤ 0 then (f_X11_region_b71 x1 x2 p25.2) else (((dR p25.2 0 10)).bind (fun a29 => if a29 = 201 ∨ a29 = 204 then ((f_X0_has a29 x2 p25.2).bind (fun p32 => if p32.1 = 0 then (f_X11_region_b63 p32.2) else (f_X11_region_b71 x1 x2 p32.2))) else none))))) else none)))) else (f_X11_region_b11 D))
set_option maxHeartbeats 4000000 in
theorem w_X11_region {X : Cx} {n nu c u : Nat} {K : Nat → Nat} {z : Sum Nat Int32 × Dat} (O : Ok X cX11_region RX11 (some .int) 6 100) (hm : wlm (xw X) = true) (hn : xn X = 3) (hz : Z0 X (Ax nu K c u)) (hT : T1 X (zi z)) (x1 : Int32) (x2 : Int32) (D : Dat) (h : f_X11_region x1 x2 D = some z) : V X (Q1 X n (Ax nu K c u) (zi z)) n (Ax nu K c u) D 0 [(0, .ref (bo X + pp 0)), (1, .int x1), (2, .int x2)] [] := by
  unfold f_X11_region at h
  refine v_iload_n (pc := 0) O dX11_region_0 2 rfl ?_
  refine v_iconst (pc := 1) O dX11_region_1 ic_m1 ?_
  refine v_icmplt (pc := 2) 11 O dX11_region_2 (by decide) (fun c17 => ?_) (fun c17 => ?_)
  · have h := (if_pos c17).symm.trans h
    refine v_sub [] rfl ?_
    exact w_X11_region_b11 O hm hn hz hT D h
  · have h := (if_neg c17).symm.trans h
    refine v_iload_n (pc := 5) O dX11_region_5 2 rfl ?_
    refine v_bipush (pc := 6) O dX11_region_6 bp_64 ?_
    refine v_icmplt (pc := 8) 19 O dX11_region_8 (by decide) (fun c18 => ?_) (fun c18 => ?_)
    · have h := (if_pos c18).symm.trans h
      refine v_aload_n (pc := 19) O dX11_region_19 0 rfl ?_
      refine v_getK (pc := 20) (a := 0) O hm gf_X11_4 fl_X11_53 kq_0 lk_0_4 dX11_region_20 ?_
      obtain ⟨p19, e20, h⟩ := bind_some h
      refine v_callV (pc := 23) (a := 107) (As := []) (rest := []) (r := (some (.int p19.1))) (D' := p19.2) O (bb0 hz) (c_X9_hasMaps hm e20) mw_X9_hasMaps im_X9_hasMaps se_X9_hasMaps ml_X11_223 kq_107 (by decide) rfl rfl rfl (by decide) (by decide) (Nat.le_of_ble_eq_true rfl) dX11_region_23 rfl rfl ?_
      refine v_ifne (pc := 26) 37 O dX11_region_26 (by decide) (fun c21 => ?_) (fun c21 => ?_)
      · have h := (if_neg c21).symm.trans h
        refine v_aload_n (pc := 37) O dX11_region_37 0 rfl ?_
        refine v_getR (pc := 38) (a := 0) O gf_X11_10 fl_X11_96 kq_0 dX11_region_38 ?_
        refine v_iload_n (pc := 41) O dX11_region_41 1 rfl ?_
        obtain ⟨a22, e23, h⟩ := bind_some h
        rw [e23]
        obtain ⟨c24, h⟩ := if_none h
        obtain ⟨p25, e26, h⟩ := bind_some h
        refine v_callV (pc := 42) (a := a22) (As := [.int x1]) (rest := []) (r := (some (.int p25.1))) (D' := p25.2) O (bb0 hz) (c_X0_has hm c24 e26) mw_X0_has im_X0_has se_X0_has ml_X11_226 (kt_X0 c24) (by decide) rfl rfl rfl (by decide) (by decide) (Nat.le_of_ble_eq_true rfl) dX11_region_42 rfl rfl ?_
        refine v_ifeq (pc := 45) 63 O dX11_region_45 (by decide) (fun c27 => ?_) (fun c27 => ?_)
        · have h := (if_pos c27).symm.trans h
          refine v_sub [] rfl ?_
          exact w_X11_region_b63 O hm hn hz hT p25.2 h
        · have h := (if_neg c27).symm.trans h
          refine v_iload_n (pc := 48) O dX11_region_48 2 rfl ?_
          refine v_ifle (pc := 49) 71 O dX11_region_49 (by decide) (fun c28 => ?_) (fun c28 => ?_)
          · have h := (if_pos c28).symm.trans h
            refine v_sub [0, 1, 2] rfl ?_
            exact w_X11_region_b71 O hm hn hz hT x1 x2 p25.2 h
          · have h := (if_neg c28).symm.trans h
            refine v_aload_n (pc := 52) O dX11_region_52 0 rfl ?_
            refine v_getR (pc := 53) (a := 0) O gf_X11_10 fl_X11_96 kq_0 dX11_region_53 ?_
            refine v_iload_n (pc := 56) O dX11_region_56 2 rfl ?_
            obtain ⟨a29, e30, h⟩ := bind_some h
            rw [e30]
            obtain ⟨c31, h⟩ := if_none h
            obtain ⟨p32, e33, h⟩ := bind_some h
            refine v_callV (pc := 57) (a := a29) (As := [.int x2]) (rest := []) (r := (some (.int p32.1))) (D' := p32.2) O (bb0 hz) (c_X0_has hm c31 e33) mw_X0_has im_X0_has se_X0_has ml_X11_226 (kt_X0 c31) (by decide) rfl rfl rfl (by decide) (by decide) (Nat.le_of_ble_eq_true rfl) dX11_region_57 rfl rfl ?_
            refine v_ifne (pc := 60) 71 O dX11_region_60 (by decide) (fun c34 => ?_) (fun c34 => ?_)
            · have h := (if_neg c34).symm.trans h
              refine v_sub [0, 1, 2] rfl ?_
              exact w_X11_region_b71 O hm hn hz hT x1 x2 p32.2 h
            · have h := (if_pos c34).symm.trans h
              refine v_sub [] rfl ?_
              exact w_X11_region_b63 O hm hn hz hT p32.2 h
      · have h := (if_pos c21).symm.trans h
        obtain rfl := Option.some.inj h
        exact v_throw (pc := 29) (e := 1) O hz hT rfl tw_X11_121_123 (by decide) (Nat.le_of_ble_eq_true rfl) dX11_region_29 dX11_region_32 dX11_region_33 dX11_region_36
    · have h := (if_neg c18).symm.trans h
      refine v_sub [] rfl ?_
      exact w_X11_region_b11 O hm hn hz hT D h
theorem c_X11_region {l : Launch} {w : Wx} {n nu c u : Nat} {K : Nat → Nat} (hl : l.stackTraces = false) (hm : wlm w = true) {x1 : Int32} {x2 : Int32} {D : Dat} {z : Sum Nat Int32 × Dat} (h : f_X11_region x1 x2 D = some z) : C1 l w yX11_region cX11_region 3 (some .int) 6 100 [.ref (wb w + pp 0), .int x1, .int x2] n (Ax nu K c u) D (zi z) :=
  C1.of hl (by decide) (Nat.le_of_ble_eq_true rfl) (fun X e1 e2 e3 hz hT O => by
  subst e1
  subst e2
  exact w_X11_region O hm e3 hz hT x1 x2 D h)
def f_X11_count (x1 : Int32) (D : Dat) : Option (Sum Nat Int32 × Dat) :=
  (if x1 = (0 : Int32) then ((f_X2_size D).bind (fun p2 => some (.inr p2.1, p2.2))) else (if x1 = (1 : Int32) then ((f_X2_isSealed D).bind (fun p5 => (f_X11_asNumber p5.1 p5.2).bind (fun p7 => some (.inr p7.1, p7.2)))) else (if x1 = (2 : Int32) then ((f_X5_length D).bind (fun p10 => some (.inr p10.1, p10.2))) else (if x1 = (3 : Int32) then (((dR D 0 10)).bind (fun a13 => if a13 = 201 ∨ a13 = 204 then ((f_X0_size a13 D).bind (fun p16 => some (.inr p16.1, p16.2))) else none)) else (if x1 = (4 : Int32) then ((f_X11_asNumber (dI D 0 13) D).bind (fun p19 => some (.inr p19.1, p19.2))) else (if x1 = (5 : Int32) then ((f_X11_asNumber (dI D 0 12) D).bind (fun p22 => some (.inr p22.1, p22.2))) else (if x1 = (6 : Int32) then ((f_X3_fuelTaken D).bind (fun p25 => some (.inr p25.1, p25.2))) else (if x1 = (7 : Int32) then (some (.inr (dI D 0 14), D)) else (if x1 = (8 : Int32) then (some (.inr (dI D 0 15), D)) else (some (.inl 0, D)))))))))))
set_option maxHeartbeats 4000000 in
theorem w_X11_count {X : Cx} {n nu c u : Nat} {K : Nat → Nat} {z : Sum Nat Int32 × Dat} (O : Ok X cX11_count RX11 (some .int) 6 100) (hm : wlm (xw X) = true) (hn : xn X = 2) (hz : Z0 X (Ax nu K c u)) (hT : T1 X (zi z)) (x1 : Int32) (D : Dat) (h : f_X11_count x1 D = some z) : V X (Q1 X n (Ax nu K c u) (zi z)) n (Ax nu K c u) D 0 [(0, .ref (bo X + pp 0)), (1, .int x1)] [] := by
  unfold f_X11_count at h
  refine v_iload_n (pc := 0) O dX11_count_0 1 rfl ?_
  by_cases c1 : x1 = (0 : Int32)
  · have h := (if_pos c1).symm.trans h
    refine v_tableIn (pc := 1) 52 O dX11_count_1 (by rw [c1]; decide) (by rw [c1]; decide) (by rw [c1]; rfl) (by decide) ?_
    refine v_aload_n (pc := 52) O dX11_count_52 0 rfl ?_
    refine v_getK (pc := 53) (a := 0) O hm gf_X11_0 fl_X11_23 kq_0 lk_0_0 dX11_count_53 ?_
    obtain ⟨p2, e3, h⟩ := bind_some h
    refine v_callV (pc := 56) (a := 1) (As := []) (rest := []) (r := (some (.int p2.1))) (D' := p2.2) O (bb0 hz) (c_X2_size hm e3) mw_X2_size im_X2_size se_X2_size ml_X11_283 kq_1 (by decide) rfl rfl rfl (by decide) (by decide) (Nat.le_of_ble_eq_true rfl) dX11_count_56 rfl rfl ?_
    obtain rfl := Option.some.inj h
    exact v_r1 (v_iret (pc := 59) O hz dX11_count_59)
  · have h := (if_neg c1).symm.trans h
    by_cases c4 : x1 = (1 : Int32)
    · have h := (if_pos c4).symm.trans h
      refine v_tableIn (pc := 1) 60 O dX11_count_1 (by rw [c4]; decide) (by rw [c4]; decide) (by rw [c4]; rfl) (by decide) ?_
      refine v_aload_n (pc := 60) O dX11_count_60 0 rfl ?_
      refine v_getK (pc := 61) (a := 0) O hm gf_X11_0 fl_X11_23 kq_0 lk_0_0 dX11_count_61 ?_
      obtain ⟨p5, e6, h⟩ := bind_some h
      refine v_callV (pc := 64) (a := 1) (As := []) (rest := []) (r := (some (.int p5.1))) (D' := p5.2) O (bb0 hz) (c_X2_isSealed hm e6) mw_X2_isSealed im_X2_isSealed se_X2_isSealed ml_X11_117 kq_1 (by decide) rfl rfl rfl (by decide) (by decide) (Nat.le_of_ble_eq_true rfl) dX11_count_64 rfl rfl ?_
      obtain ⟨p7, e8, h⟩ := bind_some h
      refine v_callS (pc := 67) (As := [.int p5.1]) (rest := []) (r := (some (.int p7.1))) (D' := p7.2) O (bb0 hz) (c_X11_asNumber hm e8) mw_X11_asNumber sm_X11_asNumber ml_X11_151 rfl (by decide) (by decide) (Nat.le_of_ble_eq_true rfl) dX11_count_67 rfl rfl ?_
      obtain rfl := Option.some.inj h
      exact v_r1 (v_iret (pc := 70) O hz dX11_count_70)
    · have h := (if_neg c4).symm.trans h
      by_cases c9 : x1 = (2 : Int32)
      · have h := (if_pos c9).symm.trans h
        refine v_tableIn (pc := 1) 71 O dX11_count_1 (by rw [c9]; decide) (by rw [c9]; decide) (by rw [c9]; rfl) (by decide) ?_
        refine v_aload_n (pc := 71) O dX11_count_71 0 rfl ?_
        refine v_getK (pc := 72) (a := 0) O hm gf_X11_1 fl_X11_32 kq_0 lk_0_1 dX11_count_72 ?_
        obtain ⟨p10, e11, h⟩ := bind_some h
        refine v_callV (pc := 75) (a := 3) (As := []) (rest := []) (r := (some (.int p10.1))) (D' := p10.2) O (bb0 hz) (c_X5_length hm e11) mw_X5_length im_X5_length se_X5_length ml_X11_165 kq_3 (by decide) rfl rfl rfl (by decide) (by decide) (Nat.le_of_ble_eq_true rfl) dX11_count_75 rfl rfl ?_
        obtain rfl := Option.some.inj h
        exact v_r1 (v_iret (pc := 78) O hz dX11_count_78)
      · have h := (if_neg c9).symm.trans h
        by_cases c12 : x1 = (3 : Int32)
        · have h := (if_pos c12).symm.trans h
          refine v_tableIn (pc := 1) 79 O dX11_count_1 (by rw [c12]; decide) (by rw [c12]; decide) (by rw [c12]; rfl) (by decide) ?_
          refine v_aload_n (pc := 79) O dX11_count_79 0 rfl ?_
          refine v_getR (pc := 80) (a := 0) O gf_X11_10 fl_X11_96 kq_0 dX11_count_80 ?_
          obtain ⟨a13, e14, h⟩ := bind_some h
          rw [e14]
          obtain ⟨c15, h⟩ := if_none h
          obtain ⟨p16, e17, h⟩ := bind_some h
          refine v_callV (pc := 83) (a := a13) (As := []) (rest := []) (r := (some (.int p16.1))) (D' := p16.2) O (bb0 hz) (c_X0_size hm c15 e17) mw_X0_size im_X0_size se_X0_size ml_X11_197 (kt_X0 c15) (by decide) rfl rfl rfl (by decide) (by decide) (Nat.le_of_ble_eq_true rfl) dX11_count_83 rfl rfl ?_
          obtain rfl := Option.some.inj h
          exact v_r1 (v_iret (pc := 86) O hz dX11_count_86)
        · have h := (if_neg c12).symm.trans h
          by_cases c18 : x1 = (4 : Int32)
          · have h := (if_pos c18).symm.trans h
            refine v_tableIn (pc := 1) 87 O dX11_count_1 (by rw [c18]; decide) (by rw [c18]; decide) (by rw [c18]; rfl) (by decide) ?_
            refine v_aload_n (pc := 87) O dX11_count_87 0 rfl ?_
            refine v_getI (pc := 88) (a := 0) O gf_X11_13 fl_X11_213 kq_0 dX11_count_88 ?_
            obtain ⟨p19, e20, h⟩ := bind_some h
            refine v_callS (pc := 91) (As := [.int (dI D 0 13)]) (rest := []) (r := (some (.int p19.1))) (D' := p19.2) O (bb0 hz) (c_X11_asNumber hm e20) mw_X11_asNumber sm_X11_asNumber ml_X11_151 rfl (by decide) (by decide) (Nat.le_of_ble_eq_true rfl) dX11_count_91 rfl rfl ?_
            obtain rfl := Option.some.inj h
            exact v_r1 (v_iret (pc := 94) O hz dX11_count_94)
          · have h := (if_neg c18).symm.trans h
            by_cases c21 : x1 = (5 : Int32)
            · have h := (if_pos c21).symm.trans h
              refine v_tableIn (pc := 1) 95 O dX11_count_1 (by rw [c21]; decide) (by rw [c21]; decide) (by rw [c21]; rfl) (by decide) ?_
              refine v_aload_n (pc := 95) O dX11_count_95 0 rfl ?_
              refine v_getI (pc := 96) (a := 0) O gf_X11_12 fl_X11_262 kq_0 dX11_count_96 ?_
              obtain ⟨p22, e23, h⟩ := bind_some h
              refine v_callS (pc := 99) (As := [.int (dI D 0 12)]) (rest := []) (r := (some (.int p22.1))) (D' := p22.2) O (bb0 hz) (c_X11_asNumber hm e23) mw_X11_asNumber sm_X11_asNumber ml_X11_151 rfl (by decide) (by decide) (Nat.le_of_ble_eq_true rfl) dX11_count_99 rfl rfl ?_
              obtain rfl := Option.some.inj h
              exact v_r1 (v_iret (pc := 102) O hz dX11_count_102)
            · have h := (if_neg c21).symm.trans h
              by_cases c24 : x1 = (6 : Int32)
              · have h := (if_pos c24).symm.trans h
                refine v_tableIn (pc := 1) 103 O dX11_count_1 (by rw [c24]; decide) (by rw [c24]; decide) (by rw [c24]; rfl) (by decide) ?_
                refine v_aload_n (pc := 103) O dX11_count_103 0 rfl ?_
                refine v_getK (pc := 104) (a := 0) O hm gf_X11_5 fl_X11_60 kq_0 lk_0_5 dX11_count_104 ?_
                obtain ⟨p25, e26, h⟩ := bind_some h
                refine v_callV (pc := 107) (a := 181) (As := []) (rest := []) (r := (some (.int p25.1))) (D' := p25.2) O (bb0 hz) (c_X3_fuelTaken hm e26) mw_X3_fuelTaken im_X3_fuelTaken se_X3_fuelTaken ml_X11_284 kq_181 (by decide) rfl rfl rfl (by decide) (by decide) (Nat.le_of_ble_eq_true rfl) dX11_count_107 rfl rfl ?_
                obtain rfl := Option.some.inj h
                exact v_r1 (v_iret (pc := 110) O hz dX11_count_110)
              · have h := (if_neg c24).symm.trans h
                by_cases c27 : x1 = (7 : Int32)
                · have h := (if_pos c27).symm.trans h
                  refine v_tableIn (pc := 1) 111 O dX11_count_1 (by rw [c27]; decide) (by rw [c27]; decide) (by rw [c27]; rfl) (by decide) ?_
                  refine v_aload_n (pc := 111) O dX11_count_111 0 rfl ?_
                  refine v_getI (pc := 112) (a := 0) O gf_X11_14 fl_X11_103 kq_0 dX11_count_112 ?_
                  obtain rfl := Option.some.inj h
                  exact v_r1 (v_iret (pc := 115) O hz dX11_count_115)
                · have h := (if_neg c27).symm.trans h
                  by_cases c28 : x1 = (8 : Int32)
                  · have h := (if_pos c28).symm.trans h
                    refine v_tableIn (pc := 1) 116 O dX11_count_1 (by rw [c28]; decide) (by rw [c28]; decide) (by rw [c28]; rfl) (by decide) ?_
                    refine v_aload_n (pc := 116) O dX11_count_116 0 rfl ?_
                    refine v_getI (pc := 117) (a := 0) O gf_X11_15 fl_X11_107 kq_0 dX11_count_117 ?_
                    obtain rfl := Option.some.inj h
                    exact v_r1 (v_iret (pc := 120) O hz dX11_count_120)
                  · have h := (if_neg c28).symm.trans h
                    refine v_tableOut (pc := 1) 121 O dX11_count_1 (by have c1i := ne_i (0) rfl c1; have c4i := ne_i (1) rfl c4; have c9i := ne_i (2) rfl c9; have c12i := ne_i (3) rfl c12; have c18i := ne_i (4) rfl c18; have c21i := ne_i (5) rfl c21; have c24i := ne_i (6) rfl c24; have c27i := ne_i (7) rfl c27; have c28i := ne_i (8) rfl c28; omega) (by decide) ?_
                    obtain rfl := Option.some.inj h
                    exact v_throw (pc := 121) (e := 0) O hz hT rfl tw_X11_114_116 (by decide) (Nat.le_of_ble_eq_true rfl) dX11_count_121 dX11_count_124 dX11_count_125 dX11_count_128
theorem c_X11_count {l : Launch} {w : Wx} {n nu c u : Nat} {K : Nat → Nat} (hl : l.stackTraces = false) (hm : wlm w = true) {x1 : Int32} {D : Dat} {z : Sum Nat Int32 × Dat} (h : f_X11_count x1 D = some z) : C1 l w yX11_count cX11_count 2 (some .int) 6 100 [.ref (wb w + pp 0), .int x1] n (Ax nu K c u) D (zi z) :=
  C1.of hl (by decide) (Nat.le_of_ble_eq_true rfl) (fun X e1 e2 e3 hz hT O => by
  subst e1
  subst e2
  exact w_X11_count O hm e3 hz hT x1 D h)
def f_X11_takeSpare (nu : Nat) (K : Nat → Nat) (D : Dat) : Option (Dat) :=
  ((dR (sR (sR (sR (sR D 0 8 (dR D 0 9)) 0 9 (dR D 0 8)) 0 10 (dR (sR (sR D 0 8 (dR D 0 9)) 0 9 (dR D 0 8)) 0 11)) 0 11 (dR (sR (sR D 0 8 (dR D 0 9)) 0 9 (dR D 0 8)) 0 10)) 0 8)).bind (fun a1 => if a1 = 191 ∨ a1 = 196 then ((f_X4_copyMarks nu K a1 190 (sR (sR (sR (sR D 0 8 (dR D 0 9)) 0 9 (dR D 0 8)) 0 10 (dR (sR (sR D 0 8 (dR D 0 9)) 0 9 (dR D 0 8)) 0 11)) 0 11 (dR (sR (sR D 0 8 (dR D 0 9)) 0 9 (dR D 0 8)) 0 10))).bind (fun p4 => (f_X11_forgetFindings p4).bind (fun p6 => some (sI p6 0 12 1)))) else none)
set_option maxHeartbeats 4000000 in
theorem w_X11_takeSpare {X : Cx} {n nu c u : Nat} {K : Nat → Nat} {z : Dat} (O : Ok X cX11_takeSpare RX11 none 2 51) (hm : wlm (xw X) = true) (hn : xn X = 3) (hz : Z0 X (Ax nu K c u)) (D : Dat) (h : f_X11_takeSpare nu K D = some z) : V X (Q0 X n (Ax nu K c u) none z) n (Ax nu K c u) D 0 [(0, .ref (bo X + pp 0))] [] := by
  unfold f_X11_takeSpare at h
  refine v_aload_n (pc := 0) O dX11_takeSpare_0 0 rfl ?_
  refine v_getR (pc := 1) (a := 0) O gf_X11_8 fl_X11_86 kq_0 dX11_takeSpare_1 ?_
  refine v_astore_nr (pc := 4) (lv' := [(1, rv (bo X) (dR D 0 8)), (0, .ref (bo X + pp 0))]) O dX11_takeSpare_4 rfl (by rw [hn]; decide) rfl ?_
  refine v_aload_n (pc := 5) O dX11_takeSpare_5 1 rfl ?_
  refine v_aload_n (pc := 6) O dX11_takeSpare_6 1 rfl ?_
  refine v_getR (pc := 7) (a := 0) O gf_X11_9 fl_X11_90 kq_0 dX11_takeSpare_7 ?_
  refine v_putR (pc := 10) (a := 0) (r := (dR D 0 9)) O pf_X11_8 rfl fl_X11_86 kq_0 dX11_takeSpare_10 ?_
  refine v_aload_n (pc := 13) O dX11_takeSpare_13 1 rfl ?_
  refine v_aload_nr (pc := 14) O dX11_takeSpare_14 0 rfl ?_
  refine v_putR (pc := 15) (a := 0) (r := (dR D 0 8)) O pf_X11_9 rfl fl_X11_90 kq_0 dX11_takeSpare_15 ?_
  refine v_aload_n (pc := 18) O dX11_takeSpare_18 1 rfl ?_
  refine v_getR (pc := 19) (a := 0) O gf_X11_10 fl_X11_96 kq_0 dX11_takeSpare_19 ?_
  refine v_astore_nr (pc := 22) (lv' := [(2, rv (bo X) (dR (sR (sR D 0 8 (dR D 0 9)) 0 9 (dR D 0 8)) 0 10)), (1, rv (bo X) (dR D 0 8)), (0, .ref (bo X + pp 0))]) O dX11_takeSpare_22 rfl (by rw [hn]; decide) (by simp [rv_cat, cat_i, cat_l, cat_r, cat_n]) ?_
  refine v_aload_n (pc := 23) O dX11_takeSpare_23 2 rfl ?_
  refine v_aload_n (pc := 24) O dX11_takeSpare_24 2 rfl ?_
  refine v_getR (pc := 25) (a := 0) O gf_X11_11 fl_X11_100 kq_0 dX11_takeSpare_25 ?_
  refine v_putR (pc := 28) (a := 0) (r := (dR (sR (sR D 0 8 (dR D 0 9)) 0 9 (dR D 0 8)) 0 11)) O pf_X11_10 rfl fl_X11_96 kq_0 dX11_takeSpare_28 ?_
  refine v_aload_n (pc := 31) O dX11_takeSpare_31 2 rfl ?_
  refine v_aload_nr (pc := 32) O dX11_takeSpare_32 0 rfl ?_
  refine v_putR (pc := 33) (a := 0) (r := (dR (sR (sR D 0 8 (dR D 0 9)) 0 9 (dR D 0 8)) 0 10)) O pf_X11_11 rfl fl_X11_100 kq_0 dX11_takeSpare_33 ?_
  refine v_aload_n (pc := 36) O dX11_takeSpare_36 2 rfl ?_
  refine v_getR (pc := 37) (a := 0) O gf_X11_8 fl_X11_86 kq_0 dX11_takeSpare_37 ?_
  refine v_aload_n (pc := 40) O dX11_takeSpare_40 2 rfl ?_
  refine v_getK (pc := 41) (a := 0) O hm gf_X11_7 fl_X11_73 kq_0 lk_0_7 dX11_takeSpare_41 ?_
  obtain ⟨a1, e2, h⟩ := bind_some h
  rw [e2]
  obtain ⟨c3, h⟩ := if_none h
  obtain ⟨p4, e5, h⟩ := bind_some h
  refine v_callV (pc := 44) (a := a1) (As := [.ref (bo X + pp 190)]) (rest := []) (r := none) (D' := p4) O (bb0 hz) (c_X4_copyMarks hm c3 e5) mw_X4_copyMarks im_X4_copyMarks se_X4_copyMarks ml_X11_293 (kt_X4 c3) (by decide) rfl rfl rfl (by decide) (by decide) (Nat.le_of_ble_eq_true rfl) dX11_takeSpare_44 rfl rfl ?_
  refine v_aload_n (pc := 47) O dX11_takeSpare_47 2 rfl ?_
  obtain ⟨p6, e7, h⟩ := bind_some h
  refine v_callV (pc := 48) (a := 0) (As := []) (rest := []) (r := none) (D' := p6) O (bb0 hz) (c_X11_forgetFindings hm e7) mw_X11_forgetFindings im_X11_forgetFindings se_X11_forgetFindings ml_X11_200 kq_0 (by decide) rfl rfl rfl (by decide) (by decide) (Nat.le_of_ble_eq_true rfl) dX11_takeSpare_48 rfl rfl ?_
  refine v_aload_n (pc := 51) O dX11_takeSpare_51 2 rfl ?_
  refine v_iconst (pc := 52) O dX11_takeSpare_52 ic_1 ?_
  refine v_putZ (pc := 53) (a := 0) O pf_X11_12 fl_X11_262 kq_0 narrow_b1 dX11_takeSpare_53 ?_
  obtain rfl := Option.some.inj h
  exact v_ret (pc := 56) O hz dX11_takeSpare_56
theorem c_X11_takeSpare {l : Launch} {w : Wx} {n nu c u : Nat} {K : Nat → Nat} (hm : wlm w = true) {D : Dat} {z : Dat} (h : f_X11_takeSpare nu K D = some z) : C0 l w yX11_takeSpare cX11_takeSpare 3 none 2 51 [.ref (wb w + pp 0)] n (Ax nu K c u) D none z :=
  C0.of (by decide) (Nat.le_of_ble_eq_true rfl) (fun X e1 e2 e3 hz O => by
  subst e1
  subst e2
  exact w_X11_takeSpare O hm e3 hz  D h)
def f_X1_set_b46 (nu : Nat) (K : Nat → Nat) (D : Dat) : Option (Sum Nat Unit × Dat) :=
  some (.inr (), D)
set_option maxHeartbeats 4000000 in
theorem w_X1_set_b46 {X : Cx} {n nu c u : Nat} {K : Nat → Nat} {z : Sum Nat Unit × Dat} (O : Ok X cX1_set RX1 none 7 123) (hm : wlm (xw X) = true) (hn : xn X = 4) (hz : Z0 X (Ax nu K c u)) (hT : T1 X (zu z)) (D : Dat) (h : f_X1_set_b46 nu K D = some z) : V X (Q1 X n (Ax nu K c u) (zu z)) n (Ax nu K c u) D 46 [] [] := by
  unfold f_X1_set_b46 at h
  obtain rfl := Option.some.inj h
  exact v_r1 (v_ret (pc := 46) O hz dX1_set_46)
def f_X1_set (nu : Nat) (K : Nat → Nat) (x1 : Option Nat) (x2 : Int32) (x3 : Int32) (D : Dat) : Option (Sum Nat Unit × Dat) :=
  ((dR D 6 1)).bind (fun a1 => if a1 = 191 ∨ a1 = 196 then ((f_X4_variableMark a1 x2 D).bind (fun p4 => if p4.1 = (-1) then (if x2 < 0 then (f_X1_set_b46 nu K p4.2) else (if 26 ≤ x2 then (f_X1_set_b46 nu K p4.2) else (if x2 < 0 ∨ 26 ≤ (x2).toNatClampNeg then none else (f_X1_set_b46 nu K (sI p4.2 7 (x2).toNatClampNeg x3))))) else (((dR p4.2 6 1)).bind (fun a10 => if a10 = 191 ∨ a10 = 196 then ((f_X4_variableMark a10 x2 p4.2).bind (fun p13 => sb (f_X1_demand nu K x1 x3 p13.1 p13.2) (fun p15 D17 => f_X1_set_b46 nu K D17))) else none)))) else none)
set_option maxHeartbeats 4000000 in
theorem w_X1_set {X : Cx} {n nu c u : Nat} {K : Nat → Nat} {z : Sum Nat Unit × Dat} (O : Ok X cX1_set RX1 none 7 123) (hm : wlm (xw X) = true) (hn : xn X = 4) (hz : Z0 X (Ax nu K c u)) (hT : T1 X (zu z)) (x1 : Option Nat) (x2 : Int32) (x3 : Int32) (D : Dat) (h : f_X1_set nu K x1 x2 x3 D = some z) : V X (Q1 X n (Ax nu K c u) (zu z)) n (Ax nu K c u) D 0 [(0, .ref (bo X + pp 6)), (1, rv (bo X) x1), (2, .int x2), (3, .int x3)] [] := by
  unfold f_X1_set at h
  refine v_aload_n (pc := 0) O dX1_set_0 0 rfl ?_
  refine v_getR (pc := 1) (a := 6) O gf_X1_1 fl_X1_31 kq_6 dX1_set_1 ?_
  refine v_iload_n (pc := 4) O dX1_set_4 2 rfl ?_
  obtain ⟨a1, e2, h⟩ := bind_some h
  rw [e2]
  obtain ⟨c3, h⟩ := if_none h
  obtain ⟨p4, e5, h⟩ := bind_some h
  refine v_callV (pc := 5) (a := a1) (As := [.int x2]) (rest := []) (r := (some (.int p4.1))) (D' := p4.2) O (bb0 hz) (c_X4_variableMark hm c3 e5) mw_X4_variableMark im_X4_variableMark se_X4_variableMark ml_X1_35 (kt_X4 c3) (by decide) rfl rfl rfl (by decide) (by decide) (Nat.le_of_ble_eq_true rfl) dX1_set_5 rfl rfl ?_
  refine v_iconst (pc := 8) O dX1_set_8 ic_m1 ?_
  refine v_icmpeq (pc := 9) 29 O dX1_set_9 (by decide) (fun c6 => ?_) (fun c6 => ?_)
  · have h := (if_pos c6).symm.trans h
    refine v_iload_n (pc := 29) O dX1_set_29 2 rfl ?_
    refine v_iflt (pc := 30) 46 O dX1_set_30 (by decide) (fun c7 => ?_) (fun c7 => ?_)
    · have h := (if_pos c7).symm.trans h
      refine v_sub [] rfl ?_
      exact w_X1_set_b46 O hm hn hz hT p4.2 h
    · have h := (if_neg c7).symm.trans h
      refine v_iload_n (pc := 33) O dX1_set_33 2 rfl ?_
      refine v_bipush (pc := 34) O dX1_set_34 bp_26 ?_
      refine v_icmpge (pc := 36) 46 O dX1_set_36 (by decide) (fun c8 => ?_) (fun c8 => ?_)
      · have h := (if_pos c8).symm.trans h
        refine v_sub [] rfl ?_
        exact w_X1_set_b46 O hm hn hz hT p4.2 h
      · have h := (if_neg c8).symm.trans h
        refine v_aload_n (pc := 39) O dX1_set_39 0 rfl ?_
        refine v_getK (pc := 40) (a := 6) O hm gf_X1_2 fl_X1_9 kq_6 lk_6_2 dX1_set_40 ?_
        refine v_iload_n (pc := 43) O dX1_set_43 2 rfl ?_
        refine v_iload_n (pc := 44) O dX1_set_44 3 rfl ?_
        obtain ⟨c9, h⟩ := or_none h
        refine v_iast (pc := 45) (a := 7) O kq_7 (inq lq_7 c9) dX1_set_45 ?_
        refine v_sub [] rfl ?_
        exact w_X1_set_b46 O hm hn hz hT (sI p4.2 7 (x2).toNatClampNeg x3) h
  · have h := (if_neg c6).symm.trans h
    refine v_aload_n (pc := 12) O dX1_set_12 0 rfl ?_
    refine v_aload_nr (pc := 13) O dX1_set_13 1 rfl ?_
    refine v_iload_n (pc := 14) O dX1_set_14 3 rfl ?_
    refine v_aload_n (pc := 15) O dX1_set_15 0 rfl ?_
    refine v_getR (pc := 16) (a := 6) O gf_X1_1 fl_X1_31 kq_6 dX1_set_16 ?_
    refine v_iload_n (pc := 19) O dX1_set_19 2 rfl ?_
    obtain ⟨a10, e11, h⟩ := bind_some h
    rw [e11]
    obtain ⟨c12, h⟩ := if_none h
    obtain ⟨p13, e14, h⟩ := bind_some h
    refine v_callV (pc := 20) (a := a10) (As := [.int x2]) (rest := [.int x3, rv (bo X) x1, .ref (bo X + pp 6)]) (r := (some (.int p13.1))) (D' := p13.2) O (bb0 hz) (c_X4_variableMark hm c12 e14) mw_X4_variableMark im_X4_variableMark se_X4_variableMark ml_X1_35 (kt_X4 c12) (by decide) rfl rfl rfl (by decide) (by decide) (by simp [rv_cat, cat_i, cat_l, cat_r, cat_n, fmt_cat]) dX1_set_20 rfl rfl ?_
    rcases sb_some h with ⟨p15, D17, e16, rfl⟩ | ⟨p15, D17, e16, h⟩
    · exact v_call1X (pc := 23) (a := 6) (As := [rv (bo X) x1, .int x3, .int p13.1]) (rest := []) (e := p15) (D' := D17) O hz hT (c_X1_demand (n := n) (nu := nu) (c := c) (u := u) hT.2.1 hm e16 :) mw_X1_demand im_X1_demand se_X1_demand ml_X1_72 kq_6 (by decide) rfl rfl rfl (by decide) (by decide) (Nat.le_of_ble_eq_true rfl) dX1_set_23 rfl
    · refine v_call1 (pc := 23) (a := 6) (As := [rv (bo X) x1, .int x3, .int p13.1]) (rest := []) (r := none) (D' := D17) O hz (c_X1_demand (n := n) (nu := nu) (c := c) (u := u) hT.2.1 hm e16 :) mw_X1_demand im_X1_demand se_X1_demand ml_X1_72 kq_6 (by decide) rfl rfl rfl (by decide) (by decide) (Nat.le_of_ble_eq_true rfl) dX1_set_23 rfl rfl ?_
      refine v_goto (pc := 26) 46 O dX1_set_26 (by decide) ?_
      refine v_sub [] rfl ?_
      exact w_X1_set_b46 O hm hn hz hT D17 h
theorem c_X1_set {l : Launch} {w : Wx} {n nu c u : Nat} {K : Nat → Nat} (hl : l.stackTraces = false) (hm : wlm w = true) {x1 : Option Nat} {x2 : Int32} {x3 : Int32} {D : Dat} {z : Sum Nat Unit × Dat} (h : f_X1_set nu K x1 x2 x3 D = some z) : C1 l w yX1_set cX1_set 4 none 7 123 [.ref (wb w + pp 6), rv (wb w) x1, .int x2, .int x3] n (Ax nu K c u) D (zu z) :=
  C1.of hl (by decide) (by simp [lg_sl, rv_cat, cat_i, cat_l, cat_r, cat_n, fmt_cat]) (fun X e1 e2 e3 hz hT O => by
  subst e1
  subst e2
  have q : lv_args 0 [.ref (bo X + pp 6), rv (bo X) x1, .int x2, .int x3] = [(0, .ref (bo X + pp 6)), (1, rv (bo X) x1), (2, .int x2), (3, .int x3)] := by simp [lv_args, rv_cat, cat_i, cat_l, cat_r, cat_n, fmt_cat]
  show V X _ n _ D 0 (lv_args 0 [.ref (bo X + pp 6), rv (bo X) x1, .int x2, .int x3]) []
  rw [q]
  exact w_X1_set O hm e3 hz hT x1 x2 x3 D h)
