theorem cw_X3_pop : Cond.code yX3_pop cX3_pop 1 (some .int) ∈ tb := tb_of 1575 (by decide +kernel) (by decide +kernel)
theorem mw_X3_pop : MW yX3_pop cX3_pop 1 (some .int) 0 := ⟨cw_X3_pop, ini_X3, by decide +kernel⟩
theorem im_X3_pop : Cond.instanceMethod yX3_pop ∈ tb := tb_of 1573 (by decide +kernel) (by decide +kernel)
theorem se_X3_pop : Cond.selects (yX3_pop).cls yX3_pop yX3_pop ∈ tb := tb_of 1574 (by decide +kernel) (by decide +kernel)
theorem ml_X3_78 : Cond.methodLink RX3 78 yX3_pop ∈ tb := tb_of 1572 (by decide +kernel) (by decide +kernel)
theorem ml_X9_132 : Cond.methodLink RX9 132 yJ7_fill_53178 ∈ tb := tb_of 1331 (by decide +kernel) (by decide +kernel)
theorem ml_X9_172 : Cond.methodLink RX9 172 arraycopyName ∈ tb := tb_of 1416 (by decide +kernel) (by decide +kernel)
theorem cw_X3_getFromRow : Cond.code yX3_getFromRow cX3_getFromRow 3 none ∈ tb := tb_of 1599 (by decide +kernel) (by decide +kernel)
theorem mw_X3_getFromRow : MW yX3_getFromRow cX3_getFromRow 3 none 2 := ⟨cw_X3_getFromRow, ini_X3, by decide +kernel⟩
theorem im_X3_getFromRow : Cond.instanceMethod yX3_getFromRow ∈ tb := tb_of 1598 (by decide +kernel) (by decide +kernel)
theorem se_X3_getFromRow : Cond.selects (yX3_getFromRow).cls yX3_getFromRow yX3_getFromRow ∈ tb := tb_of 73 (by decide +kernel) (by decide +kernel)
theorem ml_X3_99 : Cond.methodLink RX3 99 yX3_getFromRow ∈ tb := tb_of 1596 (by decide +kernel) (by decide +kernel)
theorem cw_X3_setInRow : Cond.code yX3_setInRow cX3_setInRow 4 none ∈ tb := tb_of 1603 (by decide +kernel) (by decide +kernel)
theorem mw_X3_setInRow : MW yX3_setInRow cX3_setInRow 4 none 3 := ⟨cw_X3_setInRow, ini_X3, by decide +kernel⟩
theorem im_X3_setInRow : Cond.instanceMethod yX3_setInRow ∈ tb := tb_of 1602 (by decide +kernel) (by decide +kernel)
theorem se_X3_setInRow : Cond.selects (yX3_setInRow).cls yX3_setInRow yX3_setInRow ∈ tb := tb_of 74 (by decide +kernel) (by decide +kernel)
theorem ml_X3_102 : Cond.methodLink RX3 102 yX3_setInRow ∈ tb := tb_of 1600 (by decide +kernel) (by decide +kernel)
theorem cw_X3_nextInput : Cond.code yX3_nextInput cX3_nextInput 3 (some .int) ∈ tb := tb_of 1607 (by decide +kernel) (by decide +kernel)
theorem mw_X3_nextInput : MW yX3_nextInput cX3_nextInput 3 (some .int) 1 := ⟨cw_X3_nextInput, ini_X3, by decide +kernel⟩
theorem im_X3_nextInput : Cond.instanceMethod yX3_nextInput ∈ tb := tb_of 1606 (by decide +kernel) (by decide +kernel)
theorem se_X3_nextInput : Cond.selects (yX3_nextInput).cls yX3_nextInput yX3_nextInput ∈ tb := tb_of 75 (by decide +kernel) (by decide +kernel)
theorem ml_X3_106 : Cond.methodLink RX3 106 yX3_nextInput ∈ tb := tb_of 1604 (by decide +kernel) (by decide +kernel)
theorem cw_X3_write : Cond.code yX3_write cX3_write 3 none ∈ tb := tb_of 1611 (by decide +kernel) (by decide +kernel)
theorem mw_X3_write : MW yX3_write cX3_write 3 none 2 := ⟨cw_X3_write, ini_X3, by decide +kernel⟩
theorem im_X3_write : Cond.instanceMethod yX3_write ∈ tb := tb_of 1610 (by decide +kernel) (by decide +kernel)
theorem se_X3_write : Cond.selects (yX3_write).cls yX3_write yX3_write ∈ tb := tb_of 76 (by decide +kernel) (by decide +kernel)
theorem ml_X3_109 : Cond.methodLink RX3 109 yX3_write ∈ tb := tb_of 1608 (by decide +kernel) (by decide +kernel)
theorem cl_X9_142 : Cond.constantLong RX9 142 (-1) ∈ tb := tb_of 1335 (by decide +kernel) (by decide +kernel)
theorem cw_J0_indexOf_7cf53 : Cond.code yJ0_indexOf_7cf53 cJ0_indexOf_7cf53 3 (some .int) ∈ tb := tb_of 907 (by decide +kernel) (by decide +kernel)
theorem mw_J0_indexOf_7cf53 : MW yJ0_indexOf_7cf53 cJ0_indexOf_7cf53 3 (some .int) 2 := ⟨cw_J0_indexOf_7cf53, ini_J0, by decide +kernel⟩
theorem im_J0_indexOf_7cf53 : Cond.instanceMethod yJ0_indexOf_7cf53 ∈ tb := tb_of 905 (by decide +kernel) (by decide +kernel)
theorem se_J0_indexOf_7cf53 : Cond.selects (yJ0_indexOf_7cf53).cls yJ0_indexOf_7cf53 yJ0_indexOf_7cf53 ∈ tb := tb_of 906 (by decide +kernel) (by decide +kernel)
theorem ml_J0_633 : Cond.methodLink RJ0 633 yJ0_indexOf_7cf53 ∈ tb := tb_of 904 (by decide +kernel) (by decide +kernel)
theorem cw_X3_reckon : Cond.code yX3_reckon cX3_reckon 4 none ∈ tb := tb_of 1615 (by decide +kernel) (by decide +kernel)
theorem mw_X3_reckon : MW yX3_reckon cX3_reckon 4 none 3 := ⟨cw_X3_reckon, ini_X3, by decide +kernel⟩
theorem im_X3_reckon : Cond.instanceMethod yX3_reckon ∈ tb := tb_of 1614 (by decide +kernel) (by decide +kernel)
theorem se_X3_reckon : Cond.selects (yX3_reckon).cls yX3_reckon yX3_reckon ∈ tb := tb_of 77 (by decide +kernel) (by decide +kernel)
theorem ml_X3_112 : Cond.methodLink RX3 112 yX3_reckon ∈ tb := tb_of 1612 (by decide +kernel) (by decide +kernel)
theorem cw_X9_heightFits : Cond.code yX9_heightFits cX9_heightFits 8 (some .boolean) ∈ tb := tb_of 1348 (by decide +kernel) (by decide +kernel)
theorem mw_X9_heightFits : MW yX9_heightFits cX9_heightFits 8 (some .boolean) 1 := ⟨cw_X9_heightFits, ini_X9, by decide +kernel⟩
theorem im_X9_heightFits : Cond.instanceMethod yX9_heightFits ∈ tb := tb_of 1347 (by decide +kernel) (by decide +kernel)
theorem se_X9_heightFits : Cond.selects (yX9_heightFits).cls yX9_heightFits yX9_heightFits ∈ tb := tb_of 54 (by decide +kernel) (by decide +kernel)
theorem ml_X9_147 : Cond.methodLink RX9 147 yX9_heightFits ∈ tb := tb_of 1345 (by decide +kernel) (by decide +kernel)
theorem cw_X9_shadeOfSource : Cond.code yX9_shadeOfSource cX9_shadeOfSource 4 (some .int) ∈ tb := tb_of 1428 (by decide +kernel) (by decide +kernel)
theorem mw_X9_shadeOfSource : MW yX9_shadeOfSource cX9_shadeOfSource 4 (some .int) 2 := ⟨cw_X9_shadeOfSource, ini_X9, by decide +kernel⟩
theorem im_X9_shadeOfSource : Cond.instanceMethod yX9_shadeOfSource ∈ tb := tb_of 1427 (by decide +kernel) (by decide +kernel)
theorem se_X9_shadeOfSource : Cond.selects (yX9_shadeOfSource).cls yX9_shadeOfSource yX9_shadeOfSource ∈ tb := tb_of 64 (by decide +kernel) (by decide +kernel)
theorem ml_X9_181 : Cond.methodLink RX9 181 yX9_shadeOfSource ∈ tb := tb_of 1425 (by decide +kernel) (by decide +kernel)
theorem cw_X9_raiseLevels : Cond.code yX9_raiseLevels cX9_raiseLevels 5 none ∈ tb := tb_of 1436 (by decide +kernel) (by decide +kernel)
theorem mw_X9_raiseLevels : MW yX9_raiseLevels cX9_raiseLevels 5 none 2 := ⟨cw_X9_raiseLevels, ini_X9, by decide +kernel⟩
theorem im_X9_raiseLevels : Cond.instanceMethod yX9_raiseLevels ∈ tb := tb_of 1435 (by decide +kernel) (by decide +kernel)
theorem se_X9_raiseLevels : Cond.selects (yX9_raiseLevels).cls yX9_raiseLevels yX9_raiseLevels ∈ tb := tb_of 66 (by decide +kernel) (by decide +kernel)
theorem ml_X9_184 : Cond.methodLink RX9 184 yX9_raiseLevels ∈ tb := tb_of 1433 (by decide +kernel) (by decide +kernel)
theorem cw_X9_raiseHeld : Cond.code yX9_raiseHeld cX9_raiseHeld 6 none ∈ tb := tb_of 1444 (by decide +kernel) (by decide +kernel)
theorem mw_X9_raiseHeld : MW yX9_raiseHeld cX9_raiseHeld 6 none 2 := ⟨cw_X9_raiseHeld, ini_X9, by decide +kernel⟩
theorem im_X9_raiseHeld : Cond.instanceMethod yX9_raiseHeld ∈ tb := tb_of 1443 (by decide +kernel) (by decide +kernel)
theorem se_X9_raiseHeld : Cond.selects (yX9_raiseHeld).cls yX9_raiseHeld yX9_raiseHeld ∈ tb := tb_of 67 (by decide +kernel) (by decide +kernel)
theorem ml_X9_188 : Cond.methodLink RX9 188 yX9_raiseHeld ∈ tb := tb_of 1441 (by decide +kernel) (by decide +kernel)
def f_J0_indexOf_0f7a4 (N : Nat) (t : Nat) (x1 : Int32) (D : Dat) : Option (Int32 × Dat) :=
  (f_J0_indexOf_7cf53 N t x1 0 D).bind (fun p1 => some (p1.1, p1.2))
set_option maxHeartbeats 4000000 in
theorem w_J0_indexOf_0f7a4 {X : Cx} {n nu c u : Nat} {K : Nat → Nat} {N : Nat} {t : Nat} {z : Int32 × Dat} (O : Ok X cJ0_indexOf_0f7a4 RJ0 (some .int) 3 75) (hm : wlm (xw X) = true) (hn : xn X = 2) (hz : Z0 X (Ax nu K c u)) (ht : t < 10) (x1 : Int32) (D : Dat) (h : f_J0_indexOf_0f7a4 N t x1 D = some z) : V X (Q0 X n (Ax nu K c u) (some (.int z.1)) z.2) n (Ax nu K c u) D 0 [(0, .ref (woK (xw X) t)), (1, .int x1)] [] := by
  unfold f_J0_indexOf_0f7a4 at h
  refine v_aload_n (pc := 0) O dJ0_indexOf_0f7a4_0 0 rfl ?_
  refine v_iload_n (pc := 1) O dJ0_indexOf_0f7a4_1 1 rfl ?_
  refine v_iconst (pc := 2) O dJ0_indexOf_0f7a4_2 ic_0 ?_
  obtain ⟨p1, e2, h⟩ := bind_some h
  refine v_callT (pc := 3) (i := t) (As := [.int x1, .int 0]) (rest := []) (r := (some (.int p1.1))) (D' := p1.2) O (bb0 hz) ht (c_J0_indexOf_7cf53 hm ht e2) mw_J0_indexOf_7cf53 im_J0_indexOf_7cf53 se_J0_indexOf_7cf53 ml_J0_633 rfl rfl (by decide) (by decide) (Nat.le_of_ble_eq_true rfl) dJ0_indexOf_0f7a4_3 rfl rfl ?_
  obtain rfl := Option.some.inj h
  exact v_iret (pc := 6) O hz dJ0_indexOf_0f7a4_6
theorem c_J0_indexOf_0f7a4 {l : Launch} {w : Wx} {n nu c u : Nat} {K : Nat → Nat} {N : Nat} {t : Nat} (hm : wlm w = true) (ht : t < 10) {x1 : Int32} {D : Dat} {z : Int32 × Dat} (h : f_J0_indexOf_0f7a4 N t x1 D = some z) : C0 l w yJ0_indexOf_0f7a4 cJ0_indexOf_0f7a4 2 (some .int) 3 75 [.ref (woK (w) t), .int x1] n (Ax nu K c u) D (some (.int z.1)) z.2 :=
  C0.of (by decide) (Nat.le_of_ble_eq_true rfl) (fun X e1 e2 e3 hz O => by
  subst e1
  subst e2
  exact w_J0_indexOf_0f7a4 O hm e3 hz ht x1 D h)
def f_X3_perform_b173 (D : Dat) : Option (Dat) :=
  some D
set_option maxHeartbeats 4000000 in
theorem w_X3_perform_b173 {X : Cx} {n nu c u : Nat} {K : Nat → Nat} {z : Dat} (O : Ok X cX3_perform RX3 none 2 45) (hm : wlm (xw X) = true) (hn : xn X = 3) (hz : Z0 X (Ax nu K c u)) (D : Dat) (h : f_X3_perform_b173 D = some z) : V X (Q0 X n (Ax nu K c u) none z) n (Ax nu K c u) D 173 [] [] := by
  unfold f_X3_perform_b173 at h
  obtain rfl := Option.some.inj h
  exact v_ret (pc := 173) O hz dX3_perform_173
def f_X3_perform_b160 (x1 : Int32) (D : Dat) : Option (Dat) :=
  (f_X3_pop D).bind (fun p1 => (f_X3_pop p1.2).bind (fun p3 => (f_X3_reckon x1 p1.1 p3.1 p3.2).bind (fun p5 => f_X3_perform_b173 p5)))
set_option maxHeartbeats 4000000 in
theorem w_X3_perform_b160 {X : Cx} {n nu c u : Nat} {K : Nat → Nat} {z : Dat} (O : Ok X cX3_perform RX3 none 2 45) (hm : wlm (xw X) = true) (hn : xn X = 3) (hz : Z0 X (Ax nu K c u)) (x1 : Int32) (D : Dat) (h : f_X3_perform_b160 x1 D = some z) : V X (Q0 X n (Ax nu K c u) none z) n (Ax nu K c u) D 160 [(0, .ref (bo X + pp 181)), (1, .int x1)] [] := by
  unfold f_X3_perform_b160 at h
  refine v_aload_n (pc := 160) O dX3_perform_160 0 rfl ?_
  refine v_iload_n (pc := 161) O dX3_perform_161 1 rfl ?_
  refine v_aload_n (pc := 162) O dX3_perform_162 0 rfl ?_
  obtain ⟨p1, e2, h⟩ := bind_some h
  refine v_callV (pc := 163) (a := 181) (As := []) (rest := [.int x1, .ref (bo X + pp 181)]) (r := (some (.int p1.1))) (D' := p1.2) O (bb0 hz) (c_X3_pop hm e2) mw_X3_pop im_X3_pop se_X3_pop ml_X3_78 kq_181 (by decide) rfl rfl rfl (by decide) (by decide) (Nat.le_of_ble_eq_true rfl) dX3_perform_163 rfl rfl ?_
  refine v_aload_n (pc := 166) O dX3_perform_166 0 rfl ?_
  obtain ⟨p3, e4, h⟩ := bind_some h
  refine v_callV (pc := 167) (a := 181) (As := []) (rest := [.int p1.1, .int x1, .ref (bo X + pp 181)]) (r := (some (.int p3.1))) (D' := p3.2) O (bb0 hz) (c_X3_pop hm e4) mw_X3_pop im_X3_pop se_X3_pop ml_X3_78 kq_181 (by decide) rfl rfl rfl (by decide) (by decide) (Nat.le_of_ble_eq_true rfl) dX3_perform_167 rfl rfl ?_
  obtain ⟨p5, e6, h⟩ := bind_some h
  refine v_callV (pc := 170) (a := 181) (As := [.int x1, .int p1.1, .int p3.1]) (rest := []) (r := none) (D' := p5) O (bb0 hz) (c_X3_reckon hm e6) mw_X3_reckon im_X3_reckon se_X3_reckon ml_X3_112 kq_181 (by decide) rfl rfl rfl (by decide) (by decide) (Nat.le_of_ble_eq_true rfl) dX3_perform_170 rfl rfl ?_
  refine v_sub [] rfl ?_
  exact w_X3_perform_b173 O hm hn hz p5 h
def f_X3_perform (x1 : Int32) (x2 : Int32) (D : Dat) : Option (Dat) :=
  (if x1 = (0 : Int32) then ((f_X3_push x2 D).bind (fun p8 => f_X3_perform_b173 p8)) else (if x1 = (1 : Int32) then ((f_X3_cell x2 D).bind (fun p11 => (f_X3_push p11.1 p11.2).bind (fun p13 => f_X3_perform_b173 p13))) else (if x1 = (2 : Int32) then ((f_X3_pop D).bind (fun p16 => (f_X3_setCell x2 p16.1 p16.2).bind (fun p18 => f_X3_perform_b173 p18))) else (if x1 = (3 : Int32) then ((f_X3_pop D).bind (fun p21 => (f_X3_getFromRow x2 p21.1 p21.2).bind (fun p23 => f_X3_perform_b173 p23))) else (if x1 = (4 : Int32) then ((f_X3_pop D).bind (fun p26 => (f_X3_pop p26.2).bind (fun p28 => (f_X3_setInRow x2 p26.1 p28.1 p28.2).bind (fun p30 => f_X3_perform_b173 p30)))) else (if x1 = (13 : Int32) then ((f_X3_nextInput x2 D).bind (fun p33 => (f_X3_push p33.1 p33.2).bind (fun p35 => f_X3_perform_b173 p35))) else (if x1 = (14 : Int32) then ((f_X3_pop D).bind (fun p38 => (f_X3_write x2 p38.1 p38.2).bind (fun p40 => f_X3_perform_b173 p40))) else (f_X3_perform_b160 x1 D))))))))
set_option maxHeartbeats 4000000 in
theorem w_X3_perform {X : Cx} {n nu c u : Nat} {K : Nat → Nat} {z : Dat} (O : Ok X cX3_perform RX3 none 2 45) (hm : wlm (xw X) = true) (hn : xn X = 3) (hz : Z0 X (Ax nu K c u)) (x1 : Int32) (x2 : Int32) (D : Dat) (h : f_X3_perform x1 x2 D = some z) : V X (Q0 X n (Ax nu K c u) none z) n (Ax nu K c u) D 0 [(0, .ref (bo X + pp 181)), (1, .int x1), (2, .int x2)] [] := by
  unfold f_X3_perform at h
  refine v_iload_n (pc := 0) O dX3_perform_0 1 rfl ?_
  by_cases c7 : x1 = (0 : Int32)
  · have h := (if_pos c7).symm.trans h
    refine v_tableIn (pc := 1) 76 O dX3_perform_1 (by rw [c7]; decide) (by rw [c7]; decide) (by rw [c7]; rfl) (by decide) ?_
    refine v_aload_n (pc := 76) O dX3_perform_76 0 rfl ?_
    refine v_iload_n (pc := 77) O dX3_perform_77 2 rfl ?_
    obtain ⟨p8, e9, h⟩ := bind_some h
    refine v_callV (pc := 78) (a := 181) (As := [.int x2]) (rest := []) (r := none) (D' := p8) O (bb0 hz) (c_X3_push hm e9) mw_X3_push im_X3_push se_X3_push ml_X3_89 kq_181 (by decide) rfl rfl rfl (by decide) (by decide) (Nat.le_of_ble_eq_true rfl) dX3_perform_78 rfl rfl ?_
    refine v_goto (pc := 81) 173 O dX3_perform_81 (by decide) ?_
    refine v_sub [] rfl ?_
    exact w_X3_perform_b173 O hm hn hz p8 h
  · have h := (if_neg c7).symm.trans h
    by_cases c10 : x1 = (1 : Int32)
    · have h := (if_pos c10).symm.trans h
      refine v_tableIn (pc := 1) 84 O dX3_perform_1 (by rw [c10]; decide) (by rw [c10]; decide) (by rw [c10]; rfl) (by decide) ?_
      refine v_aload_n (pc := 84) O dX3_perform_84 0 rfl ?_
      refine v_aload_n (pc := 85) O dX3_perform_85 0 rfl ?_
      refine v_iload_n (pc := 86) O dX3_perform_86 2 rfl ?_
      obtain ⟨p11, e12, h⟩ := bind_some h
      refine v_callV (pc := 87) (a := 181) (As := [.int x2]) (rest := [.ref (bo X + pp 181)]) (r := (some (.int p11.1))) (D' := p11.2) O (bb0 hz) (c_X3_cell hm e12) mw_X3_cell im_X3_cell se_X3_cell ml_X3_93 kq_181 (by decide) rfl rfl rfl (by decide) (by decide) (Nat.le_of_ble_eq_true rfl) dX3_perform_87 rfl rfl ?_
      obtain ⟨p13, e14, h⟩ := bind_some h
      refine v_callV (pc := 90) (a := 181) (As := [.int p11.1]) (rest := []) (r := none) (D' := p13) O (bb0 hz) (c_X3_push hm e14) mw_X3_push im_X3_push se_X3_push ml_X3_89 kq_181 (by decide) rfl rfl rfl (by decide) (by decide) (Nat.le_of_ble_eq_true rfl) dX3_perform_90 rfl rfl ?_
      refine v_goto (pc := 93) 173 O dX3_perform_93 (by decide) ?_
      refine v_sub [] rfl ?_
      exact w_X3_perform_b173 O hm hn hz p13 h
    · have h := (if_neg c10).symm.trans h
      by_cases c15 : x1 = (2 : Int32)
      · have h := (if_pos c15).symm.trans h
        refine v_tableIn (pc := 1) 96 O dX3_perform_1 (by rw [c15]; decide) (by rw [c15]; decide) (by rw [c15]; rfl) (by decide) ?_
        refine v_aload_n (pc := 96) O dX3_perform_96 0 rfl ?_
        refine v_iload_n (pc := 97) O dX3_perform_97 2 rfl ?_
        refine v_aload_n (pc := 98) O dX3_perform_98 0 rfl ?_
        obtain ⟨p16, e17, h⟩ := bind_some h
        refine v_callV (pc := 99) (a := 181) (As := []) (rest := [.int x2, .ref (bo X + pp 181)]) (r := (some (.int p16.1))) (D' := p16.2) O (bb0 hz) (c_X3_pop hm e17) mw_X3_pop im_X3_pop se_X3_pop ml_X3_78 kq_181 (by decide) rfl rfl rfl (by decide) (by decide) (Nat.le_of_ble_eq_true rfl) dX3_perform_99 rfl rfl ?_
        obtain ⟨p18, e19, h⟩ := bind_some h
        refine v_callV (pc := 102) (a := 181) (As := [.int x2, .int p16.1]) (rest := []) (r := none) (D' := p18) O (bb0 hz) (c_X3_setCell hm e19) mw_X3_setCell im_X3_setCell se_X3_setCell ml_X3_96 kq_181 (by decide) rfl rfl rfl (by decide) (by decide) (Nat.le_of_ble_eq_true rfl) dX3_perform_102 rfl rfl ?_
        refine v_goto (pc := 105) 173 O dX3_perform_105 (by decide) ?_
        refine v_sub [] rfl ?_
        exact w_X3_perform_b173 O hm hn hz p18 h
      · have h := (if_neg c15).symm.trans h
        by_cases c20 : x1 = (3 : Int32)
        · have h := (if_pos c20).symm.trans h
          refine v_tableIn (pc := 1) 108 O dX3_perform_1 (by rw [c20]; decide) (by rw [c20]; decide) (by rw [c20]; rfl) (by decide) ?_
          refine v_aload_n (pc := 108) O dX3_perform_108 0 rfl ?_
          refine v_iload_n (pc := 109) O dX3_perform_109 2 rfl ?_
          refine v_aload_n (pc := 110) O dX3_perform_110 0 rfl ?_
          obtain ⟨p21, e22, h⟩ := bind_some h
          refine v_callV (pc := 111) (a := 181) (As := []) (rest := [.int x2, .ref (bo X + pp 181)]) (r := (some (.int p21.1))) (D' := p21.2) O (bb0 hz) (c_X3_pop hm e22) mw_X3_pop im_X3_pop se_X3_pop ml_X3_78 kq_181 (by decide) rfl rfl rfl (by decide) (by decide) (Nat.le_of_ble_eq_true rfl) dX3_perform_111 rfl rfl ?_
          obtain ⟨p23, e24, h⟩ := bind_some h
          refine v_callV (pc := 114) (a := 181) (As := [.int x2, .int p21.1]) (rest := []) (r := none) (D' := p23) O (bb0 hz) (c_X3_getFromRow hm e24) mw_X3_getFromRow im_X3_getFromRow se_X3_getFromRow ml_X3_99 kq_181 (by decide) rfl rfl rfl (by decide) (by decide) (Nat.le_of_ble_eq_true rfl) dX3_perform_114 rfl rfl ?_
          refine v_goto (pc := 117) 173 O dX3_perform_117 (by decide) ?_
          refine v_sub [] rfl ?_
          exact w_X3_perform_b173 O hm hn hz p23 h
        · have h := (if_neg c20).symm.trans h
          by_cases c25 : x1 = (4 : Int32)
          · have h := (if_pos c25).symm.trans h
            refine v_tableIn (pc := 1) 120 O dX3_perform_1 (by rw [c25]; decide) (by rw [c25]; decide) (by rw [c25]; rfl) (by decide) ?_
            refine v_aload_n (pc := 120) O dX3_perform_120 0 rfl ?_
            refine v_iload_n (pc := 121) O dX3_perform_121 2 rfl ?_
            refine v_aload_n (pc := 122) O dX3_perform_122 0 rfl ?_
            obtain ⟨p26, e27, h⟩ := bind_some h
            refine v_callV (pc := 123) (a := 181) (As := []) (rest := [.int x2, .ref (bo X + pp 181)]) (r := (some (.int p26.1))) (D' := p26.2) O (bb0 hz) (c_X3_pop hm e27) mw_X3_pop im_X3_pop se_X3_pop ml_X3_78 kq_181 (by decide) rfl rfl rfl (by decide) (by decide) (Nat.le_of_ble_eq_true rfl) dX3_perform_123 rfl rfl ?_
            refine v_aload_n (pc := 126) O dX3_perform_126 0 rfl ?_
            obtain ⟨p28, e29, h⟩ := bind_some h
            refine v_callV (pc := 127) (a := 181) (As := []) (rest := [.int p26.1, .int x2, .ref (bo X + pp 181)]) (r := (some (.int p28.1))) (D' := p28.2) O (bb0 hz) (c_X3_pop hm e29) mw_X3_pop im_X3_pop se_X3_pop ml_X3_78 kq_181 (by decide) rfl rfl rfl (by decide) (by decide) (Nat.le_of_ble_eq_true rfl) dX3_perform_127 rfl rfl ?_
            obtain ⟨p30, e31, h⟩ := bind_some h
            refine v_callV (pc := 130) (a := 181) (As := [.int x2, .int p26.1, .int p28.1]) (rest := []) (r := none) (D' := p30) O (bb0 hz) (c_X3_setInRow hm e31) mw_X3_setInRow im_X3_setInRow se_X3_setInRow ml_X3_102 kq_181 (by decide) rfl rfl rfl (by decide) (by decide) (Nat.le_of_ble_eq_true rfl) dX3_perform_130 rfl rfl ?_
            refine v_goto (pc := 133) 173 O dX3_perform_133 (by decide) ?_
            refine v_sub [] rfl ?_
            exact w_X3_perform_b173 O hm hn hz p30 h
          · have h := (if_neg c25).symm.trans h
            by_cases c32 : x1 = (13 : Int32)
            · have h := (if_pos c32).symm.trans h
              refine v_tableIn (pc := 1) 136 O dX3_perform_1 (by rw [c32]; decide) (by rw [c32]; decide) (by rw [c32]; rfl) (by decide) ?_
              refine v_aload_n (pc := 136) O dX3_perform_136 0 rfl ?_
              refine v_aload_n (pc := 137) O dX3_perform_137 0 rfl ?_
              refine v_iload_n (pc := 138) O dX3_perform_138 2 rfl ?_
              obtain ⟨p33, e34, h⟩ := bind_some h
              refine v_callV (pc := 139) (a := 181) (As := [.int x2]) (rest := [.ref (bo X + pp 181)]) (r := (some (.int p33.1))) (D' := p33.2) O (bb0 hz) (c_X3_nextInput hm e34) mw_X3_nextInput im_X3_nextInput se_X3_nextInput ml_X3_106 kq_181 (by decide) rfl rfl rfl (by decide) (by decide) (Nat.le_of_ble_eq_true rfl) dX3_perform_139 rfl rfl ?_
              obtain ⟨p35, e36, h⟩ := bind_some h
              refine v_callV (pc := 142) (a := 181) (As := [.int p33.1]) (rest := []) (r := none) (D' := p35) O (bb0 hz) (c_X3_push hm e36) mw_X3_push im_X3_push se_X3_push ml_X3_89 kq_181 (by decide) rfl rfl rfl (by decide) (by decide) (Nat.le_of_ble_eq_true rfl) dX3_perform_142 rfl rfl ?_
              refine v_goto (pc := 145) 173 O dX3_perform_145 (by decide) ?_
              refine v_sub [] rfl ?_
              exact w_X3_perform_b173 O hm hn hz p35 h
            · have h := (if_neg c32).symm.trans h
              by_cases c37 : x1 = (14 : Int32)
              · have h := (if_pos c37).symm.trans h
                refine v_tableIn (pc := 1) 148 O dX3_perform_1 (by rw [c37]; decide) (by rw [c37]; decide) (by rw [c37]; rfl) (by decide) ?_
                refine v_aload_n (pc := 148) O dX3_perform_148 0 rfl ?_
                refine v_iload_n (pc := 149) O dX3_perform_149 2 rfl ?_
                refine v_aload_n (pc := 150) O dX3_perform_150 0 rfl ?_
                obtain ⟨p38, e39, h⟩ := bind_some h
                refine v_callV (pc := 151) (a := 181) (As := []) (rest := [.int x2, .ref (bo X + pp 181)]) (r := (some (.int p38.1))) (D' := p38.2) O (bb0 hz) (c_X3_pop hm e39) mw_X3_pop im_X3_pop se_X3_pop ml_X3_78 kq_181 (by decide) rfl rfl rfl (by decide) (by decide) (Nat.le_of_ble_eq_true rfl) dX3_perform_151 rfl rfl ?_
                obtain ⟨p40, e41, h⟩ := bind_some h
                refine v_callV (pc := 154) (a := 181) (As := [.int x2, .int p38.1]) (rest := []) (r := none) (D' := p40) O (bb0 hz) (c_X3_write hm e41) mw_X3_write im_X3_write se_X3_write ml_X3_109 kq_181 (by decide) rfl rfl rfl (by decide) (by decide) (Nat.le_of_ble_eq_true rfl) dX3_perform_154 rfl rfl ?_
                refine v_goto (pc := 157) 173 O dX3_perform_157 (by decide) ?_
                refine v_sub [] rfl ?_
                exact w_X3_perform_b173 O hm hn hz p40 h
              · have h := (if_neg c37).symm.trans h
                refine v_table (pc := 1) 160 O dX3_perform_1 (fun g1 g2 => by
                    have c7i := ne_i (0) rfl c7
                    have c10i := ne_i (1) rfl c10
                    have c15i := ne_i (2) rfl c15
                    have c20i := ne_i (3) rfl c20
                    have c25i := ne_i (4) rfl c25
                    have c32i := ne_i (13) rfl c32
                    have c37i := ne_i (14) rfl c37
                    rcases (show x1.toInt = 5 ∨ x1.toInt = 6 ∨ x1.toInt = 7 ∨ x1.toInt = 8 ∨ x1.toInt = 9 ∨ x1.toInt = 10 ∨ x1.toInt = 11 ∨ x1.toInt = 12 by omega) with e9 | e9 | e9 | e9 | e9 | e9 | e9 | e9 <;> (rw [e9]; exact ⟨_, rfl, by decide⟩)) (by decide) ?_
                refine v_sub [0, 1] rfl ?_
                exact w_X3_perform_b160 O hm hn hz x1 D h
theorem c_X3_perform {l : Launch} {w : Wx} {n nu c u : Nat} {K : Nat → Nat} (hm : wlm w = true) {x1 : Int32} {x2 : Int32} {D : Dat} {z : Dat} (h : f_X3_perform x1 x2 D = some z) : C0 l w yX3_perform cX3_perform 3 none 2 45 [.ref (wb w + pp 181), .int x1, .int x2] n (Ax nu K c u) D none z :=
  C0.of (by decide) (Nat.le_of_ble_eq_true rfl) (fun X e1 e2 e3 hz O => by
  subst e1
  subst e2
  exact w_X3_perform O hm e3 hz x1 x2 D h)
def f_X6_findSure_b74 (N : Nat) (rec_4 : Int32 → Int32 → Dat → Option (Dat)) (rec_30 : Int32 → Int32 → Int32 → Dat → Option (Dat)) (x2 : Int32) (x3 : Int32) (x4 : Int64) (s0 : Int32) (D : Dat) : Option (Dat) :=
  if x3 < 0 ∨ 64 ≤ (x3).toNatClampNeg then none else (rec_30 s0 x2 (x3 + (-1)) (sL D 110 (x3).toNatClampNeg x4))
set_option maxHeartbeats 4000000 in
theorem w_X6_findSure_b74 {X : Cx} {n nu c u : Nat} {K : Nat → Nat} {N : Nat} {rec_4 : Int32 → Int32 → Dat → Option (Dat)} {rec_30 : Int32 → Int32 → Int32 → Dat → Option (Dat)} {z : Dat} (O : Ok X cX6_findSure RX6 none 3 68) (hm : wlm (xw X) = true) (hn : xn X = 6) (hz : Z0 X (Ax nu K c u)) (hrec_4 : ∀ (x1 : Int32) (x2 : Int32) (D : Dat), rec_4 x1 x2 D = some z → V X (Q0 X n (Ax nu K c u) none z) n (Ax nu K c u) D 4 [(0, .ref (bo X + pp 108)), (1, .int x1), (2, .int x2)] []) (hrec_30 : ∀ (x1 : Int32) (x2 : Int32) (x3 : Int32) (D : Dat), rec_30 x1 x2 x3 D = some z → V X (Q0 X n (Ax nu K c u) none z) n (Ax nu K c u) D 30 [(0, .ref (bo X + pp 108)), (1, .int x1), (2, .int x2), (3, .int x3)] []) (x2 : Int32) (x3 : Int32) (x4 : Int64) (s0 : Int32) (D : Dat) (h : f_X6_findSure_b74 N rec_4 rec_30 x2 x3 x4 s0 D = some z) : V X (Q0 X n (Ax nu K c u) none z) n (Ax nu K c u) D 74 [(0, .ref (bo X + pp 108)), (2, .int x2), (3, .int x3), (4, .long x4)] [.int s0] := by
  unfold f_X6_findSure_b74 at h
  refine v_istore_n (pc := 74) (lv' := [(1, .int s0), (0, .ref (bo X + pp 108)), (2, .int x2), (3, .int x3), (4, .long x4)]) O dX6_findSure_74 rfl (by rw [hn]; decide) rfl ?_
  refine v_aload_n (pc := 75) O dX6_findSure_75 1 rfl ?_
  refine v_getK (pc := 76) (a := 108) O hm gf_X6_1 fl_X6_15 kq_108 lk_108_1 dX6_findSure_76 ?_
  refine v_iload_n (pc := 79) O dX6_findSure_79 3 rfl ?_
  refine v_lload (pc := 80) O dX6_findSure_80 4 rfl ?_
  obtain ⟨c1, h⟩ := or_none h
  refine v_last (pc := 82) (a := 110) O kq_110 (inq lq_110 c1) dX6_findSure_82 ?_
  refine v_iinc (pc := 83) (lv' := [(3, .int (x3 + (-1))), (1, .int s0), (0, .ref (bo X + pp 108)), (2, .int x2), (4, .long x4)]) O dX6_findSure_83 3 rfl (congrArg (fun q => x3 + q) ic_m1) (by rw [hn]; decide) rfl ?_
  refine v_goto (pc := 86) 30 O dX6_findSure_86 (by decide) ?_
  refine v_sub [2, 1, 3, 0] rfl ?_
  exact hrec_30 s0 x2 (x3 + (-1)) (sL D 110 (x3).toNatClampNeg x4) h
def f_X6_findSure_b69 (N : Nat) (rec_4 : Int32 → Int32 → Dat → Option (Dat)) (rec_30 : Int32 → Int32 → Int32 → Dat → Option (Dat)) (x2 : Int32) (x3 : Int32) (x4 : Int64) (D : Dat) : Option (Dat) :=
  f_X6_findSure_b74 N rec_4 rec_30 x2 x3 x4 1 D
set_option maxHeartbeats 4000000 in
theorem w_X6_findSure_b69 {X : Cx} {n nu c u : Nat} {K : Nat → Nat} {N : Nat} {rec_4 : Int32 → Int32 → Dat → Option (Dat)} {rec_30 : Int32 → Int32 → Int32 → Dat → Option (Dat)} {z : Dat} (O : Ok X cX6_findSure RX6 none 3 68) (hm : wlm (xw X) = true) (hn : xn X = 6) (hz : Z0 X (Ax nu K c u)) (hrec_4 : ∀ (x1 : Int32) (x2 : Int32) (D : Dat), rec_4 x1 x2 D = some z → V X (Q0 X n (Ax nu K c u) none z) n (Ax nu K c u) D 4 [(0, .ref (bo X + pp 108)), (1, .int x1), (2, .int x2)] []) (hrec_30 : ∀ (x1 : Int32) (x2 : Int32) (x3 : Int32) (D : Dat), rec_30 x1 x2 x3 D = some z → V X (Q0 X n (Ax nu K c u) none z) n (Ax nu K c u) D 30 [(0, .ref (bo X + pp 108)), (1, .int x1), (2, .int x2), (3, .int x3)] []) (x2 : Int32) (x3 : Int32) (x4 : Int64) (D : Dat) (h : f_X6_findSure_b69 N rec_4 rec_30 x2 x3 x4 D = some z) : V X (Q0 X n (Ax nu K c u) none z) n (Ax nu K c u) D 69 [(0, .ref (bo X + pp 108)), (2, .int x2), (3, .int x3), (4, .long x4)] [] := by
  unfold f_X6_findSure_b69 at h
  refine v_iconst (pc := 69) O dX6_findSure_69 ic_1 ?_
  refine v_goto (pc := 70) 74 O dX6_findSure_70 (by decide) ?_
  refine v_sub [0, 1, 2, 3] rfl ?_
  exact w_X6_findSure_b74 O hm hn hz hrec_4 hrec_30 x2 x3 x4 1 D h
def f_X6_findSure_b30 (N : Nat) (rec_4 : Int32 → Int32 → Dat → Option (Dat)) : Nat → Int32 → Int32 → Int32 → Dat → Option (Dat)
  | 0, _, _, _, _ => none
  | g + 1, x1, x2, x3, D => if x3 < 0 then (rec_4 x1 (x2 + 1) D) else (if x3 < 0 ∨ 64 ≤ (x3).toNatClampNeg then none else ((f_X11_bit x3 D).bind (fun p4 => (f_X6_sureBehind N x3 p4.2).bind (fun p6 => if x1 = 0 then (if x3 < 0 ∨ 64 ≤ (x3).toNatClampNeg then none else (if (lg_cmp ((dL D 110 (x3).toNatClampNeg) &&& (p4.1 ||| p6.1)) (dL p6.2 110 (x3).toNatClampNeg)) = 0 then (f_X6_findSure_b74 N rec_4 (f_X6_findSure_b30 N rec_4 g) x2 x3 ((dL D 110 (x3).toNatClampNeg) &&& (p4.1 ||| p6.1)) 0 p6.2) else (f_X6_findSure_b69 N rec_4 (f_X6_findSure_b30 N rec_4 g) x2 x3 ((dL D 110 (x3).toNatClampNeg) &&& (p4.1 ||| p6.1)) p6.2))) else (f_X6_findSure_b69 N rec_4 (f_X6_findSure_b30 N rec_4 g) x2 x3 ((dL D 110 (x3).toNatClampNeg) &&& (p4.1 ||| p6.1)) p6.2)))))
set_option maxHeartbeats 4000000 in
theorem w_X6_findSure_b30 {X : Cx} {n nu c u : Nat} {K : Nat → Nat} {N : Nat} {rec_4 : Int32 → Int32 → Dat → Option (Dat)} {z : Dat} (O : Ok X cX6_findSure RX6 none 3 68) (hm : wlm (xw X) = true) (hn : xn X = 6) (hz : Z0 X (Ax nu K c u)) (hrec_4 : ∀ (x1 : Int32) (x2 : Int32) (D : Dat), rec_4 x1 x2 D = some z → V X (Q0 X n (Ax nu K c u) none z) n (Ax nu K c u) D 4 [(0, .ref (bo X + pp 108)), (1, .int x1), (2, .int x2)] []) : ∀ (g : Nat) (x1 : Int32) (x2 : Int32) (x3 : Int32) (D : Dat), f_X6_findSure_b30 N rec_4 g x1 x2 x3 D = some z → V X (Q0 X n (Ax nu K c u) none z) n (Ax nu K c u) D 30 [(0, .ref (bo X + pp 108)), (1, .int x1), (2, .int x2), (3, .int x3)] [] := by
  intro g
  induction g with
  | zero => intro x1 x2 x3 D h; exact absurd h (by simp [f_X6_findSure_b30])
  | succ g ih =>
    intro x1 x2 x3 D h
    rw [f_X6_findSure_b30] at h
    refine v_iload_n (pc := 30) O dX6_findSure_30 3 rfl ?_
    refine v_iflt (pc := 31) 89 O dX6_findSure_31 (by decide) (fun c2 => ?_) (fun c2 => ?_)
    · have h := (if_pos c2).symm.trans h
      refine v_iinc (pc := 89) (lv' := [(2, .int (x2 + 1)), (0, .ref (bo X + pp 108)), (1, .int x1), (3, .int x3)]) O dX6_findSure_89 2 rfl (congrArg (fun q => x2 + q) ic_1) (by rw [hn]; decide) rfl ?_
      refine v_goto (pc := 92) 4 O dX6_findSure_92 (by decide) ?_
      refine v_sub [1, 2, 0] rfl ?_
      exact hrec_4 x1 (x2 + 1) D h
    · have h := (if_neg c2).symm.trans h
      refine v_aload_n (pc := 34) O dX6_findSure_34 0 rfl ?_
      refine v_getK (pc := 35) (a := 108) O hm gf_X6_1 fl_X6_15 kq_108 lk_108_1 dX6_findSure_35 ?_
      refine v_iload_n (pc := 38) O dX6_findSure_38 3 rfl ?_
      obtain ⟨c3, h⟩ := or_none h
      refine v_lald (pc := 39) (a := 110) O kq_110 (inq lq_110 c3) dX6_findSure_39 ?_
      refine v_iload_n (pc := 40) O dX6_findSure_40 3 rfl ?_
      obtain ⟨p4, e5, h⟩ := bind_some h
      refine v_callN (pc := 41) (As := [.int x3]) (rest := [.long (dL D 110 (x3).toNatClampNeg)]) (r := (some (.long p4.1))) (D' := p4.2) O (bb0 hz) (c_X11_bit hm e5) mw_X11_bit sm_X11_bit nl_X6_55 rfl (by decide) (by decide) (Nat.le_of_ble_eq_true rfl) dX6_findSure_41 rfl rfl ?_
      refine v_aload_n (pc := 44) O dX6_findSure_44 0 rfl ?_
      refine v_iload_n (pc := 45) O dX6_findSure_45 3 rfl ?_
      obtain ⟨p6, e7, h⟩ := bind_some h
      refine v_callV (pc := 46) (a := 108) (As := [.int x3]) (rest := [.long p4.1, .long (dL D 110 (x3).toNatClampNeg)]) (r := (some (.long p6.1))) (D' := p6.2) O (bb0 hz) (c_X6_sureBehind hm e7) mw_X6_sureBehind im_X6_sureBehind se_X6_sureBehind ml_X6_73 kq_108 (by decide) rfl rfl rfl (by decide) (by decide) (Nat.le_of_ble_eq_true rfl) dX6_findSure_46 rfl rfl ?_
      refine v_lor (pc := 49) O dX6_findSure_49 ?_
      refine v_land (pc := 50) O dX6_findSure_50 ?_
      refine v_lstore (pc := 51) (lv' := [(4, .long ((dL D 110 (x3).toNatClampNeg) &&& (p4.1 ||| p6.1))), (0, .ref (bo X + pp 108)), (1, .int x1), (2, .int x2), (3, .int x3)]) O dX6_findSure_51 (by rw [hn]; decide) rfl ?_
      refine v_iload_n (pc := 53) O dX6_findSure_53 2 rfl ?_
      refine v_ifne (pc := 54) 69 O dX6_findSure_54 (by decide) (fun c8 => ?_) (fun c8 => ?_)
      · have h := (if_neg c8).symm.trans h
        refine v_sub [1, 3, 4, 0] rfl ?_
        exact w_X6_findSure_b69 O hm hn hz hrec_4 ih x2 x3 ((dL D 110 (x3).toNatClampNeg) &&& (p4.1 ||| p6.1)) p6.2 h
      · have h := (if_pos c8).symm.trans h
        refine v_lload (pc := 57) O dX6_findSure_57 0 rfl ?_
        refine v_aload_n (pc := 59) O dX6_findSure_59 1 rfl ?_
        refine v_getK (pc := 60) (a := 108) O hm gf_X6_1 fl_X6_15 kq_108 lk_108_1 dX6_findSure_60 ?_
        refine v_iload_n (pc := 63) O dX6_findSure_63 4 rfl ?_
        obtain ⟨c9, h⟩ := or_none h
        refine v_lald (pc := 64) (a := 110) O kq_110 (inq lq_110 c9) dX6_findSure_64 ?_
        refine v_lcmp (pc := 65) O dX6_findSure_65 ?_
        refine v_ifeq (pc := 66) 73 O dX6_findSure_66 (by decide) (fun c10 => ?_) (fun c10 => ?_)
        · have h := (if_pos c10).symm.trans h
          refine v_iconst (pc := 73) O dX6_findSure_73 ic_0 ?_
          refine v_sub [1, 3, 4, 0] rfl ?_
          exact w_X6_findSure_b74 O hm hn hz hrec_4 ih x2 x3 ((dL D 110 (x3).toNatClampNeg) &&& (p4.1 ||| p6.1)) 0 p6.2 h
        · have h := (if_neg c10).symm.trans h
          refine v_sub [1, 3, 4, 0] rfl ?_
          exact w_X6_findSure_b69 O hm hn hz hrec_4 ih x2 x3 ((dL D 110 (x3).toNatClampNeg) &&& (p4.1 ||| p6.1)) p6.2 h
def f_X6_findSure_b95 (N : Nat) (D : Dat) : Option (Dat) :=
  some D
set_option maxHeartbeats 4000000 in
theorem w_X6_findSure_b95 {X : Cx} {n nu c u : Nat} {K : Nat → Nat} {N : Nat} {z : Dat} (O : Ok X cX6_findSure RX6 none 3 68) (hm : wlm (xw X) = true) (hn : xn X = 6) (hz : Z0 X (Ax nu K c u)) (D : Dat) (h : f_X6_findSure_b95 N D = some z) : V X (Q0 X n (Ax nu K c u) none z) n (Ax nu K c u) D 95 [] [] := by
  unfold f_X6_findSure_b95 at h
  obtain rfl := Option.some.inj h
  exact v_ret (pc := 95) O hz dX6_findSure_95
def f_X6_findSure_b4 (N : Nat) : Nat → Int32 → Int32 → Dat → Option (Dat)
  | 0, _, _, _ => none
  | g + 1, x1, x2, D => if ((dI D 108 4) * (dI D 108 4)) < x2 then (f_X6_findSure_b95 N D) else (if x1 = 0 then (f_X6_findSure_b95 N D) else (f_X6_findSure_b30 N (f_X6_findSure_b4 N g) N 0 x2 ((dI D 108 4) - (1 : Int32)) D))
set_option maxHeartbeats 4000000 in
theorem w_X6_findSure_b4 {X : Cx} {n nu c u : Nat} {K : Nat → Nat} {N : Nat} {z : Dat} (O : Ok X cX6_findSure RX6 none 3 68) (hm : wlm (xw X) = true) (hn : xn X = 6) (hz : Z0 X (Ax nu K c u)) : ∀ (g : Nat) (x1 : Int32) (x2 : Int32) (D : Dat), f_X6_findSure_b4 N g x1 x2 D = some z → V X (Q0 X n (Ax nu K c u) none z) n (Ax nu K c u) D 4 [(0, .ref (bo X + pp 108)), (1, .int x1), (2, .int x2)] [] := by
  intro g
  induction g with
  | zero => intro x1 x2 D h; exact absurd h (by simp [f_X6_findSure_b4])
  | succ g ih =>
    intro x1 x2 D h
    rw [f_X6_findSure_b4] at h
    refine v_iload_n (pc := 4) O dX6_findSure_4 2 rfl ?_
    refine v_aload_n (pc := 5) O dX6_findSure_5 0 rfl ?_
    refine v_getI (pc := 6) (a := 108) O gf_X6_4 fl_X6_25 kq_108 dX6_findSure_6 ?_
    refine v_aload_n (pc := 9) O dX6_findSure_9 0 rfl ?_
    refine v_getI (pc := 10) (a := 108) O gf_X6_4 fl_X6_25 kq_108 dX6_findSure_10 ?_
    refine v_imul (pc := 13) O dX6_findSure_13 ?_
    refine v_icmpgt (pc := 14) 95 O dX6_findSure_14 (by decide) (fun c11 => ?_) (fun c11 => ?_)
    · have h := (if_pos c11).symm.trans h
      refine v_sub [] rfl ?_
      exact w_X6_findSure_b95 O hm hn hz D h
    · have h := (if_neg c11).symm.trans h
      refine v_iload_n (pc := 17) O dX6_findSure_17 1 rfl ?_
      refine v_ifeq (pc := 18) 95 O dX6_findSure_18 (by decide) (fun c12 => ?_) (fun c12 => ?_)
      · have h := (if_pos c12).symm.trans h
        refine v_sub [] rfl ?_
        exact w_X6_findSure_b95 O hm hn hz D h
      · have h := (if_neg c12).symm.trans h
        refine v_iconst (pc := 21) O dX6_findSure_21 ic_0 ?_
        refine v_istore_n (pc := 22) (lv' := [(1, .int 0), (0, .ref (bo X + pp 108)), (2, .int x2)]) O dX6_findSure_22 rfl (by rw [hn]; decide) rfl ?_
        refine v_aload_n (pc := 23) O dX6_findSure_23 1 rfl ?_
        refine v_getI (pc := 24) (a := 108) O gf_X6_4 fl_X6_25 kq_108 dX6_findSure_24 ?_
        refine v_iconst (pc := 27) O dX6_findSure_27 ic_1 ?_
        refine v_isub (pc := 28) O dX6_findSure_28 ?_
        refine v_istore_n (pc := 29) (lv' := [(3, .int ((dI D 108 4) - (1 : Int32))), (1, .int 0), (0, .ref (bo X + pp 108)), (2, .int x2)]) O dX6_findSure_29 rfl (by rw [hn]; decide) rfl ?_
        refine v_sub [2, 1, 3, 0] rfl ?_
        exact w_X6_findSure_b30 O hm hn hz ih N 0 x2 ((dI D 108 4) - (1 : Int32)) D h
def f_X6_findSure (N : Nat) (D : Dat) : Option (Dat) :=
  f_X6_findSure_b4 N N 1 0 D
set_option maxHeartbeats 4000000 in
theorem w_X6_findSure {X : Cx} {n nu c u : Nat} {K : Nat → Nat} {N : Nat} {z : Dat} (O : Ok X cX6_findSure RX6 none 3 68) (hm : wlm (xw X) = true) (hn : xn X = 6) (hz : Z0 X (Ax nu K c u)) (D : Dat) (h : f_X6_findSure N D = some z) : V X (Q0 X n (Ax nu K c u) none z) n (Ax nu K c u) D 0 [(0, .ref (bo X + pp 108))] [] := by
  unfold f_X6_findSure at h
  refine v_iconst (pc := 0) O dX6_findSure_0 ic_1 ?_
  refine v_istore_n (pc := 1) (lv' := [(1, .int 1), (0, .ref (bo X + pp 108))]) O dX6_findSure_1 rfl (by rw [hn]; decide) rfl ?_
  refine v_iconst (pc := 2) O dX6_findSure_2 ic_0 ?_
  refine v_istore_n (pc := 3) (lv' := [(2, .int 0), (1, .int 1), (0, .ref (bo X + pp 108))]) O dX6_findSure_3 rfl (by rw [hn]; decide) rfl ?_
  refine v_sub [2, 1, 0] rfl ?_
  exact w_X6_findSure_b4 O hm hn hz N 1 0 D h
theorem c_X6_findSure {l : Launch} {w : Wx} {n nu c u : Nat} {K : Nat → Nat} {N : Nat} (hm : wlm w = true) {D : Dat} {z : Dat} (h : f_X6_findSure N D = some z) : C0 l w yX6_findSure cX6_findSure 6 none 3 68 [.ref (wb w + pp 108)] n (Ax nu K c u) D none z :=
  C0.of (by decide) (Nat.le_of_ble_eq_true rfl) (fun X e1 e2 e3 hz O => by
  subst e1
  subst e2
  exact w_X6_findSure O hm e3 hz  D h)
def f_X9_heightsFit_b87 (N : Nat) (nu : Nat) (K : Nat → Nat) (D : Dat) : Option (Int32 × Dat) :=
  some (1, D)
set_option maxHeartbeats 4000000 in
theorem w_X9_heightsFit_b87 {X : Cx} {n nu c u : Nat} {K : Nat → Nat} {N : Nat} {z : Int32 × Dat} (O : Ok X cX9_heightsFit RX9 (some .boolean) 4 94) (hm : wlm (xw X) = true) (hn : xn X = 5) (hz : Z0 X (Ax nu K c u)) (D : Dat) (h : f_X9_heightsFit_b87 N nu K D = some z) : V X (Q0 X n (Ax nu K c u) (some (.int z.1)) z.2) n (Ax nu K c u) D 87 [] [] := by
  unfold f_X9_heightsFit_b87 at h
  refine v_iconst (pc := 87) O dX9_heightsFit_87 ic_1 ?_
  obtain rfl := Option.some.inj h
  exact v_zret (pc := 88) O hz narrow_b1 dX9_heightsFit_88
def f_X9_heightsFit_b27 (N : Nat) (nu : Nat) (K : Nat → Nat) : Nat → Int64 → Int32 → Dat → Option (Int32 × Dat)
  | 0, _, _, _ => none
  | g + 1, x1, x3, D => ((dR D 107 2)).bind (fun a1 => if a1 = 201 ∨ a1 = 204 then ((f_X0_size a1 D).bind (fun p4 => if p4.1 ≤ x3 then (f_X9_heightsFit_b87 N nu K p4.2) else (if (lg_cmp (dL p4.2 107 5) x1) = 0 then (f_X9_heightsFit_b87 N nu K p4.2) else ((f_X11_least ((dL p4.2 107 5) &&& (x1 ^^^ (-1 : Int64))) p4.2).bind (fun p8 => (f_X11_bit p8.1 p8.2).bind (fun p10 => (f_X9_heightFits N p8.1 p10.2).bind (fun p12 => if p12.1 = 0 then (some (0, p12.2)) else ((f_X9_heightsFit_b27 N nu K g) (x1 ||| p10.1) (x3 + 1) p12.2)))))))) else none)
set_option maxHeartbeats 4000000 in
theorem w_X9_heightsFit_b27 {X : Cx} {n nu c u : Nat} {K : Nat → Nat} {N : Nat} {z : Int32 × Dat} (O : Ok X cX9_heightsFit RX9 (some .boolean) 4 94) (hm : wlm (xw X) = true) (hn : xn X = 5) (hz : Z0 X (Ax nu K c u)) : ∀ (g : Nat) (x1 : Int64) (x3 : Int32) (D : Dat), f_X9_heightsFit_b27 N nu K g x1 x3 D = some z → V X (Q0 X n (Ax nu K c u) (some (.int z.1)) z.2) n (Ax nu K c u) D 27 [(0, .ref (bo X + pp 107)), (1, .long x1), (3, .int x3)] [] := by
  intro g
  induction g with
  | zero => intro x1 x3 D h; exact absurd h (by simp [f_X9_heightsFit_b27])
  | succ g ih =>
    intro x1 x3 D h
    rw [f_X9_heightsFit_b27] at h
    refine v_iload_n (pc := 27) O dX9_heightsFit_27 2 rfl ?_
    refine v_aload_n (pc := 28) O dX9_heightsFit_28 0 rfl ?_
    refine v_getR (pc := 29) (a := 107) O gf_X9_2 fl_X9_83 kq_107 dX9_heightsFit_29 ?_
    obtain ⟨a1, e2, h⟩ := bind_some h
    rw [e2]
    obtain ⟨c3, h⟩ := if_none h
    obtain ⟨p4, e5, h⟩ := bind_some h
    refine v_callV (pc := 32) (a := a1) (As := []) (rest := [.int x3]) (r := (some (.int p4.1))) (D' := p4.2) O (bb0 hz) (c_X0_size hm c3 e5) mw_X0_size im_X0_size se_X0_size ml_X9_110 (kt_X0 c3) (by decide) rfl rfl rfl (by decide) (by decide) (Nat.le_of_ble_eq_true rfl) dX9_heightsFit_32 rfl rfl ?_
    refine v_icmpge (pc := 35) 87 O dX9_heightsFit_35 (by decide) (fun c6 => ?_) (fun c6 => ?_)
    · have h := (if_pos c6).symm.trans h
      refine v_sub [] rfl ?_
      exact w_X9_heightsFit_b87 O hm hn hz p4.2 h
    · have h := (if_neg c6).symm.trans h
      refine v_aload_n (pc := 38) O dX9_heightsFit_38 0 rfl ?_
      refine v_getL (pc := 39) (a := 107) O gf_X9_5 fl_X9_48 kq_107 dX9_heightsFit_39 ?_
      refine v_lload_n (pc := 42) O dX9_heightsFit_42 1 rfl ?_
      refine v_lcmp (pc := 43) O dX9_heightsFit_43 ?_
      refine v_ifeq (pc := 44) 87 O dX9_heightsFit_44 (by decide) (fun c7 => ?_) (fun c7 => ?_)
      · have h := (if_pos c7).symm.trans h
        refine v_sub [] rfl ?_
        exact w_X9_heightsFit_b87 O hm hn hz p4.2 h
      · have h := (if_neg c7).symm.trans h
        refine v_aload_n (pc := 47) O dX9_heightsFit_47 0 rfl ?_
        refine v_getL (pc := 48) (a := 107) O gf_X9_5 fl_X9_48 kq_107 dX9_heightsFit_48 ?_
        refine v_lload_n (pc := 51) O dX9_heightsFit_51 1 rfl ?_
        refine v_ldc2 (pc := 52) O dX9_heightsFit_52 cl_X9_142 ?_
        refine v_lxor (pc := 55) O dX9_heightsFit_55 ?_
        refine v_land (pc := 56) O dX9_heightsFit_56 ?_
        obtain ⟨p8, e9, h⟩ := bind_some h
        refine v_callN (pc := 57) (As := [.long ((dL p4.2 107 5) &&& (x1 ^^^ (-1 : Int64)))]) (rest := []) (r := (some (.int p8.1))) (D' := p8.2) O (bb0 hz) (c_X11_least hm e9) mw_X11_least sm_X11_least nl_X9_144 rfl (by decide) (by decide) (Nat.le_of_ble_eq_true rfl) dX9_heightsFit_57 rfl rfl ?_
        refine v_istore (pc := 60) (lv' := [(4, .int p8.1), (0, .ref (bo X + pp 107)), (1, .long x1), (3, .int x3)]) O dX9_heightsFit_60 (by rw [hn]; decide) rfl ?_
        refine v_lload_n (pc := 62) O dX9_heightsFit_62 2 rfl ?_
        refine v_iload (pc := 63) O dX9_heightsFit_63 0 rfl ?_
        obtain ⟨p10, e11, h⟩ := bind_some h
        refine v_callN (pc := 65) (As := [.int p8.1]) (rest := [.long x1]) (r := (some (.long p10.1))) (D' := p10.2) O (bb0 hz) (c_X11_bit hm e11) mw_X11_bit sm_X11_bit nl_X9_138 rfl (by decide) (by decide) (Nat.le_of_ble_eq_true rfl) dX9_heightsFit_65 rfl rfl ?_
        refine v_lor (pc := 68) O dX9_heightsFit_68 ?_
        refine v_lstore_n (pc := 69) (lv' := [(1, .long (x1 ||| p10.1)), (4, .int p8.1), (0, .ref (bo X + pp 107)), (3, .int x3)]) O dX9_heightsFit_69 rfl (by rw [hn]; decide) rfl ?_
        refine v_aload_n (pc := 70) O dX9_heightsFit_70 2 rfl ?_
        refine v_iload (pc := 71) O dX9_heightsFit_71 1 rfl ?_
        obtain ⟨p12, e13, h⟩ := bind_some h
        refine v_callV (pc := 73) (a := 107) (As := [.int p8.1]) (rest := []) (r := (some (.int p12.1))) (D' := p12.2) O (bb0 hz) (c_X9_heightFits hm e13) mw_X9_heightFits im_X9_heightFits se_X9_heightFits ml_X9_147 kq_107 (by decide) rfl rfl rfl (by decide) (by decide) (Nat.le_of_ble_eq_true rfl) dX9_heightsFit_73 rfl rfl ?_
        refine v_ifne (pc := 76) 81 O dX9_heightsFit_76 (by decide) (fun c14 => ?_) (fun c14 => ?_)
        · have h := (if_neg c14).symm.trans h
          refine v_iinc (pc := 81) (lv' := [(3, .int (x3 + 1)), (1, .long (x1 ||| p10.1)), (4, .int p8.1), (0, .ref (bo X + pp 107))]) O dX9_heightsFit_81 3 rfl (congrArg (fun q => x3 + q) ic_1) (by rw [hn]; decide) rfl ?_
          refine v_goto (pc := 84) 27 O dX9_heightsFit_84 (by decide) ?_
          refine v_sub [3, 1, 0] rfl ?_
          exact ih (x1 ||| p10.1) (x3 + 1) p12.2 h
        · have h := (if_pos c14).symm.trans h
          refine v_iconst (pc := 79) O dX9_heightsFit_79 ic_0 ?_
          obtain rfl := Option.some.inj h
          exact v_zret (pc := 80) O hz narrow_b0 dX9_heightsFit_80
def f_X9_heightsFit (N : Nat) (nu : Nat) (K : Nat → Nat) (D : Dat) : Option (Int32 × Dat) :=
  (f_J7_fill_53178 N nu K 113 (-1) D).bind (fun p15 => (f_X11_bit 0 (sI p15 113 (0 : Int32).toNatClampNeg 0)).bind (fun p17 => f_X9_heightsFit_b27 N nu K N (0 : Int64) 0 (sL p17.2 107 5 p17.1)))
set_option maxHeartbeats 4000000 in
theorem w_X9_heightsFit {X : Cx} {n nu c u : Nat} {K : Nat → Nat} {N : Nat} {z : Int32 × Dat} (O : Ok X cX9_heightsFit RX9 (some .boolean) 4 94) (hm : wlm (xw X) = true) (hn : xn X = 5) (hz : Z0 X (Ax nu K c u)) (D : Dat) (h : f_X9_heightsFit N nu K D = some z) : V X (Q0 X n (Ax nu K c u) (some (.int z.1)) z.2) n (Ax nu K c u) D 0 [(0, .ref (bo X + pp 107))] [] := by
  unfold f_X9_heightsFit at h
  refine v_aload_n (pc := 0) O dX9_heightsFit_0 0 rfl ?_
  refine v_getK (pc := 1) (a := 107) O hm gf_X9_4 fl_X9_18 kq_107 lk_107_4 dX9_heightsFit_1 ?_
  refine v_iconst (pc := 4) O dX9_heightsFit_4 ic_m1 ?_
  obtain ⟨p15, e16, h⟩ := bind_some h
  refine v_callS (pc := 5) (As := [.ref (bo X + pp 113), .int (-1)]) (rest := []) (r := none) (D' := p15) O (bb0 hz) (c_J7_fill_53178 hm e16) mw_J7_fill_53178 sm_J7_fill_53178 ml_X9_132 rfl (by decide) (by decide) (Nat.le_of_ble_eq_true rfl) dX9_heightsFit_5 rfl rfl ?_
  refine v_aload_n (pc := 8) O dX9_heightsFit_8 0 rfl ?_
  refine v_getK (pc := 9) (a := 107) O hm gf_X9_4 fl_X9_18 kq_107 lk_107_4 dX9_heightsFit_9 ?_
  refine v_iconst (pc := 12) O dX9_heightsFit_12 ic_0 ?_
  refine v_iconst (pc := 13) O dX9_heightsFit_13 ic_0 ?_
  refine v_iast (pc := 14) (a := 113) O kq_113 (inq lq_113 (by decide)) dX9_heightsFit_14 ?_
  refine v_aload_n (pc := 15) O dX9_heightsFit_15 0 rfl ?_
  refine v_iconst (pc := 16) O dX9_heightsFit_16 ic_0 ?_
  obtain ⟨p17, e18, h⟩ := bind_some h
  refine v_callN (pc := 17) (As := [.int 0]) (rest := [.ref (bo X + pp 107)]) (r := (some (.long p17.1))) (D' := p17.2) O (bb0 hz) (c_X11_bit hm e18) mw_X11_bit sm_X11_bit nl_X9_138 rfl (by decide) (by decide) (Nat.le_of_ble_eq_true rfl) dX9_heightsFit_17 rfl rfl ?_
  refine v_putL (pc := 20) (a := 107) O pf_X9_5 fl_X9_48 kq_107 dX9_heightsFit_20 ?_
  refine v_lconst (pc := 23) (v := 0) O dX9_heightsFit_23 rfl ?_
  refine v_lstore_n (pc := 24) (lv' := [(1, .long (0 : Int64)), (0, .ref (bo X + pp 107))]) O dX9_heightsFit_24 rfl (by rw [hn]; decide) rfl ?_
  refine v_iconst (pc := 25) O dX9_heightsFit_25 ic_0 ?_
  refine v_istore_n (pc := 26) (lv' := [(3, .int 0), (1, .long (0 : Int64)), (0, .ref (bo X + pp 107))]) O dX9_heightsFit_26 rfl (by rw [hn]; decide) rfl ?_
  refine v_sub [2, 1, 0] rfl ?_
  exact w_X9_heightsFit_b27 O hm hn hz N (0 : Int64) 0 (sL p17.2 107 5 p17.1) h
theorem c_X9_heightsFit {l : Launch} {w : Wx} {n nu c u : Nat} {K : Nat → Nat} {N : Nat} (hm : wlm w = true) {D : Dat} {z : Int32 × Dat} (h : f_X9_heightsFit N nu K D = some z) : C0 l w yX9_heightsFit cX9_heightsFit 5 (some .boolean) 4 94 [.ref (wb w + pp 107)] n (Ax nu K c u) D (some (.int z.1)) z.2 :=
  C0.of (by decide) (Nat.le_of_ble_eq_true rfl) (fun X e1 e2 e3 hz O => by
  subst e1
  subst e2
  exact w_X9_heightsFit O hm e3 hz  D h)
def f_X9_goOver_b230 (N : Nat) (nu : Nat) (K : Nat → Nat) (D : Dat) : Option (Dat) :=
  some D
set_option maxHeartbeats 4000000 in
theorem w_X9_goOver_b230 {X : Cx} {n nu c u : Nat} {K : Nat → Nat} {N : Nat} {z : Dat} (O : Ok X cX9_goOver RX9 none 4 87) (hm : wlm (xw X) = true) (hn : xn X = 9) (hz : Z0 X (Ax nu K c u)) (D : Dat) (h : f_X9_goOver_b230 N nu K D = some z) : V X (Q0 X n (Ax nu K c u) none z) n (Ax nu K c u) D 230 [] [] := by
  unfold f_X9_goOver_b230 at h
  obtain rfl := Option.some.inj h
  exact v_ret (pc := 230) O hz dX9_goOver_230
def f_X9_goOver_b191 (N : Nat) (nu : Nat) (K : Nat → Nat) : Nat → Int32 → Int64 → Int32 → Dat → Option (Dat)
  | 0, _, _, _, _ => none
  | g + 1, x5, x6, x8, D => if 2 ≤ x8 then (f_X9_goOver_b230 N nu K D) else (if (lg_cmp x6 (0 : Int64)) = 0 then (f_X9_goOver_b230 N nu K D) else ((f_X11_least x6 D).bind (fun p3 => (f_X9_raiseHeld N nu K p3.1 x5 p3.2).bind (fun p5 => (f_X9_goOver_b191 N nu K g) x5 (x6 &&& (x6 - (1 : Int64))) (x8 + 1) p5))))
set_option maxHeartbeats 4000000 in
theorem w_X9_goOver_b191 {X : Cx} {n nu c u : Nat} {K : Nat → Nat} {N : Nat} {z : Dat} (O : Ok X cX9_goOver RX9 none 4 87) (hm : wlm (xw X) = true) (hn : xn X = 9) (hz : Z0 X (Ax nu K c u)) : ∀ (g : Nat) (x5 : Int32) (x6 : Int64) (x8 : Int32) (D : Dat), f_X9_goOver_b191 N nu K g x5 x6 x8 D = some z → V X (Q0 X n (Ax nu K c u) none z) n (Ax nu K c u) D 191 [(0, .ref (bo X + pp 107)), (5, .int x5), (6, .long x6), (8, .int x8)] [] := by
  intro g
  induction g with
  | zero => intro x5 x6 x8 D h; exact absurd h (by simp [f_X9_goOver_b191])
  | succ g ih =>
    intro x5 x6 x8 D h
    rw [f_X9_goOver_b191] at h
    refine v_iload (pc := 191) O dX9_goOver_191 3 rfl ?_
    refine v_iconst (pc := 193) O dX9_goOver_193 ic_2 ?_
    refine v_icmpge (pc := 194) 230 O dX9_goOver_194 (by decide) (fun c1 => ?_) (fun c1 => ?_)
    · have h := (if_pos c1).symm.trans h
      refine v_sub [] rfl ?_
      exact w_X9_goOver_b230 O hm hn hz D h
    · have h := (if_neg c1).symm.trans h
      refine v_lload (pc := 197) O dX9_goOver_197 2 rfl ?_
      refine v_lconst (pc := 199) (v := 0) O dX9_goOver_199 rfl ?_
      refine v_lcmp (pc := 200) O dX9_goOver_200 ?_
      refine v_ifeq (pc := 201) 230 O dX9_goOver_201 (by decide) (fun c2 => ?_) (fun c2 => ?_)
      · have h := (if_pos c2).symm.trans h
        refine v_sub [] rfl ?_
        exact w_X9_goOver_b230 O hm hn hz D h
      · have h := (if_neg c2).symm.trans h
        refine v_aload_n (pc := 204) O dX9_goOver_204 0 rfl ?_
        refine v_lload (pc := 205) O dX9_goOver_205 2 rfl ?_
        obtain ⟨p3, e4, h⟩ := bind_some h
        refine v_callN (pc := 207) (As := [.long x6]) (rest := [.ref (bo X + pp 107)]) (r := (some (.int p3.1))) (D' := p3.2) O (bb0 hz) (c_X11_least hm e4) mw_X11_least sm_X11_least nl_X9_144 rfl (by decide) (by decide) (Nat.le_of_ble_eq_true rfl) dX9_goOver_207 rfl rfl ?_
        refine v_iload (pc := 210) O dX9_goOver_210 1 rfl ?_
        obtain ⟨p5, e6, h⟩ := bind_some h
        refine v_callV (pc := 212) (a := 107) (As := [.int p3.1, .int x5]) (rest := []) (r := none) (D' := p5) O (bb0 hz) (c_X9_raiseHeld hm e6) mw_X9_raiseHeld im_X9_raiseHeld se_X9_raiseHeld ml_X9_188 kq_107 (by decide) rfl rfl rfl (by decide) (by decide) (Nat.le_of_ble_eq_true rfl) dX9_goOver_212 rfl rfl ?_
        refine v_lload (pc := 215) O dX9_goOver_215 2 rfl ?_
        refine v_lload (pc := 217) O dX9_goOver_217 2 rfl ?_
        refine v_lconst (pc := 219) (v := 1) O dX9_goOver_219 rfl ?_
        refine v_lsub (pc := 220) O dX9_goOver_220 ?_
        refine v_land (pc := 221) O dX9_goOver_221 ?_
        refine v_lstore (pc := 222) (lv' := [(6, .long (x6 &&& (x6 - (1 : Int64)))), (0, .ref (bo X + pp 107)), (5, .int x5), (8, .int x8)]) O dX9_goOver_222 (by rw [hn]; decide) rfl ?_
        refine v_iinc (pc := 224) (lv' := [(8, .int (x8 + 1)), (6, .long (x6 &&& (x6 - (1 : Int64)))), (0, .ref (bo X + pp 107)), (5, .int x5)]) O dX9_goOver_224 3 rfl (congrArg (fun q => x8 + q) ic_1) (by rw [hn]; decide) rfl ?_
        refine v_goto (pc := 227) 191 O dX9_goOver_227 (by decide) ?_
        refine v_sub [2, 3, 1, 0] rfl ?_
        exact ih x5 (x6 &&& (x6 - (1 : Int64))) (x8 + 1) p5 h
def f_X9_goOver_b163 (N : Nat) (nu : Nat) (K : Nat → Nat) (x1 : Int32) (x3 : Int32) (D : Dat) : Option (Dat) :=
  ((dR D 107 2)).bind (fun a7 => if a7 = 201 ∨ a7 = 204 then ((f_X0_put a7 x1 D).bind (fun p10 => ((dR p10.2 107 2)).bind (fun a12 => if a12 = 201 ∨ a12 = 204 then ((f_X0_nexts a12 x1 p10.2).bind (fun p15 => f_X9_goOver_b191 N nu K N (((26 : Int32) + x3) + p10.1) p15.1 0 p15.2)) else none))) else none)
set_option maxHeartbeats 4000000 in
theorem w_X9_goOver_b163 {X : Cx} {n nu c u : Nat} {K : Nat → Nat} {N : Nat} {z : Dat} (O : Ok X cX9_goOver RX9 none 4 87) (hm : wlm (xw X) = true) (hn : xn X = 9) (hz : Z0 X (Ax nu K c u)) (x1 : Int32) (x3 : Int32) (D : Dat) (h : f_X9_goOver_b163 N nu K x1 x3 D = some z) : V X (Q0 X n (Ax nu K c u) none z) n (Ax nu K c u) D 163 [(0, .ref (bo X + pp 107)), (1, .int x1), (3, .int x3)] [] := by
  unfold f_X9_goOver_b163 at h
  refine v_bipush (pc := 163) O dX9_goOver_163 bp_26 ?_
  refine v_iload_n (pc := 165) O dX9_goOver_165 2 rfl ?_
  refine v_iadd (pc := 166) O dX9_goOver_166 ?_
  refine v_aload_n (pc := 167) O dX9_goOver_167 0 rfl ?_
  refine v_getR (pc := 168) (a := 107) O gf_X9_2 fl_X9_83 kq_107 dX9_goOver_168 ?_
  refine v_iload_n (pc := 171) O dX9_goOver_171 1 rfl ?_
  obtain ⟨a7, e8, h⟩ := bind_some h
  rw [e8]
  obtain ⟨c9, h⟩ := if_none h
  obtain ⟨p10, e11, h⟩ := bind_some h
  refine v_callV (pc := 172) (a := a7) (As := [.int x1]) (rest := [.int ((26 : Int32) + x3)]) (r := (some (.int p10.1))) (D' := p10.2) O (bb0 hz) (c_X0_put hm c9 e11) mw_X0_put im_X0_put se_X0_put ml_X9_153 (kt_X0 c9) (by decide) rfl rfl rfl (by decide) (by decide) (Nat.le_of_ble_eq_true rfl) dX9_goOver_172 rfl rfl ?_
  refine v_iadd (pc := 175) O dX9_goOver_175 ?_
  refine v_istore (pc := 176) (lv' := [(5, .int (((26 : Int32) + x3) + p10.1)), (0, .ref (bo X + pp 107)), (1, .int x1), (3, .int x3)]) O dX9_goOver_176 (by rw [hn]; decide) rfl ?_
  refine v_aload_n (pc := 178) O dX9_goOver_178 1 rfl ?_
  refine v_getR (pc := 179) (a := 107) O gf_X9_2 fl_X9_83 kq_107 dX9_goOver_179 ?_
  refine v_iload_n (pc := 182) O dX9_goOver_182 2 rfl ?_
  obtain ⟨a12, e13, h⟩ := bind_some h
  rw [e13]
  obtain ⟨c14, h⟩ := if_none h
  obtain ⟨p15, e16, h⟩ := bind_some h
  refine v_callV (pc := 183) (a := a12) (As := [.int x1]) (rest := []) (r := (some (.long p15.1))) (D' := p15.2) O (bb0 hz) (c_X0_nexts hm c14 e16) mw_X0_nexts im_X0_nexts se_X0_nexts ml_X9_159 (kt_X0 c14) (by decide) rfl rfl rfl (by decide) (by decide) (Nat.le_of_ble_eq_true rfl) dX9_goOver_183 rfl rfl ?_
  refine v_lstore (pc := 186) (lv' := [(6, .long p15.1), (5, .int (((26 : Int32) + x3) + p10.1)), (0, .ref (bo X + pp 107)), (1, .int x1), (3, .int x3)]) O dX9_goOver_186 (by rw [hn]; decide) rfl ?_
  refine v_iconst (pc := 188) O dX9_goOver_188 ic_0 ?_
  refine v_istore (pc := 189) (lv' := [(8, .int 0), (6, .long p15.1), (5, .int (((26 : Int32) + x3) + p10.1)), (0, .ref (bo X + pp 107)), (1, .int x1), (3, .int x3)]) O dX9_goOver_189 (by rw [hn]; decide) rfl ?_
  refine v_sub [3, 2, 1, 0] rfl ?_
  exact w_X9_goOver_b191 O hm hn hz N (((26 : Int32) + x3) + p10.1) p15.1 0 p15.2 h
def f_X9_goOver_b143 (N : Nat) (nu : Nat) (K : Nat → Nat) (x1 : Int32) (x3 : Int32) (x4 : Int32) (D : Dat) : Option (Dat) :=
  ((dR D 107 2)).bind (fun a17 => if a17 = 201 ∨ a17 = 204 then ((f_X0_operation a17 x1 D).bind (fun p20 => if p20.1 = 11 then ((f_X9_raiseLevels N x1 x4 p20.2).bind (fun p23 => f_X9_goOver_b163 N nu K x1 x3 p23)) else (f_X9_goOver_b163 N nu K x1 x3 p20.2))) else none)
set_option maxHeartbeats 4000000 in
theorem w_X9_goOver_b143 {X : Cx} {n nu c u : Nat} {K : Nat → Nat} {N : Nat} {z : Dat} (O : Ok X cX9_goOver RX9 none 4 87) (hm : wlm (xw X) = true) (hn : xn X = 9) (hz : Z0 X (Ax nu K c u)) (x1 : Int32) (x3 : Int32) (x4 : Int32) (D : Dat) (h : f_X9_goOver_b143 N nu K x1 x3 x4 D = some z) : V X (Q0 X n (Ax nu K c u) none z) n (Ax nu K c u) D 143 [(0, .ref (bo X + pp 107)), (1, .int x1), (3, .int x3), (4, .int x4)] [] := by
  unfold f_X9_goOver_b143 at h
  refine v_aload_n (pc := 143) O dX9_goOver_143 0 rfl ?_
  refine v_getR (pc := 144) (a := 107) O gf_X9_2 fl_X9_83 kq_107 dX9_goOver_144 ?_
  refine v_iload_n (pc := 147) O dX9_goOver_147 1 rfl ?_
  obtain ⟨a17, e18, h⟩ := bind_some h
  rw [e18]
  obtain ⟨c19, h⟩ := if_none h
  obtain ⟨p20, e21, h⟩ := bind_some h
  refine v_callV (pc := 148) (a := a17) (As := [.int x1]) (rest := []) (r := (some (.int p20.1))) (D' := p20.2) O (bb0 hz) (c_X0_operation hm c19 e21) mw_X0_operation im_X0_operation se_X0_operation ml_X9_116 (kt_X0 c19) (by decide) rfl rfl rfl (by decide) (by decide) (Nat.le_of_ble_eq_true rfl) dX9_goOver_148 rfl rfl ?_
  refine v_bipush (pc := 151) O dX9_goOver_151 bp_11 ?_
  refine v_icmpne (pc := 153) 163 O dX9_goOver_153 (by decide) (fun c22 => ?_) (fun c22 => ?_)
  · have h := (if_neg c22).symm.trans h
    refine v_sub [0, 1, 2] rfl ?_
    exact w_X9_goOver_b163 O hm hn hz x1 x3 p20.2 h
  · have h := (if_pos c22).symm.trans h
    refine v_aload_n (pc := 156) O dX9_goOver_156 0 rfl ?_
    refine v_iload_n (pc := 157) O dX9_goOver_157 1 rfl ?_
    refine v_iload (pc := 158) O dX9_goOver_158 3 rfl ?_
    obtain ⟨p23, e24, h⟩ := bind_some h
    refine v_callV (pc := 160) (a := 107) (As := [.int x1, .int x4]) (rest := []) (r := none) (D' := p23) O (bb0 hz) (c_X9_raiseLevels hm e24) mw_X9_raiseLevels im_X9_raiseLevels se_X9_raiseLevels ml_X9_184 kq_107 (by decide) rfl rfl rfl (by decide) (by decide) (Nat.le_of_ble_eq_true rfl) dX9_goOver_160 rfl rfl ?_
    refine v_sub [0, 1, 2] rfl ?_
    exact w_X9_goOver_b163 O hm hn hz x1 x3 p23 h
def f_X9_goOver_b103 (N : Nat) (nu : Nat) (K : Nat → Nat) (x1 : Int32) (x2 : Int32) (x3 : Int32) (x4 : Int32) (D : Dat) : Option (Dat) :=
  ((dR D 107 2)).bind (fun a25 => if a25 = 201 ∨ a25 = 204 then ((f_X0_operation a25 x1 D).bind (fun p28 => if p28.1 = 2 then (if x2 < 0 then (f_X9_goOver_b143 N nu K x1 x3 x4 p28.2) else (if 26 ≤ x2 then (f_X9_goOver_b143 N nu K x1 x3 x4 p28.2) else (((dR p28.2 107 3)).bind (fun a33 => if kd K a33 = 14 then (if x2 < 0 ∨ (nl nu a33) ≤ (x2).toNatClampNeg then none else (if (dI p28.2 a33 (x2).toNatClampNeg) = (-1) then (if x2 < 0 ∨ 56 ≤ (x2).toNatClampNeg then none else (f_X9_goOver_b143 N nu K x1 x3 x4 (sI p28.2 180 (x2).toNatClampNeg x4))) else (f_X9_goOver_b143 N nu K x1 x3 x4 p28.2))) else none)))) else (f_X9_goOver_b143 N nu K x1 x3 x4 p28.2))) else none)
set_option maxHeartbeats 4000000 in
theorem w_X9_goOver_b103 {X : Cx} {n nu c u : Nat} {K : Nat → Nat} {N : Nat} {z : Dat} (O : Ok X cX9_goOver RX9 none 4 87) (hm : wlm (xw X) = true) (hn : xn X = 9) (hz : Z0 X (Ax nu K c u)) (x1 : Int32) (x2 : Int32) (x3 : Int32) (x4 : Int32) (D : Dat) (h : f_X9_goOver_b103 N nu K x1 x2 x3 x4 D = some z) : V X (Q0 X n (Ax nu K c u) none z) n (Ax nu K c u) D 103 [(0, .ref (bo X + pp 107)), (1, .int x1), (2, .int x2), (3, .int x3), (4, .int x4)] [] := by
  unfold f_X9_goOver_b103 at h
  refine v_aload_n (pc := 103) O dX9_goOver_103 0 rfl ?_
  refine v_getR (pc := 104) (a := 107) O gf_X9_2 fl_X9_83 kq_107 dX9_goOver_104 ?_
  refine v_iload_n (pc := 107) O dX9_goOver_107 1 rfl ?_
  obtain ⟨a25, e26, h⟩ := bind_some h
  rw [e26]
  obtain ⟨c27, h⟩ := if_none h
  obtain ⟨p28, e29, h⟩ := bind_some h
  refine v_callV (pc := 108) (a := a25) (As := [.int x1]) (rest := []) (r := (some (.int p28.1))) (D' := p28.2) O (bb0 hz) (c_X0_operation hm c27 e29) mw_X0_operation im_X0_operation se_X0_operation ml_X9_116 (kt_X0 c27) (by decide) rfl rfl rfl (by decide) (by decide) (Nat.le_of_ble_eq_true rfl) dX9_goOver_108 rfl rfl ?_
  refine v_iconst (pc := 111) O dX9_goOver_111 ic_2 ?_
  refine v_icmpne (pc := 112) 143 O dX9_goOver_112 (by decide) (fun c30 => ?_) (fun c30 => ?_)
  · have h := (if_neg c30).symm.trans h
    refine v_sub [0, 1, 3, 4] rfl ?_
    exact w_X9_goOver_b143 O hm hn hz x1 x3 x4 p28.2 h
  · have h := (if_pos c30).symm.trans h
    refine v_iload_n (pc := 115) O dX9_goOver_115 2 rfl ?_
    refine v_iflt (pc := 116) 143 O dX9_goOver_116 (by decide) (fun c31 => ?_) (fun c31 => ?_)
    · have h := (if_pos c31).symm.trans h
      refine v_sub [0, 1, 3, 4] rfl ?_
      exact w_X9_goOver_b143 O hm hn hz x1 x3 x4 p28.2 h
    · have h := (if_neg c31).symm.trans h
      refine v_iload_n (pc := 119) O dX9_goOver_119 2 rfl ?_
      refine v_bipush (pc := 120) O dX9_goOver_120 bp_26 ?_
      refine v_icmpge (pc := 122) 143 O dX9_goOver_122 (by decide) (fun c32 => ?_) (fun c32 => ?_)
      · have h := (if_pos c32).symm.trans h
        refine v_sub [0, 1, 3, 4] rfl ?_
        exact w_X9_goOver_b143 O hm hn hz x1 x3 x4 p28.2 h
      · have h := (if_neg c32).symm.trans h
        refine v_aload_n (pc := 125) O dX9_goOver_125 0 rfl ?_
        refine v_getR (pc := 126) (a := 107) O gf_X9_3 fl_X9_87 kq_107 dX9_goOver_126 ?_
        refine v_iload_n (pc := 129) O dX9_goOver_129 2 rfl ?_
        obtain ⟨a33, e34, h⟩ := bind_some h
        rw [e34]
        obtain ⟨c35, h⟩ := if_none h
        obtain ⟨c36, h⟩ := or_none h
        refine v_iald (pc := 130) (a := a33) O c35 (inq rfl c36) dX9_goOver_130 ?_
        refine v_iconst (pc := 131) O dX9_goOver_131 ic_m1 ?_
        refine v_icmpne (pc := 132) 143 O dX9_goOver_132 (by decide) (fun c37 => ?_) (fun c37 => ?_)
        · have h := (if_neg c37).symm.trans h
          refine v_sub [0, 1, 3, 4] rfl ?_
          exact w_X9_goOver_b143 O hm hn hz x1 x3 x4 p28.2 h
        · have h := (if_pos c37).symm.trans h
          refine v_aload_n (pc := 135) O dX9_goOver_135 0 rfl ?_
          refine v_getK (pc := 136) (a := 107) O hm gf_X9_8 fl_X9_30 kq_107 lk_107_8 dX9_goOver_136 ?_
          refine v_iload_n (pc := 139) O dX9_goOver_139 2 rfl ?_
          refine v_iload (pc := 140) O dX9_goOver_140 4 rfl ?_
          obtain ⟨c38, h⟩ := or_none h
          refine v_iast (pc := 142) (a := 180) O kq_180 (inq lq_180 c38) dX9_goOver_142 ?_
          refine v_sub [0, 1, 3, 4] rfl ?_
          exact w_X9_goOver_b143 O hm hn hz x1 x3 x4 (sI p28.2 180 (x2).toNatClampNeg x4) h
def f_X9_goOver (N : Nat) (nu : Nat) (K : Nat → Nat) (x1 : Int32) (D : Dat) : Option (Dat) :=
  if x1 < 0 ∨ 64 ≤ (x1).toNatClampNeg then none else (((dR (sC D (115 + 1 + (x1).toNatClampNeg) 180 (0 : Int32).toNatClampNeg (0 : Int32).toNatClampNeg (56 : Int32).toNatClampNeg) 107 2)).bind (fun a40 => if a40 = 201 ∨ a40 = 204 then ((f_X0_argument a40 x1 (sC D (115 + 1 + (x1).toNatClampNeg) 180 (0 : Int32).toNatClampNeg (0 : Int32).toNatClampNeg (56 : Int32).toNatClampNeg)).bind (fun p43 => if x1 < 0 ∨ 64 ≤ (x1).toNatClampNeg then none else (((dR p43.2 107 2)).bind (fun a46 => if a46 = 201 ∨ a46 = 204 then ((f_X0_taken a46 x1 p43.2).bind (fun p49 => if x1 < 0 ∨ 64 ≤ (x1).toNatClampNeg then none else ((f_X9_shadeTaken N x1 p49.2).bind (fun p52 => ((dR p52.2 107 2)).bind (fun a54 => if a54 = 201 ∨ a54 = 204 then ((f_X0_put a54 x1 p52.2).bind (fun p57 => if p57.1 = 1 then (if ((dI p43.2 113 (x1).toNatClampNeg) - p49.1) < 0 then (f_X9_goOver_b103 N nu K x1 p43.1 ((dI p43.2 113 (x1).toNatClampNeg) - p49.1) ((dI p49.2 114 (x1).toNatClampNeg) ||| p52.1) p57.2) else (if 30 ≤ ((dI p43.2 113 (x1).toNatClampNeg) - p49.1) then (f_X9_goOver_b103 N nu K x1 p43.1 ((dI p43.2 113 (x1).toNatClampNeg) - p49.1) ((dI p49.2 114 (x1).toNatClampNeg) ||| p52.1) p57.2) else (((dR p57.2 107 2)).bind (fun a62 => if a62 = 201 ∨ a62 = 204 then ((f_X0_operation a62 x1 p57.2).bind (fun p65 => (f_X9_shadeOfSource nu K p65.1 x1 p65.2).bind (fun p67 => if ((26 : Int32) + ((dI p43.2 113 (x1).toNatClampNeg) - p49.1)) < 0 ∨ 56 ≤ (((26 : Int32) + ((dI p43.2 113 (x1).toNatClampNeg) - p49.1))).toNatClampNeg then none else (f_X9_goOver_b103 N nu K x1 p43.1 ((dI p43.2 113 (x1).toNatClampNeg) - p49.1) ((dI p49.2 114 (x1).toNatClampNeg) ||| p52.1) (sI p67.2 180 ((26 : Int32) + ((dI p43.2 113 (x1).toNatClampNeg) - p49.1)).toNatClampNeg (((dI p49.2 114 (x1).toNatClampNeg) ||| p52.1) ||| p67.1)))))) else none)))) else (f_X9_goOver_b103 N nu K x1 p43.1 ((dI p43.2 113 (x1).toNatClampNeg) - p49.1) ((dI p49.2 114 (x1).toNatClampNeg) ||| p52.1) p57.2))) else none))))) else none)))) else none))
set_option maxHeartbeats 4000000 in
theorem w_X9_goOver {X : Cx} {n nu c u : Nat} {K : Nat → Nat} {N : Nat} {z : Dat} (O : Ok X cX9_goOver RX9 none 4 87) (hm : wlm (xw X) = true) (hn : xn X = 9) (hz : Z0 X (Ax nu K c u)) (x1 : Int32) (D : Dat) (h : f_X9_goOver N nu K x1 D = some z) : V X (Q0 X n (Ax nu K c u) none z) n (Ax nu K c u) D 0 [(0, .ref (bo X + pp 107)), (1, .int x1)] [] := by
  unfold f_X9_goOver at h
  refine v_aload_n (pc := 0) O dX9_goOver_0 0 rfl ?_
  refine v_getK (pc := 1) (a := 107) O hm gf_X9_7 fl_X9_27 kq_107 lk_107_7 dX9_goOver_1 ?_
  refine v_iload_n (pc := 4) O dX9_goOver_4 1 rfl ?_
  obtain ⟨c39, h⟩ := or_none h
  refine v_aald2 (pc := 5) (a := 115) O kq_115 (inq lq_115 c39) dX9_goOver_5 ?_
  refine v_iconst (pc := 6) O dX9_goOver_6 ic_0 ?_
  refine v_aload_n (pc := 7) O dX9_goOver_7 0 rfl ?_
  refine v_getK (pc := 8) (a := 107) O hm gf_X9_8 fl_X9_30 kq_107 lk_107_8 dX9_goOver_8 ?_
  refine v_iconst (pc := 11) O dX9_goOver_11 ic_0 ?_
  refine v_bipush (pc := 12) O dX9_goOver_12 bp_56 ?_
  refine v_copy (pc := 14) (a0 := (115 + 1 + (x1).toNatClampNeg)) (a := 180) O ml_X9_172 nat_acopy sm_acopy ini_System (kr_115 c39) kq_180 (by decide) (by decide) (by decide) (by rw [show (Ax nu K c u).2.1 (115 + 1 + (x1).toNatClampNeg) = 56 from (lr_115 c39)]; decide) (by rw [show (Ax nu K c u).2.1 180 = 56 from lq_180]; decide) (by decide) (Nat.le_of_ble_eq_true rfl) dX9_goOver_14 ?_
  refine v_aload_n (pc := 17) O dX9_goOver_17 0 rfl ?_
  refine v_getR (pc := 18) (a := 107) O gf_X9_2 fl_X9_83 kq_107 dX9_goOver_18 ?_
  refine v_iload_n (pc := 21) O dX9_goOver_21 1 rfl ?_
  obtain ⟨a40, e41, h⟩ := bind_some h
  rw [e41]
  obtain ⟨c42, h⟩ := if_none h
  obtain ⟨p43, e44, h⟩ := bind_some h
  refine v_callV (pc := 22) (a := a40) (As := [.int x1]) (rest := []) (r := (some (.int p43.1))) (D' := p43.2) O (bb0 hz) (c_X0_argument hm c42 e44) mw_X0_argument im_X0_argument se_X0_argument ml_X9_119 (kt_X0 c42) (by decide) rfl rfl rfl (by decide) (by decide) (Nat.le_of_ble_eq_true rfl) dX9_goOver_22 rfl rfl ?_
  refine v_istore_n (pc := 25) (lv' := [(2, .int p43.1), (0, .ref (bo X + pp 107)), (1, .int x1)]) O dX9_goOver_25 rfl (by rw [hn]; decide) rfl ?_
  refine v_aload_n (pc := 26) O dX9_goOver_26 1 rfl ?_
  refine v_getK (pc := 27) (a := 107) O hm gf_X9_4 fl_X9_18 kq_107 lk_107_4 dX9_goOver_27 ?_
  refine v_iload_n (pc := 30) O dX9_goOver_30 2 rfl ?_
  obtain ⟨c45, h⟩ := or_none h
  refine v_iald (pc := 31) (a := 113) O kq_113 (inq lq_113 c45) dX9_goOver_31 ?_
  refine v_aload_n (pc := 32) O dX9_goOver_32 1 rfl ?_
  refine v_getR (pc := 33) (a := 107) O gf_X9_2 fl_X9_83 kq_107 dX9_goOver_33 ?_
  refine v_iload_n (pc := 36) O dX9_goOver_36 2 rfl ?_
  obtain ⟨a46, e47, h⟩ := bind_some h
  rw [e47]
  obtain ⟨c48, h⟩ := if_none h
  obtain ⟨p49, e50, h⟩ := bind_some h
  refine v_callV (pc := 37) (a := a46) (As := [.int x1]) (rest := [.int (dI p43.2 113 (x1).toNatClampNeg)]) (r := (some (.int p49.1))) (D' := p49.2) O (bb0 hz) (c_X0_taken hm c48 e50) mw_X0_taken im_X0_taken se_X0_taken ml_X9_150 (kt_X0 c48) (by decide) rfl rfl rfl (by decide) (by decide) (Nat.le_of_ble_eq_true rfl) dX9_goOver_37 rfl rfl ?_
  refine v_isub (pc := 40) O dX9_goOver_40 ?_
  refine v_istore_n (pc := 41) (lv' := [(3, .int ((dI p43.2 113 (x1).toNatClampNeg) - p49.1)), (2, .int p43.1), (0, .ref (bo X + pp 107)), (1, .int x1)]) O dX9_goOver_41 rfl (by rw [hn]; decide) rfl ?_
  refine v_aload_n (pc := 42) O dX9_goOver_42 2 rfl ?_
  refine v_getK (pc := 43) (a := 107) O hm gf_X9_6 fl_X9_22 kq_107 lk_107_6 dX9_goOver_43 ?_
  refine v_iload_n (pc := 46) O dX9_goOver_46 3 rfl ?_
  obtain ⟨c51, h⟩ := or_none h
  refine v_iald (pc := 47) (a := 114) O kq_114 (inq lq_114 c51) dX9_goOver_47 ?_
  refine v_aload_n (pc := 48) O dX9_goOver_48 2 rfl ?_
  refine v_iload_n (pc := 49) O dX9_goOver_49 3 rfl ?_
  obtain ⟨p52, e53, h⟩ := bind_some h
  refine v_callV (pc := 50) (a := 107) (As := [.int x1]) (rest := [.int (dI p49.2 114 (x1).toNatClampNeg)]) (r := (some (.int p52.1))) (D' := p52.2) O (bb0 hz) (c_X9_shadeTaken hm e53) mw_X9_shadeTaken im_X9_shadeTaken se_X9_shadeTaken ml_X9_178 kq_107 (by decide) rfl rfl rfl (by decide) (by decide) (Nat.le_of_ble_eq_true rfl) dX9_goOver_50 rfl rfl ?_
  refine v_ior (pc := 53) O dX9_goOver_53 ?_
  refine v_istore (pc := 54) (lv' := [(4, .int ((dI p49.2 114 (x1).toNatClampNeg) ||| p52.1)), (3, .int ((dI p43.2 113 (x1).toNatClampNeg) - p49.1)), (2, .int p43.1), (0, .ref (bo X + pp 107)), (1, .int x1)]) O dX9_goOver_54 (by rw [hn]; decide) rfl ?_
  refine v_aload_n (pc := 56) O dX9_goOver_56 3 rfl ?_
  refine v_getR (pc := 57) (a := 107) O gf_X9_2 fl_X9_83 kq_107 dX9_goOver_57 ?_
  refine v_iload_n (pc := 60) O dX9_goOver_60 4 rfl ?_
  obtain ⟨a54, e55, h⟩ := bind_some h
  rw [e55]
  obtain ⟨c56, h⟩ := if_none h
  obtain ⟨p57, e58, h⟩ := bind_some h
  refine v_callV (pc := 61) (a := a54) (As := [.int x1]) (rest := []) (r := (some (.int p57.1))) (D' := p57.2) O (bb0 hz) (c_X0_put hm c56 e58) mw_X0_put im_X0_put se_X0_put ml_X9_153 (kt_X0 c56) (by decide) rfl rfl rfl (by decide) (by decide) (Nat.le_of_ble_eq_true rfl) dX9_goOver_61 rfl rfl ?_
  refine v_iconst (pc := 64) O dX9_goOver_64 ic_1 ?_
  refine v_icmpne (pc := 65) 103 O dX9_goOver_65 (by decide) (fun c59 => ?_) (fun c59 => ?_)
  · have h := (if_neg c59).symm.trans h
    refine v_sub [3, 4, 2, 1, 0] rfl ?_
    exact w_X9_goOver_b103 O hm hn hz x1 p43.1 ((dI p43.2 113 (x1).toNatClampNeg) - p49.1) ((dI p49.2 114 (x1).toNatClampNeg) ||| p52.1) p57.2 h
  · have h := (if_pos c59).symm.trans h
    refine v_iload_n (pc := 68) O dX9_goOver_68 1 rfl ?_
    refine v_iflt (pc := 69) 103 O dX9_goOver_69 (by decide) (fun c60 => ?_) (fun c60 => ?_)
    · have h := (if_pos c60).symm.trans h
      refine v_sub [3, 4, 2, 1, 0] rfl ?_
      exact w_X9_goOver_b103 O hm hn hz x1 p43.1 ((dI p43.2 113 (x1).toNatClampNeg) - p49.1) ((dI p49.2 114 (x1).toNatClampNeg) ||| p52.1) p57.2 h
    · have h := (if_neg c60).symm.trans h
      refine v_iload_n (pc := 72) O dX9_goOver_72 1 rfl ?_
      refine v_bipush (pc := 73) O dX9_goOver_73 bp_30 ?_
      refine v_icmpge (pc := 75) 103 O dX9_goOver_75 (by decide) (fun c61 => ?_) (fun c61 => ?_)
      · have h := (if_pos c61).symm.trans h
        refine v_sub [3, 4, 2, 1, 0] rfl ?_
        exact w_X9_goOver_b103 O hm hn hz x1 p43.1 ((dI p43.2 113 (x1).toNatClampNeg) - p49.1) ((dI p49.2 114 (x1).toNatClampNeg) ||| p52.1) p57.2 h
      · have h := (if_neg c61).symm.trans h
        refine v_aload_n (pc := 78) O dX9_goOver_78 3 rfl ?_
        refine v_getK (pc := 79) (a := 107) O hm gf_X9_8 fl_X9_30 kq_107 lk_107_8 dX9_goOver_79 ?_
        refine v_bipush (pc := 82) O dX9_goOver_82 bp_26 ?_
        refine v_iload_n (pc := 84) O dX9_goOver_84 1 rfl ?_
        refine v_iadd (pc := 85) O dX9_goOver_85 ?_
        refine v_iload (pc := 86) O dX9_goOver_86 0 rfl ?_
        refine v_aload_n (pc := 88) O dX9_goOver_88 3 rfl ?_
        refine v_aload_n (pc := 89) O dX9_goOver_89 3 rfl ?_
        refine v_getR (pc := 90) (a := 107) O gf_X9_2 fl_X9_83 kq_107 dX9_goOver_90 ?_
        refine v_iload_n (pc := 93) O dX9_goOver_93 4 rfl ?_
        obtain ⟨a62, e63, h⟩ := bind_some h
        rw [e63]
        obtain ⟨c64, h⟩ := if_none h
        obtain ⟨p65, e66, h⟩ := bind_some h
        refine v_callV (pc := 94) (a := a62) (As := [.int x1]) (rest := [.ref (bo X + pp 107), .int ((dI p49.2 114 (x1).toNatClampNeg) ||| p52.1), .int ((26 : Int32) + ((dI p43.2 113 (x1).toNatClampNeg) - p49.1)), .ref (bo X + pp 180)]) (r := (some (.int p65.1))) (D' := p65.2) O (bb0 hz) (c_X0_operation hm c64 e66) mw_X0_operation im_X0_operation se_X0_operation ml_X9_116 (kt_X0 c64) (by decide) rfl rfl rfl (by decide) (by decide) (Nat.le_of_ble_eq_true rfl) dX9_goOver_94 rfl rfl ?_
        refine v_iload_n (pc := 97) O dX9_goOver_97 4 rfl ?_
        obtain ⟨p67, e68, h⟩ := bind_some h
        refine v_callV (pc := 98) (a := 107) (As := [.int p65.1, .int x1]) (rest := [.int ((dI p49.2 114 (x1).toNatClampNeg) ||| p52.1), .int ((26 : Int32) + ((dI p43.2 113 (x1).toNatClampNeg) - p49.1)), .ref (bo X + pp 180)]) (r := (some (.int p67.1))) (D' := p67.2) O (bb0 hz) (c_X9_shadeOfSource hm e68) mw_X9_shadeOfSource im_X9_shadeOfSource se_X9_shadeOfSource ml_X9_181 kq_107 (by decide) rfl rfl rfl (by decide) (by decide) (Nat.le_of_ble_eq_true rfl) dX9_goOver_98 rfl rfl ?_
        refine v_ior (pc := 101) O dX9_goOver_101 ?_
        obtain ⟨c69, h⟩ := or_none h
        refine v_iast (pc := 102) (a := 180) O kq_180 (inq lq_180 c69) dX9_goOver_102 ?_
        refine v_sub [3, 4, 2, 1, 0] rfl ?_
        exact w_X9_goOver_b103 O hm hn hz x1 p43.1 ((dI p43.2 113 (x1).toNatClampNeg) - p49.1) ((dI p49.2 114 (x1).toNatClampNeg) ||| p52.1) (sI p67.2 180 ((26 : Int32) + ((dI p43.2 113 (x1).toNatClampNeg) - p49.1)).toNatClampNeg (((dI p49.2 114 (x1).toNatClampNeg) ||| p52.1) ||| p67.1)) h
theorem c_X9_goOver {l : Launch} {w : Wx} {n nu c u : Nat} {K : Nat → Nat} {N : Nat} (hm : wlm w = true) {x1 : Int32} {D : Dat} {z : Dat} (h : f_X9_goOver N nu K x1 D = some z) : C0 l w yX9_goOver cX9_goOver 9 none 4 87 [.ref (wb w + pp 107), .int x1] n (Ax nu K c u) D none z :=
  C0.of (by decide) (Nat.le_of_ble_eq_true rfl) (fun X e1 e2 e3 hz O => by
  subst e1
  subst e2
  exact w_X9_goOver O hm e3 hz x1 D h)
