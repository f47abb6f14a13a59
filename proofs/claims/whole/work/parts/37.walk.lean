theorem kq_189 {nu c u : Nat} {K : Nat → Nat} : (Ax nu K c u).1 189 = 10 := kd_lt (K := K) (a := 189) (by decide) rfl
theorem pf_X1_1 : PI 1 RX1 TX1 6 tyX1 1 2 (.object "FlowChain$Program") := ⟨gf_X1_1, rfl, rfl⟩
theorem fl_X1_46 : Cond.fieldLink RX1 46 RX4 (TX4 0).2.1 (TX4 0).2.2.1 ∈ tb := tb_of 449 (by decide +kernel) (by decide +kernel)
theorem fl_X10_15 : Cond.fieldLink RX10 15 RX10 (TX10 1).2.1 (TX10 1).2.2.1 ∈ tb := tb_of 429 (by decide +kernel) (by decide +kernel)
theorem inb_X10 : ∀ w ∈ u_ws RX10 TX10 2, w ∈ tb := by decide +kernel
theorem gf_X10_1 : FI 10 RX10 TX10 2 tyX10 1 2 := ⟨rfl, inb_X10, tyX10_ok, nmX10, by decide, by decide, rfl, rfl, rfl⟩
theorem fl_X10_91 : Cond.fieldLink RX10 91 RX7 (TX7 4).2.1 (TX7 4).2.2.1 ∈ tb := tb_of 1033 (by decide +kernel) (by decide +kernel)
theorem fl_X10_94 : Cond.fieldLink RX10 94 RX7 (TX7 5).2.1 (TX7 5).2.2.1 ∈ tb := tb_of 1037 (by decide +kernel) (by decide +kernel)
theorem fl_X10_9 : Cond.fieldLink RX10 9 RX10 (TX10 0).2.1 (TX10 0).2.2.1 ∈ tb := tb_of 428 (by decide +kernel) (by decide +kernel)
theorem gf_X10_0 : FI 10 RX10 TX10 2 tyX10 0 3 := ⟨rfl, inb_X10, tyX10_ok, nmX10, by decide, by decide, rfl, rfl, rfl⟩
theorem lk_189_0 : lks 189 0 = some 181 := by decide +kernel
theorem ml_X10_34 : Cond.methodLink RX10 34 yX3_goesOn ∈ tb := tb_of 1641 (by decide +kernel) (by decide +kernel)
theorem ml_X10_97 : Cond.methodLink RX10 97 yX4_operation ∈ tb := tb_of 1651 (by decide +kernel) (by decide +kernel)
theorem ml_X10_101 : Cond.methodLink RX10 101 yX4_argument ∈ tb := tb_of 1652 (by decide +kernel) (by decide +kernel)
theorem cw_X8_emitExpressions : Cond.code yX8_emitExpressions cX8_emitExpressions 3 none ∈ tb := tb_of 1237 (by decide +kernel) (by decide +kernel)
theorem mw_X8_emitExpressions : MW yX8_emitExpressions cX8_emitExpressions 3 none 1 := ⟨cw_X8_emitExpressions, ini_X8, by decide +kernel⟩
theorem im_X8_emitExpressions : Cond.instanceMethod yX8_emitExpressions ∈ tb := tb_of 1236 (by decide +kernel) (by decide +kernel)
theorem se_X8_emitExpressions : Cond.selects (yX8_emitExpressions).cls yX8_emitExpressions yX8_emitExpressions ∈ tb := tb_of 47 (by decide +kernel) (by decide +kernel)
theorem ml_X8_68 : Cond.methodLink RX8 68 yX8_emitExpressions ∈ tb := tb_of 1234 (by decide +kernel) (by decide +kernel)
theorem fl_X8_78 : Cond.fieldLink RX8 78 RX7 (TX7 6).2.1 (TX7 6).2.2.1 ∈ tb := tb_of 1041 (by decide +kernel) (by decide +kernel)
theorem cw_X8_goThrough : Cond.code yX8_goThrough cX8_goThrough 4 none ∈ tb := tb_of 1229 (by decide +kernel) (by decide +kernel)
theorem mw_X8_goThrough : MW yX8_goThrough cX8_goThrough 4 none 2 := ⟨cw_X8_goThrough, ini_X8, by decide +kernel⟩
theorem im_X8_goThrough : Cond.instanceMethod yX8_goThrough ∈ tb := tb_of 1228 (by decide +kernel) (by decide +kernel)
theorem se_X8_goThrough : Cond.selects (yX8_goThrough).cls yX8_goThrough yX8_goThrough ∈ tb := tb_of 45 (by decide +kernel) (by decide +kernel)
theorem ml_X8_34 : Cond.methodLink RX8 34 yX8_goThrough ∈ tb := tb_of 1226 (by decide +kernel) (by decide +kernel)
theorem fl_X8_81 : Cond.fieldLink RX8 81 RX7 (TX7 8).2.1 (TX7 8).2.2.1 ∈ tb := tb_of 1048 (by decide +kernel) (by decide +kernel)
theorem gf_X7_8 : FI 7 RX7 TX7 10 tyX7 8 0 := ⟨rfl, inb_X7, tyX7_ok, nmX7, by decide, by decide, rfl, rfl, rfl⟩
theorem cw_X0_aim : Cond.code yX0_aim cX0_aim 3 none ∈ tb := tb_of 1252 (by decide +kernel) (by decide +kernel)
theorem mw_X0_aim : MW yX0_aim cX0_aim 3 none 2 := ⟨cw_X0_aim, ini_X0, by decide +kernel⟩
theorem im_X0_aim : Cond.instanceMethod yX0_aim ∈ tb := tb_of 1250 (by decide +kernel) (by decide +kernel)
theorem se_X0_aim : Cond.selects (yX0_aim).cls yX0_aim yX0_aim ∈ tb := tb_of 1251 (by decide +kernel) (by decide +kernel)
theorem ml_X8_84 : Cond.methodLink RX8 84 yX0_aim ∈ tb := tb_of 1249 (by decide +kernel) (by decide +kernel)
theorem fl_X8_87 : Cond.fieldLink RX8 87 RX7 (TX7 7).2.1 (TX7 7).2.2.1 ∈ tb := tb_of 1046 (by decide +kernel) (by decide +kernel)
theorem fl_X8_42 : Cond.fieldLink RX8 42 RX7 (TX7 0).2.1 (TX7 0).2.2.1 ∈ tb := tb_of 1018 (by decide +kernel) (by decide +kernel)
theorem cw_X8_goOverIf : Cond.code yX8_goOverIf cX8_goOverIf 5 none ∈ tb := tb_of 1233 (by decide +kernel) (by decide +kernel)
theorem mw_X8_goOverIf : MW yX8_goOverIf cX8_goOverIf 5 none 2 := ⟨cw_X8_goOverIf, ini_X8, by decide +kernel⟩
theorem im_X8_goOverIf : Cond.instanceMethod yX8_goOverIf ∈ tb := tb_of 1232 (by decide +kernel) (by decide +kernel)
theorem se_X8_goOverIf : Cond.selects (yX8_goOverIf).cls yX8_goOverIf yX8_goOverIf ∈ tb := tb_of 46 (by decide +kernel) (by decide +kernel)
theorem ml_X8_48 : Cond.methodLink RX8 48 yX8_goOverIf ∈ tb := tb_of 1230 (by decide +kernel) (by decide +kernel)
theorem cw_X8_goOverWhile : Cond.code yX8_goOverWhile cX8_goOverWhile 5 none ∈ tb := tb_of 1260 (by decide +kernel) (by decide +kernel)
theorem mw_X8_goOverWhile : MW yX8_goOverWhile cX8_goOverWhile 5 none 2 := ⟨cw_X8_goOverWhile, ini_X8, by decide +kernel⟩
theorem im_X8_goOverWhile : Cond.instanceMethod yX8_goOverWhile ∈ tb := tb_of 1259 (by decide +kernel) (by decide +kernel)
theorem se_X8_goOverWhile : Cond.selects (yX8_goOverWhile).cls yX8_goOverWhile yX8_goOverWhile ∈ tb := tb_of 49 (by decide +kernel) (by decide +kernel)
theorem ml_X8_51 : Cond.methodLink RX8 51 yX8_goOverWhile ∈ tb := tb_of 1257 (by decide +kernel) (by decide +kernel)
theorem fl_X8_54 : Cond.fieldLink RX8 54 RX7 (TX7 2).2.1 (TX7 2).2.2.1 ∈ tb := tb_of 1023 (by decide +kernel) (by decide +kernel)
theorem ml_X8_57 : Cond.methodLink RX8 57 yX4_proc ∈ tb := tb_of 1261 (by decide +kernel) (by decide +kernel)
theorem cw_J0_indexOf_0f7a4 : Cond.code yJ0_indexOf_0f7a4 cJ0_indexOf_0f7a4 2 (some .int) ∈ tb := tb_of 813 (by decide +kernel) (by decide +kernel)
theorem mw_J0_indexOf_0f7a4 : MW yJ0_indexOf_0f7a4 cJ0_indexOf_0f7a4 2 (some .int) 1 := ⟨cw_J0_indexOf_0f7a4, ini_J0, by decide +kernel⟩
theorem im_J0_indexOf_0f7a4 : Cond.instanceMethod yJ0_indexOf_0f7a4 ∈ tb := tb_of 811 (by decide +kernel) (by decide +kernel)
theorem se_J0_indexOf_0f7a4 : Cond.selects (yJ0_indexOf_0f7a4).cls yJ0_indexOf_0f7a4 yJ0_indexOf_0f7a4 ∈ tb := tb_of 812 (by decide +kernel) (by decide +kernel)
theorem ml_X5_253 : Cond.methodLink RX5 253 yJ0_indexOf_0f7a4 ∈ tb := tb_of 810 (by decide +kernel) (by decide +kernel)
theorem fl_X8_71 : Cond.fieldLink RX8 71 RX7 (TX7 3).2.1 (TX7 3).2.2.1 ∈ tb := tb_of 1027 (by decide +kernel) (by decide +kernel)
theorem cw_X3_perform : Cond.code yX3_perform cX3_perform 3 none ∈ tb := tb_of 1585 (by decide +kernel) (by decide +kernel)
theorem mw_X3_perform : MW yX3_perform cX3_perform 3 none 2 := ⟨cw_X3_perform, ini_X3, by decide +kernel⟩
theorem im_X3_perform : Cond.instanceMethod yX3_perform ∈ tb := tb_of 1583 (by decide +kernel) (by decide +kernel)
theorem se_X3_perform : Cond.selects (yX3_perform).cls yX3_perform yX3_perform ∈ tb := tb_of 1584 (by decide +kernel) (by decide +kernel)
theorem ml_X10_73 : Cond.methodLink RX10 73 yX3_perform ∈ tb := tb_of 1653 (by decide +kernel) (by decide +kernel)
theorem cw_X8_goOverPlain : Cond.code yX8_goOverPlain cX8_goOverPlain 2 none ∈ tb := tb_of 1265 (by decide +kernel) (by decide +kernel)
theorem mw_X8_goOverPlain : MW yX8_goOverPlain cX8_goOverPlain 2 none 1 := ⟨cw_X8_goOverPlain, ini_X8, by decide +kernel⟩
theorem im_X8_goOverPlain : Cond.instanceMethod yX8_goOverPlain ∈ tb := tb_of 1264 (by decide +kernel) (by decide +kernel)
theorem se_X8_goOverPlain : Cond.selects (yX8_goOverPlain).cls yX8_goOverPlain yX8_goOverPlain ∈ tb := tb_of 50 (by decide +kernel) (by decide +kernel)
theorem ml_X8_61 : Cond.methodLink RX8 61 yX8_goOverPlain ∈ tb := tb_of 1262 (by decide +kernel) (by decide +kernel)
theorem fl_X8_65 : Cond.fieldLink RX8 65 RX7 (TX7 9).2.1 (TX7 9).2.2.1 ∈ tb := tb_of 1050 (by decide +kernel) (by decide +kernel)
def f_X1_check_b7 (N : Nat) (nu : Nat) (K : Nat → Nat) : Nat → Int32 → Dat → Option (Sum Nat Unit × Dat)
  | 0, _, _ => none
  | g + 1, x2, D => if 26 ≤ x2 then (((dR D 6 1)).bind (fun a2 => if a2 = 191 ∨ a2 = 196 then (sb (f_X1_goThrough N nu K 50 (dR D a2 0) 0 0 D) (fun p5 D7 => some (.inr (), D7))) else none)) else (((dR D 6 1)).bind (fun a8 => if a8 = 191 ∨ a8 = 196 then ((f_X4_variableMark a8 x2 D).bind (fun p11 => (f_X2_shade nu K p11.1 p11.2).bind (fun p13 => if x2 < 0 ∨ 26 ≤ (x2).toNatClampNeg then none else ((f_X1_check_b7 N nu K g) (x2 + 1) (sI p13.2 7 (x2).toNatClampNeg p13.1))))) else none))
set_option maxHeartbeats 4000000 in
theorem w_X1_check_b7 {X : Cx} {n nu c u : Nat} {K : Nat → Nat} {N : Nat} {z : Sum Nat Unit × Dat} (O : Ok X cX1_check RX1 none 401 7324) (hm : wlm (xw X) = true) (hn : xn X = 3) (hz : Z0 X (Ax nu K c u)) (hT : T1 X (zu z)) : ∀ (g : Nat) (x2 : Int32) (D : Dat), f_X1_check_b7 N nu K g x2 D = some z → V X (Q1 X n (Ax nu K c u) (zu z)) n (Ax nu K c u) D 7 [(0, .ref (bo X + 6)), (2, .int x2)] [] := by
  intro g
  induction g with
  | zero => intro x2 D h; exact absurd h (by simp [f_X1_check_b7])
  | succ g ih =>
    intro x2 D h
    rw [f_X1_check_b7] at h
    refine v_iload_n (pc := 7) O dX1_check_7 1 rfl ?_
    refine v_bipush (pc := 8) O dX1_check_8 bp_26 ?_
    refine v_icmpge (pc := 10) 40 O dX1_check_10 (by decide) (fun c1 => ?_) (fun c1 => ?_)
    · have h := (if_pos c1).symm.trans h
      refine v_aload_n (pc := 40) O dX1_check_40 0 rfl ?_
      refine v_aload_n (pc := 41) O dX1_check_41 0 rfl ?_
      refine v_getR (pc := 42) (a := 6) O gf_X1_1 fl_X1_31 kq_6 dX1_check_42 ?_
      obtain ⟨a2, e3, h⟩ := bind_some h
      rw [e3]
      obtain ⟨c4, h⟩ := if_none h
      refine v_getR (pc := 45) (a := a2) O gf_X4_0 fl_X1_46 (kt_X4 c4) dX1_check_45 ?_
      refine v_iconst (pc := 48) O dX1_check_48 ic_0 ?_
      refine v_iconst (pc := 49) O dX1_check_49 ic_0 ?_
      rcases sb_some h with ⟨p5, D7, e6, rfl⟩ | ⟨p5, D7, e6, h⟩
      · exact v_call1X (pc := 50) (a := 6) (As := [rv (bo X) (dR D a2 0), .int 0, .int 0]) (rest := []) (e := p5) (D' := D7) O hz hT (c_X1_goThrough (n := n) (nu := nu) (c := c) (u := u) hT.2.1 hm 50 e6 :) mw_X1_goThrough im_X1_goThrough se_X1_goThrough ml_X1_50 kq_6 (by decide) rfl rfl rfl (by decide) (by decide) (Nat.le_of_ble_eq_true rfl) dX1_check_50 rfl
      · refine v_call1 (pc := 50) (a := 6) (As := [rv (bo X) (dR D a2 0), .int 0, .int 0]) (rest := []) (r := none) (D' := D7) O hz (c_X1_goThrough (n := n) (nu := nu) (c := c) (u := u) hT.2.1 hm 50 e6 :) mw_X1_goThrough im_X1_goThrough se_X1_goThrough ml_X1_50 kq_6 (by decide) rfl rfl rfl (by decide) (by decide) (Nat.le_of_ble_eq_true rfl) dX1_check_50 rfl rfl ?_
        obtain rfl := Option.some.inj h
        exact v_r1 (v_ret (pc := 53) O hz dX1_check_53)
    · have h := (if_neg c1).symm.trans h
      refine v_aload_n (pc := 13) O dX1_check_13 0 rfl ?_
      refine v_getK (pc := 14) (a := 6) O hm gf_X1_2 fl_X1_9 kq_6 lk_6_2 dX1_check_14 ?_
      refine v_iload_n (pc := 17) O dX1_check_17 1 rfl ?_
      refine v_aload_n (pc := 18) O dX1_check_18 0 rfl ?_
      refine v_getK (pc := 19) (a := 6) O hm gf_X1_0 fl_X1_23 kq_6 lk_6_0 dX1_check_19 ?_
      refine v_aload_n (pc := 22) O dX1_check_22 0 rfl ?_
      refine v_getR (pc := 23) (a := 6) O gf_X1_1 fl_X1_31 kq_6 dX1_check_23 ?_
      refine v_iload_n (pc := 26) O dX1_check_26 1 rfl ?_
      obtain ⟨a8, e9, h⟩ := bind_some h
      rw [e9]
      obtain ⟨c10, h⟩ := if_none h
      obtain ⟨p11, e12, h⟩ := bind_some h
      refine v_callV (pc := 27) (a := a8) (As := [.int x2]) (rest := [.ref (bo X + 1), .int x2, .ref (bo X + 7)]) (r := (some (.int p11.1))) (D' := p11.2) O (bb0 hz) (c_X4_variableMark hm c10 e12) mw_X4_variableMark im_X4_variableMark se_X4_variableMark ml_X1_35 (kt_X4 c10) (by decide) rfl rfl rfl (by decide) (by decide) (Nat.le_of_ble_eq_true rfl) dX1_check_27 rfl rfl ?_
      obtain ⟨p13, e14, h⟩ := bind_some h
      refine v_callV (pc := 30) (a := 1) (As := [.int p11.1]) (rest := [.int x2, .ref (bo X + 7)]) (r := (some (.int p13.1))) (D' := p13.2) O (bb0 hz) (c_X2_shade hm e14) mw_X2_shade im_X2_shade se_X2_shade ml_X1_41 kq_1 (by decide) rfl rfl rfl (by decide) (by decide) (Nat.le_of_ble_eq_true rfl) dX1_check_30 rfl rfl ?_
      obtain ⟨c15, h⟩ := or_none h
      refine v_iast (pc := 33) (a := 7) O kq_7 (inq lq_7 c15) dX1_check_33 ?_
      refine v_iinc (pc := 34) (lv' := [(2, .int (x2 + 1)), (0, .ref (bo X + 6))]) O dX1_check_34 1 rfl (congrArg (fun q => x2 + q) ic_1) (by rw [hn]; decide) rfl ?_
      refine v_goto (pc := 37) 7 O dX1_check_37 (by decide) ?_
      refine v_sub [1, 0] rfl ?_
      exact ih (x2 + 1) (sI p13.2 7 (x2).toNatClampNeg p13.1) h
def f_X1_check (N : Nat) (nu : Nat) (K : Nat → Nat) (x1 : Option Nat) (D : Dat) : Option (Sum Nat Unit × Dat) :=
  f_X1_check_b7 N nu K N 0 (sR D 6 1 x1)
set_option maxHeartbeats 4000000 in
theorem w_X1_check {X : Cx} {n nu c u : Nat} {K : Nat → Nat} {N : Nat} {z : Sum Nat Unit × Dat} (O : Ok X cX1_check RX1 none 401 7324) (hm : wlm (xw X) = true) (hn : xn X = 3) (hz : Z0 X (Ax nu K c u)) (hT : T1 X (zu z)) (x1 : Option Nat) (D : Dat) (h : f_X1_check N nu K x1 D = some z) : V X (Q1 X n (Ax nu K c u) (zu z)) n (Ax nu K c u) D 0 [(0, .ref (bo X + 6)), (1, rv (bo X) x1)] [] := by
  unfold f_X1_check at h
  refine v_aload_n (pc := 0) O dX1_check_0 0 rfl ?_
  refine v_aload_nr (pc := 1) O dX1_check_1 1 rfl ?_
  refine v_putR (pc := 2) (a := 6) (r := x1) O pf_X1_1 rfl fl_X1_31 kq_6 dX1_check_2 ?_
  refine v_iconst (pc := 5) O dX1_check_5 ic_0 ?_
  refine v_istore_n (pc := 6) (lv' := [(2, .int 0), (0, .ref (bo X + 6)), (1, rv (bo X) x1)]) O dX1_check_6 rfl (by rw [hn]; decide) (by simp [rv_cat, cat_i, cat_l, cat_r, cat_n]) ?_
  refine v_sub [1, 0] rfl ?_
  exact w_X1_check_b7 O hm hn hz hT N 0 (sR D 6 1 x1) h
theorem c_X1_check {l : Launch} {w : Wx} {n nu c u : Nat} {K : Nat → Nat} {N : Nat} (hl : l.stackTraces = false) (hm : wlm w = true) {x1 : Option Nat} {D : Dat} {z : Sum Nat Unit × Dat} (h : f_X1_check N nu K x1 D = some z) : C1 l w yX1_check cX1_check 3 none 401 7324 [.ref (wb w + 6), rv (wb w) x1] n (Ax nu K c u) D (zu z) :=
  C1.of hl (by decide) (by simp [lg_sl, rv_cat, cat_i, cat_l, cat_r, cat_n, fmt_cat]) (fun X e1 e2 e3 hz hT O => by
  subst e1
  subst e2
  have q : lv_args 0 [.ref (bo X + 6), rv (bo X) x1] = [(0, .ref (bo X + 6)), (1, rv (bo X) x1)] := by simp [lv_args, rv_cat, cat_i, cat_l, cat_r, cat_n, fmt_cat]
  show V X _ n _ D 0 (lv_args 0 [.ref (bo X + 6), rv (bo X) x1]) []
  rw [q]
  exact w_X1_check O hm e3 hz hT x1 D h)
def f_X5_kindAt_b12 (N : Nat) (D : Dat) : Option (Int32 × Dat) :=
  some (0, D)
set_option maxHeartbeats 4000000 in
theorem w_X5_kindAt_b12 {X : Cx} {n nu c u : Nat} {K : Nat → Nat} {N : Nat} {z : Int32 × Dat} (O : Ok X cX5_kindAt RX5 (some .int) 4 96) (hm : wlm (xw X) = true) (hn : xn X = 3) (hz : Z0 X (Ax nu K c u)) (D : Dat) (h : f_X5_kindAt_b12 N D = some z) : V X (Q0 X n (Ax nu K c u) (some (.int z.1)) z.2) n (Ax nu K c u) D 12 [] [] := by
  unfold f_X5_kindAt_b12 at h
  refine v_iconst (pc := 12) O dX5_kindAt_12 ic_0 ?_
  obtain rfl := Option.some.inj h
  exact v_iret (pc := 13) O hz dX5_kindAt_13
def f_X5_kindAt_b63 (N : Nat) (s0 : Int32) (D : Dat) : Option (Int32 × Dat) :=
  some (s0, D)
set_option maxHeartbeats 4000000 in
theorem w_X5_kindAt_b63 {X : Cx} {n nu c u : Nat} {K : Nat → Nat} {N : Nat} {z : Int32 × Dat} (O : Ok X cX5_kindAt RX5 (some .int) 4 96) (hm : wlm (xw X) = true) (hn : xn X = 3) (hz : Z0 X (Ax nu K c u)) (s0 : Int32) (D : Dat) (h : f_X5_kindAt_b63 N s0 D = some z) : V X (Q0 X n (Ax nu K c u) (some (.int z.1)) z.2) n (Ax nu K c u) D 63 [] [.int s0] := by
  unfold f_X5_kindAt_b63 at h
  obtain rfl := Option.some.inj h
  exact v_iret (pc := 63) O hz dX5_kindAt_63
def f_X5_kindAt_b49 (N : Nat) (x2 : Int32) (D : Dat) : Option (Int32 × Dat) :=
  (f_J0_indexOf_0f7a4 N 9 x2 D).bind (fun p1 => if p1.1 < 0 then (f_X5_kindAt_b63 N 3 p1.2) else (f_X5_kindAt_b63 N x2 p1.2))
set_option maxHeartbeats 4000000 in
theorem w_X5_kindAt_b49 {X : Cx} {n nu c u : Nat} {K : Nat → Nat} {N : Nat} {z : Int32 × Dat} (O : Ok X cX5_kindAt RX5 (some .int) 4 96) (hm : wlm (xw X) = true) (hn : xn X = 3) (hz : Z0 X (Ax nu K c u)) (x2 : Int32) (D : Dat) (h : f_X5_kindAt_b49 N x2 D = some z) : V X (Q0 X n (Ax nu K c u) (some (.int z.1)) z.2) n (Ax nu K c u) D 49 [(2, .int x2)] [] := by
  unfold f_X5_kindAt_b49 at h
  refine v_ldcS (pc := 49) O 9 (by decide) rfl dX5_kindAt_49 ?_
  refine v_iload_n (pc := 51) O dX5_kindAt_51 0 rfl ?_
  obtain ⟨p1, e2, h⟩ := bind_some h
  refine v_callT (pc := 52) (i := 9) (As := [.int x2]) (rest := []) (r := (some (.int p1.1))) (D' := p1.2) O (bb0 hz) (by decide) (c_J0_indexOf_0f7a4 hm (by decide) e2) mw_J0_indexOf_0f7a4 im_J0_indexOf_0f7a4 se_J0_indexOf_0f7a4 ml_X5_253 rfl rfl (by decide) (by decide) (Nat.le_of_ble_eq_true rfl) dX5_kindAt_52 rfl rfl ?_
  refine v_iflt (pc := 55) 62 O dX5_kindAt_55 (by decide) (fun c3 => ?_) (fun c3 => ?_)
  · have h := (if_pos c3).symm.trans h
    refine v_iconst (pc := 62) O dX5_kindAt_62 ic_3 ?_
    refine v_sub [] rfl ?_
    exact w_X5_kindAt_b63 O hm hn hz 3 p1.2 h
  · have h := (if_neg c3).symm.trans h
    refine v_iload_n (pc := 58) O dX5_kindAt_58 0 rfl ?_
    refine v_goto (pc := 59) 63 O dX5_kindAt_59 (by decide) ?_
    refine v_sub [] rfl ?_
    exact w_X5_kindAt_b63 O hm hn hz x2 p1.2 h
def f_X5_kindAt_b35 (N : Nat) (x2 : Int32) (D : Dat) : Option (Int32 × Dat) :=
  if x2 < 48 then (f_X5_kindAt_b49 N x2 D) else (if 57 < x2 then (f_X5_kindAt_b49 N x2 D) else (some (2, D)))
set_option maxHeartbeats 4000000 in
theorem w_X5_kindAt_b35 {X : Cx} {n nu c u : Nat} {K : Nat → Nat} {N : Nat} {z : Int32 × Dat} (O : Ok X cX5_kindAt RX5 (some .int) 4 96) (hm : wlm (xw X) = true) (hn : xn X = 3) (hz : Z0 X (Ax nu K c u)) (x2 : Int32) (D : Dat) (h : f_X5_kindAt_b35 N x2 D = some z) : V X (Q0 X n (Ax nu K c u) (some (.int z.1)) z.2) n (Ax nu K c u) D 35 [(2, .int x2)] [] := by
  unfold f_X5_kindAt_b35 at h
  refine v_iload_n (pc := 35) O dX5_kindAt_35 0 rfl ?_
  refine v_bipush (pc := 36) O dX5_kindAt_36 bp_48 ?_
  refine v_icmplt (pc := 38) 49 O dX5_kindAt_38 (by decide) (fun c4 => ?_) (fun c4 => ?_)
  · have h := (if_pos c4).symm.trans h
    refine v_sub [0] rfl ?_
    exact w_X5_kindAt_b49 O hm hn hz x2 D h
  · have h := (if_neg c4).symm.trans h
    refine v_iload_n (pc := 41) O dX5_kindAt_41 0 rfl ?_
    refine v_bipush (pc := 42) O dX5_kindAt_42 bp_57 ?_
    refine v_icmpgt (pc := 44) 49 O dX5_kindAt_44 (by decide) (fun c5 => ?_) (fun c5 => ?_)
    · have h := (if_pos c5).symm.trans h
      refine v_sub [0] rfl ?_
      exact w_X5_kindAt_b49 O hm hn hz x2 D h
    · have h := (if_neg c5).symm.trans h
      refine v_iconst (pc := 47) O dX5_kindAt_47 ic_2 ?_
      obtain rfl := Option.some.inj h
      exact v_iret (pc := 48) O hz dX5_kindAt_48
def f_X5_kindAt (N : Nat) (x1 : Int32) (D : Dat) : Option (Int32 × Dat) :=
  if x1 < 0 then (f_X5_kindAt_b12 N D) else (if x1 < (dI D 3 2) then (if x1 < 0 ∨ 240 ≤ (x1).toNatClampNeg then none else (if (dI D 4 (x1).toNatClampNeg) < 97 then (f_X5_kindAt_b35 N (dI D 4 (x1).toNatClampNeg) D) else (if 122 < (dI D 4 (x1).toNatClampNeg) then (f_X5_kindAt_b35 N (dI D 4 (x1).toNatClampNeg) D) else (some (1, D))))) else (f_X5_kindAt_b12 N D))
set_option maxHeartbeats 4000000 in
theorem w_X5_kindAt {X : Cx} {n nu c u : Nat} {K : Nat → Nat} {N : Nat} {z : Int32 × Dat} (O : Ok X cX5_kindAt RX5 (some .int) 4 96) (hm : wlm (xw X) = true) (hn : xn X = 3) (hz : Z0 X (Ax nu K c u)) (x1 : Int32) (D : Dat) (h : f_X5_kindAt N x1 D = some z) : V X (Q0 X n (Ax nu K c u) (some (.int z.1)) z.2) n (Ax nu K c u) D 0 [(0, .ref (bo X + 3)), (1, .int x1)] [] := by
  unfold f_X5_kindAt at h
  refine v_iload_n (pc := 0) O dX5_kindAt_0 1 rfl ?_
  refine v_iflt (pc := 1) 12 O dX5_kindAt_1 (by decide) (fun c6 => ?_) (fun c6 => ?_)
  · have h := (if_pos c6).symm.trans h
    refine v_sub [] rfl ?_
    exact w_X5_kindAt_b12 O hm hn hz D h
  · have h := (if_neg c6).symm.trans h
    refine v_iload_n (pc := 4) O dX5_kindAt_4 1 rfl ?_
    refine v_aload_n (pc := 5) O dX5_kindAt_5 0 rfl ?_
    refine v_getI (pc := 6) (a := 3) O gf_X5_2 fl_X5_23 kq_3 dX5_kindAt_6 ?_
    refine v_icmplt (pc := 9) 14 O dX5_kindAt_9 (by decide) (fun c7 => ?_) (fun c7 => ?_)
    · have h := (if_pos c7).symm.trans h
      refine v_aload_n (pc := 14) O dX5_kindAt_14 0 rfl ?_
      refine v_getK (pc := 15) (a := 3) O hm gf_X5_1 fl_X5_9 kq_3 lk_3_1 dX5_kindAt_15 ?_
      refine v_iload_n (pc := 18) O dX5_kindAt_18 1 rfl ?_
      obtain ⟨c8, h⟩ := or_none h
      refine v_cald (pc := 19) (a := 4) O kq_4 (inq lq_4 c8) dX5_kindAt_19 ?_
      refine v_istore_n (pc := 20) (lv' := [(2, .int (dI D 4 (x1).toNatClampNeg)), (0, .ref (bo X + 3)), (1, .int x1)]) O dX5_kindAt_20 rfl (by rw [hn]; decide) rfl ?_
      refine v_iload_n (pc := 21) O dX5_kindAt_21 0 rfl ?_
      refine v_bipush (pc := 22) O dX5_kindAt_22 bp_97 ?_
      refine v_icmplt (pc := 24) 35 O dX5_kindAt_24 (by decide) (fun c9 => ?_) (fun c9 => ?_)
      · have h := (if_pos c9).symm.trans h
        refine v_sub [0] rfl ?_
        exact w_X5_kindAt_b35 O hm hn hz (dI D 4 (x1).toNatClampNeg) D h
      · have h := (if_neg c9).symm.trans h
        refine v_iload_n (pc := 27) O dX5_kindAt_27 0 rfl ?_
        refine v_bipush (pc := 28) O dX5_kindAt_28 bp_122 ?_
        refine v_icmpgt (pc := 30) 35 O dX5_kindAt_30 (by decide) (fun c10 => ?_) (fun c10 => ?_)
        · have h := (if_pos c10).symm.trans h
          refine v_sub [0] rfl ?_
          exact w_X5_kindAt_b35 O hm hn hz (dI D 4 (x1).toNatClampNeg) D h
        · have h := (if_neg c10).symm.trans h
          refine v_iconst (pc := 33) O dX5_kindAt_33 ic_1 ?_
          obtain rfl := Option.some.inj h
          exact v_iret (pc := 34) O hz dX5_kindAt_34
    · have h := (if_neg c7).symm.trans h
      refine v_sub [] rfl ?_
      exact w_X5_kindAt_b12 O hm hn hz D h
theorem c_X5_kindAt {l : Launch} {w : Wx} {n nu c u : Nat} {K : Nat → Nat} {N : Nat} (hm : wlm w = true) {x1 : Int32} {D : Dat} {z : Int32 × Dat} (h : f_X5_kindAt N x1 D = some z) : C0 l w yX5_kindAt cX5_kindAt 3 (some .int) 4 96 [.ref (wb w + 3), .int x1] n (Ax nu K c u) D (some (.int z.1)) z.2 :=
  C0.of (by decide) (Nat.le_of_ble_eq_true rfl) (fun X e1 e2 e3 hz O => by
  subst e1
  subst e2
  exact w_X5_kindAt O hm e3 hz x1 D h)
def f_X8_goOverPlain_b64 (N : Nat) (nu : Nat) (K : Nat → Nat) (D : Dat) : Option (Dat) :=
  some D
set_option maxHeartbeats 4000000 in
theorem w_X8_goOverPlain_b64 {X : Cx} {n nu c u : Nat} {K : Nat → Nat} {N : Nat} {z : Dat} (O : Ok X cX8_goOverPlain RX8 none 3 66) (hm : wlm (xw X) = true) (hn : xn X = 2) (hz : Z0 X (Ax nu K c u)) (D : Dat) (h : f_X8_goOverPlain_b64 N nu K D = some z) : V X (Q0 X n (Ax nu K c u) none z) n (Ax nu K c u) D 64 [] [] := by
  unfold f_X8_goOverPlain_b64 at h
  obtain rfl := Option.some.inj h
  exact v_ret (pc := 64) O hz dX8_goOverPlain_64
def f_X8_goOverPlain_b61 (N : Nat) (nu : Nat) (K : Nat → Nat) (s0 : Int32) (s1 : Int32) (D : Dat) : Option (Dat) :=
  (f_X8_emit s1 s0 D).bind (fun p1 => f_X8_goOverPlain_b64 N nu K p1)
set_option maxHeartbeats 4000000 in
theorem w_X8_goOverPlain_b61 {X : Cx} {n nu c u : Nat} {K : Nat → Nat} {N : Nat} {z : Dat} (O : Ok X cX8_goOverPlain RX8 none 3 66) (hm : wlm (xw X) = true) (hn : xn X = 2) (hz : Z0 X (Ax nu K c u)) (s0 : Int32) (s1 : Int32) (D : Dat) (h : f_X8_goOverPlain_b61 N nu K s0 s1 D = some z) : V X (Q0 X n (Ax nu K c u) none z) n (Ax nu K c u) D 61 [] [.int s0, .int s1, .ref (bo X + 106)] := by
  unfold f_X8_goOverPlain_b61 at h
  obtain ⟨p1, e2, h⟩ := bind_some h
  refine v_callV (pc := 61) (a := 106) (As := [.int s1, .int s0]) (rest := []) (r := none) (D' := p1) O (bb0 hz) (c_X8_emit hm e2) mw_X8_emit im_X8_emit se_X8_emit ml_X8_38 kq_106 (by decide) rfl rfl rfl (by decide) (by decide) (Nat.le_of_ble_eq_true rfl) dX8_goOverPlain_61 rfl rfl ?_
  refine v_sub [] rfl ?_
  exact w_X8_goOverPlain_b64 O hm hn hz p1 h
def f_X8_goOverPlain (N : Nat) (nu : Nat) (K : Nat → Nat) (x1 : Option Nat) (D : Dat) : Option (Dat) :=
  (f_X8_emitExpressions N nu K x1 D).bind (fun p3 => (x1).bind (fun a5 => if kd K a5 = 7 then (if (dI p3 a5 0) = 13 then ((f_X8_emit 13 (dI p3 a5 3) p3).bind (fun p10 => (f_X8_emit 2 (dI p10 a5 2) p10).bind (fun p12 => f_X8_goOverPlain_b64 N nu K p12))) else (if (dI p3 a5 0) = 14 then (f_X8_goOverPlain_b61 N nu K (dI p3 a5 3) (dI p3 a5 0) p3) else (f_X8_goOverPlain_b61 N nu K (dI p3 a5 2) (dI p3 a5 0) p3))) else none))
set_option maxHeartbeats 4000000 in
theorem w_X8_goOverPlain {X : Cx} {n nu c u : Nat} {K : Nat → Nat} {N : Nat} {z : Dat} (O : Ok X cX8_goOverPlain RX8 none 3 66) (hm : wlm (xw X) = true) (hn : xn X = 2) (hz : Z0 X (Ax nu K c u)) (x1 : Option Nat) (D : Dat) (h : f_X8_goOverPlain N nu K x1 D = some z) : V X (Q0 X n (Ax nu K c u) none z) n (Ax nu K c u) D 0 [(0, .ref (bo X + 106)), (1, rv (bo X) x1)] [] := by
  unfold f_X8_goOverPlain at h
  refine v_aload_n (pc := 0) O dX8_goOverPlain_0 0 rfl ?_
  refine v_aload_nr (pc := 1) O dX8_goOverPlain_1 1 rfl ?_
  obtain ⟨p3, e4, h⟩ := bind_some h
  refine v_callV (pc := 2) (a := 106) (As := [rv (bo X) x1]) (rest := []) (r := none) (D' := p3) O (bb0 hz) (c_X8_emitExpressions hm e4) mw_X8_emitExpressions im_X8_emitExpressions se_X8_emitExpressions ml_X8_68 kq_106 (by decide) rfl rfl rfl (by decide) (by decide) (Nat.le_of_ble_eq_true rfl) dX8_goOverPlain_2 rfl rfl ?_
  refine v_aload_nr (pc := 5) O dX8_goOverPlain_5 1 rfl ?_
  obtain ⟨a5, e6, h⟩ := bind_some h
  subst e6
  obtain ⟨c7, h⟩ := if_none h
  refine v_getI (pc := 6) (a := a5) O gf_X7_0 fl_X8_42 c7 dX8_goOverPlain_6 ?_
  refine v_bipush (pc := 9) O dX8_goOverPlain_9 bp_13 ?_
  refine v_icmpne (pc := 11) 36 O dX8_goOverPlain_11 (by decide) (fun c8 => ?_) (fun c8 => ?_)
  · have h := (if_neg c8).symm.trans h
    refine v_aload_n (pc := 36) O dX8_goOverPlain_36 0 rfl ?_
    refine v_aload_n (pc := 37) O dX8_goOverPlain_37 1 rfl ?_
    refine v_getI (pc := 38) (a := a5) O gf_X7_0 fl_X8_42 c7 dX8_goOverPlain_38 ?_
    refine v_aload_n (pc := 41) O dX8_goOverPlain_41 1 rfl ?_
    refine v_getI (pc := 42) (a := a5) O gf_X7_0 fl_X8_42 c7 dX8_goOverPlain_42 ?_
    refine v_bipush (pc := 45) O dX8_goOverPlain_45 bp_14 ?_
    refine v_icmpne (pc := 47) 57 O dX8_goOverPlain_47 (by decide) (fun c9 => ?_) (fun c9 => ?_)
    · have h := (if_neg c9).symm.trans h
      refine v_aload_n (pc := 57) O dX8_goOverPlain_57 1 rfl ?_
      refine v_getI (pc := 58) (a := a5) O gf_X7_2 fl_X8_54 c7 dX8_goOverPlain_58 ?_
      refine v_sub [] rfl ?_
      exact w_X8_goOverPlain_b61 O hm hn hz (dI p3 a5 2) (dI p3 a5 0) p3 h
    · have h := (if_pos c9).symm.trans h
      refine v_aload_n (pc := 50) O dX8_goOverPlain_50 1 rfl ?_
      refine v_getI (pc := 51) (a := a5) O gf_X7_3 fl_X8_71 c7 dX8_goOverPlain_51 ?_
      refine v_goto (pc := 54) 61 O dX8_goOverPlain_54 (by decide) ?_
      refine v_sub [] rfl ?_
      exact w_X8_goOverPlain_b61 O hm hn hz (dI p3 a5 3) (dI p3 a5 0) p3 h
  · have h := (if_pos c8).symm.trans h
    refine v_aload_n (pc := 14) O dX8_goOverPlain_14 0 rfl ?_
    refine v_bipush (pc := 15) O dX8_goOverPlain_15 bp_13 ?_
    refine v_aload_n (pc := 17) O dX8_goOverPlain_17 1 rfl ?_
    refine v_getI (pc := 18) (a := a5) O gf_X7_3 fl_X8_71 c7 dX8_goOverPlain_18 ?_
    obtain ⟨p10, e11, h⟩ := bind_some h
    refine v_callV (pc := 21) (a := 106) (As := [.int 13, .int (dI p3 a5 3)]) (rest := []) (r := none) (D' := p10) O (bb0 hz) (c_X8_emit hm e11) mw_X8_emit im_X8_emit se_X8_emit ml_X8_38 kq_106 (by decide) rfl rfl rfl (by decide) (by decide) (Nat.le_of_ble_eq_true rfl) dX8_goOverPlain_21 rfl rfl ?_
    refine v_aload_n (pc := 24) O dX8_goOverPlain_24 0 rfl ?_
    refine v_iconst (pc := 25) O dX8_goOverPlain_25 ic_2 ?_
    refine v_aload_n (pc := 26) O dX8_goOverPlain_26 1 rfl ?_
    refine v_getI (pc := 27) (a := a5) O gf_X7_2 fl_X8_54 c7 dX8_goOverPlain_27 ?_
    obtain ⟨p12, e13, h⟩ := bind_some h
    refine v_callV (pc := 30) (a := 106) (As := [.int 2, .int (dI p10 a5 2)]) (rest := []) (r := none) (D' := p12) O (bb0 hz) (c_X8_emit hm e13) mw_X8_emit im_X8_emit se_X8_emit ml_X8_38 kq_106 (by decide) rfl rfl rfl (by decide) (by decide) (Nat.le_of_ble_eq_true rfl) dX8_goOverPlain_30 rfl rfl ?_
    refine v_goto (pc := 33) 64 O dX8_goOverPlain_33 (by decide) ?_
    refine v_sub [] rfl ?_
    exact w_X8_goOverPlain_b64 O hm hn hz p12 h
theorem c_X8_goOverPlain {l : Launch} {w : Wx} {n nu c u : Nat} {K : Nat → Nat} {N : Nat} (hm : wlm w = true) {x1 : Option Nat} {D : Dat} {z : Dat} (h : f_X8_goOverPlain N nu K x1 D = some z) : C0 l w yX8_goOverPlain cX8_goOverPlain 2 none 3 66 [.ref (wb w + 106), rv (wb w) x1] n (Ax nu K c u) D none z :=
  C0.of (by decide) (by simp [lg_sl, rv_cat, cat_i, cat_l, cat_r, cat_n, fmt_cat]) (fun X e1 e2 e3 hz O => by
  subst e1
  subst e2
  have q : lv_args 0 [.ref (bo X + 106), rv (bo X) x1] = [(0, .ref (bo X + 106)), (1, rv (bo X) x1)] := by simp [lv_args, rv_cat, cat_i, cat_l, cat_r, cat_n, fmt_cat]
  show V X _ n _ D 0 (lv_args 0 [.ref (bo X + 106), rv (bo X) x1]) []
  rw [q]
  exact w_X8_goOverPlain O hm e3 hz x1 D h)
def f_X10_reckon_b52 (N : Nat) (nu : Nat) (K : Nat → Nat) (D : Dat) : Option (Dat) :=
  some D
set_option maxHeartbeats 4000000 in
theorem w_X10_reckon_b52 {X : Cx} {n nu c u : Nat} {K : Nat → Nat} {N : Nat} {z : Dat} (O : Ok X cX10_reckon RX10 none 4 87) (hm : wlm (xw X) = true) (hn : xn X = 3) (hz : Z0 X (Ax nu K c u)) (D : Dat) (h : f_X10_reckon_b52 N nu K D = some z) : V X (Q0 X n (Ax nu K c u) none z) n (Ax nu K c u) D 52 [] [] := by
  unfold f_X10_reckon_b52 at h
  obtain rfl := Option.some.inj h
  exact v_ret (pc := 52) O hz dX10_reckon_52
def f_X10_reckon_b5 (N : Nat) (nu : Nat) (K : Nat → Nat) : Nat → Option Nat → Int32 → Dat → Option (Dat)
  | 0, _, _, _ => none
  | g + 1, x1, x2, D => (x1).bind (fun a1 => if kd K a1 = 7 then (if (dI D a1 5) ≤ x2 then (f_X10_reckon_b52 N nu K D) else ((f_X3_goesOn D).bind (fun p5 => if p5.1 = 0 then (f_X10_reckon_b52 N nu K p5.2) else (((dR p5.2 189 1)).bind (fun a8 => if a8 = 191 ∨ a8 = 196 then ((f_X4_operation a8 x2 p5.2).bind (fun p11 => ((dR p11.2 189 1)).bind (fun a13 => if a13 = 191 ∨ a13 = 196 then ((f_X4_argument a13 x2 p11.2).bind (fun p16 => (f_X3_perform p11.1 p16.1 p16.2).bind (fun p18 => (f_X10_reckon_b5 N nu K g) (some a1) (x2 + 1) p18))) else none))) else none))))) else none)
set_option maxHeartbeats 4000000 in
theorem w_X10_reckon_b5 {X : Cx} {n nu c u : Nat} {K : Nat → Nat} {N : Nat} {z : Dat} (O : Ok X cX10_reckon RX10 none 4 87) (hm : wlm (xw X) = true) (hn : xn X = 3) (hz : Z0 X (Ax nu K c u)) : ∀ (g : Nat) (x1 : Option Nat) (x2 : Int32) (D : Dat), f_X10_reckon_b5 N nu K g x1 x2 D = some z → V X (Q0 X n (Ax nu K c u) none z) n (Ax nu K c u) D 5 [(0, .ref (bo X + 189)), (1, rv (bo X) x1), (2, .int x2)] [] := by
  intro g
  induction g with
  | zero => intro x1 x2 D h; exact absurd h (by simp [f_X10_reckon_b5])
  | succ g ih =>
    intro x1 x2 D h
    rw [f_X10_reckon_b5] at h
    refine v_iload_n (pc := 5) O dX10_reckon_5 2 rfl ?_
    refine v_aload_nr (pc := 6) O dX10_reckon_6 1 rfl ?_
    obtain ⟨a1, e2, h⟩ := bind_some h
    subst e2
    obtain ⟨c3, h⟩ := if_none h
    refine v_getI (pc := 7) (a := a1) O gf_X7_5 fl_X10_94 c3 dX10_reckon_7 ?_
    refine v_icmpge (pc := 10) 52 O dX10_reckon_10 (by decide) (fun c4 => ?_) (fun c4 => ?_)
    · have h := (if_pos c4).symm.trans h
      refine v_sub [] rfl ?_
      exact w_X10_reckon_b52 O hm hn hz D h
    · have h := (if_neg c4).symm.trans h
      refine v_aload_n (pc := 13) O dX10_reckon_13 0 rfl ?_
      refine v_getK (pc := 14) (a := 189) O hm gf_X10_0 fl_X10_9 kq_189 lk_189_0 dX10_reckon_14 ?_
      obtain ⟨p5, e6, h⟩ := bind_some h
      refine v_callV (pc := 17) (a := 181) (As := []) (rest := []) (r := (some (.int p5.1))) (D' := p5.2) O (bb0 hz) (c_X3_goesOn hm e6) mw_X3_goesOn im_X3_goesOn se_X3_goesOn ml_X10_34 kq_181 (by decide) rfl rfl rfl (by decide) (by decide) (Nat.le_of_ble_eq_true rfl) dX10_reckon_17 rfl rfl ?_
      refine v_ifeq (pc := 20) 52 O dX10_reckon_20 (by decide) (fun c7 => ?_) (fun c7 => ?_)
      · have h := (if_pos c7).symm.trans h
        refine v_sub [] rfl ?_
        exact w_X10_reckon_b52 O hm hn hz p5.2 h
      · have h := (if_neg c7).symm.trans h
        refine v_aload_n (pc := 23) O dX10_reckon_23 0 rfl ?_
        refine v_getK (pc := 24) (a := 189) O hm gf_X10_0 fl_X10_9 kq_189 lk_189_0 dX10_reckon_24 ?_
        refine v_aload_n (pc := 27) O dX10_reckon_27 0 rfl ?_
        refine v_getR (pc := 28) (a := 189) O gf_X10_1 fl_X10_15 kq_189 dX10_reckon_28 ?_
        refine v_iload_n (pc := 31) O dX10_reckon_31 2 rfl ?_
        obtain ⟨a8, e9, h⟩ := bind_some h
        rw [e9]
        obtain ⟨c10, h⟩ := if_none h
        obtain ⟨p11, e12, h⟩ := bind_some h
        refine v_callV (pc := 32) (a := a8) (As := [.int x2]) (rest := [.ref (bo X + 181)]) (r := (some (.int p11.1))) (D' := p11.2) O (bb0 hz) (c_X4_operation hm c10 e12) mw_X4_operation im_X4_operation se_X4_operation ml_X10_97 (kt_X4 c10) (by decide) rfl rfl rfl (by decide) (by decide) (Nat.le_of_ble_eq_true rfl) dX10_reckon_32 rfl rfl ?_
        refine v_aload_n (pc := 35) O dX10_reckon_35 0 rfl ?_
        refine v_getR (pc := 36) (a := 189) O gf_X10_1 fl_X10_15 kq_189 dX10_reckon_36 ?_
        refine v_iload_n (pc := 39) O dX10_reckon_39 2 rfl ?_
        obtain ⟨a13, e14, h⟩ := bind_some h
        rw [e14]
        obtain ⟨c15, h⟩ := if_none h
        obtain ⟨p16, e17, h⟩ := bind_some h
        refine v_callV (pc := 40) (a := a13) (As := [.int x2]) (rest := [.int p11.1, .ref (bo X + 181)]) (r := (some (.int p16.1))) (D' := p16.2) O (bb0 hz) (c_X4_argument hm c15 e17) mw_X4_argument im_X4_argument se_X4_argument ml_X10_101 (kt_X4 c15) (by decide) rfl rfl rfl (by decide) (by decide) (Nat.le_of_ble_eq_true rfl) dX10_reckon_40 rfl rfl ?_
        obtain ⟨p18, e19, h⟩ := bind_some h
        refine v_callV (pc := 43) (a := 181) (As := [.int p11.1, .int p16.1]) (rest := []) (r := none) (D' := p18) O (bb0 hz) (c_X3_perform hm e19) mw_X3_perform im_X3_perform se_X3_perform ml_X10_73 kq_181 (by decide) rfl rfl rfl (by decide) (by decide) (Nat.le_of_ble_eq_true rfl) dX10_reckon_43 rfl rfl ?_
        refine v_iinc (pc := 46) (lv' := [(2, .int (x2 + 1)), (0, .ref (bo X + 189)), (1, .ref (bo X + a1))]) O dX10_reckon_46 2 rfl (congrArg (fun q => x2 + q) ic_1) (by rw [hn]; decide) rfl ?_
        refine v_goto (pc := 49) 5 O dX10_reckon_49 (by decide) ?_
        refine v_sub [1, 2, 0] rfl ?_
        exact ih (some a1) (x2 + 1) p18 h
def f_X10_reckon (N : Nat) (nu : Nat) (K : Nat → Nat) (x1 : Option Nat) (D : Dat) : Option (Dat) :=
  (x1).bind (fun a20 => if kd K a20 = 7 then (f_X10_reckon_b5 N nu K N (some a20) (dI D a20 4) D) else none)
set_option maxHeartbeats 4000000 in
theorem w_X10_reckon {X : Cx} {n nu c u : Nat} {K : Nat → Nat} {N : Nat} {z : Dat} (O : Ok X cX10_reckon RX10 none 4 87) (hm : wlm (xw X) = true) (hn : xn X = 3) (hz : Z0 X (Ax nu K c u)) (x1 : Option Nat) (D : Dat) (h : f_X10_reckon N nu K x1 D = some z) : V X (Q0 X n (Ax nu K c u) none z) n (Ax nu K c u) D 0 [(0, .ref (bo X + 189)), (1, rv (bo X) x1)] [] := by
  unfold f_X10_reckon at h
  refine v_aload_nr (pc := 0) O dX10_reckon_0 1 rfl ?_
  obtain ⟨a20, e21, h⟩ := bind_some h
  subst e21
  obtain ⟨c22, h⟩ := if_none h
  refine v_getI (pc := 1) (a := a20) O gf_X7_4 fl_X10_91 c22 dX10_reckon_1 ?_
  refine v_istore_n (pc := 4) (lv' := [(2, .int (dI D a20 4)), (0, .ref (bo X + 189)), (1, .ref (bo X + a20))]) O dX10_reckon_4 rfl (by rw [hn]; decide) rfl ?_
  refine v_sub [1, 2, 0] rfl ?_
  exact w_X10_reckon_b5 O hm hn hz N (some a20) (dI D a20 4) D h
theorem c_X10_reckon {l : Launch} {w : Wx} {n nu c u : Nat} {K : Nat → Nat} {N : Nat} (hm : wlm w = true) {x1 : Option Nat} {D : Dat} {z : Dat} (h : f_X10_reckon N nu K x1 D = some z) : C0 l w yX10_reckon cX10_reckon 3 none 4 87 [.ref (wb w + 189), rv (wb w) x1] n (Ax nu K c u) D none z :=
  C0.of (by decide) (by simp [lg_sl, rv_cat, cat_i, cat_l, cat_r, cat_n, fmt_cat]) (fun X e1 e2 e3 hz O => by
  subst e1
  subst e2
  have q : lv_args 0 [.ref (bo X + 189), rv (bo X) x1] = [(0, .ref (bo X + 189)), (1, rv (bo X) x1)] := by simp [lv_args, rv_cat, cat_i, cat_l, cat_r, cat_n, fmt_cat]
  show V X _ n _ D 0 (lv_args 0 [.ref (bo X + 189), rv (bo X) x1]) []
  rw [q]
  exact w_X10_reckon O hm e3 hz x1 D h)
def f_X8_goOverIf_b114 (rec : Option Nat → Int32 → Dat → Option (Dat)) (N : Nat) (nu : Nat) (K : Nat → Nat) (D : Dat) : Option (Dat) :=
  some D
set_option maxHeartbeats 4000000 in
theorem w_X8_goOverIf_b114 {X : Cx} {n nu c u : Nat} {K : Nat → Nat} {rec : Option Nat → Int32 → Dat → Option (Dat)} {N : Nat} {fr lc : Nat} {z : Dat} (O : Ok X cX8_goOverIf RX8 none (fr + 3) (lc + 66)) (hm : wlm (xw X) = true) (hn : xn X = 5) (hz : Z0 X (Ax nu K c u)) (hR : ∀ {n : Nat} {x1 : Option Nat} {x2 : Int32} {D : Dat} {z : Dat}, rec x1 x2 D = some z → C0 (xl X) (xw X) yX8_goThrough cX8_goThrough 4 none fr lc [.ref (wb (xw X) + 106), rv (wb (xw X)) x1, .int x2] n (Ax nu K c u) D none z) (D : Dat) (h : f_X8_goOverIf_b114 rec N nu K D = some z) : V X (Q0 X n (Ax nu K c u) none z) n (Ax nu K c u) D 114 [] [] := by
  unfold f_X8_goOverIf_b114 at h
  obtain rfl := Option.some.inj h
  exact v_ret (pc := 114) O hz dX8_goOverIf_114
def f_X8_goOverIf (rec : Option Nat → Int32 → Dat → Option (Dat)) (N : Nat) (nu : Nat) (K : Nat → Nat) (x1 : Option Nat) (x2 : Int32) (D : Dat) : Option (Dat) :=
  (f_X8_emitExpressions N nu K x1 D).bind (fun p1 => ((dR p1 106 1)).bind (fun a3 => if a3 = 201 ∨ a3 = 204 then ((f_X0_size a3 p1).bind (fun p6 => (f_X8_emit 11 0 p6.2).bind (fun p8 => (x1).bind (fun a10 => if kd K a10 = 7 then ((rec (dR p8 a10 6) (x2 + (1 : Int32)) p8).bind (fun p13 => if (dI p13 a10 8) = 0 then (((dR p13 106 1)).bind (fun a16 => if a16 = 201 ∨ a16 = 204 then ((f_X0_size a16 p13).bind (fun p19 => (f_X0_aim a16 p6.1 p19.1 p19.2).bind (fun p21 => f_X8_goOverIf_b114 rec N nu K p21))) else none)) else (((dR p13 106 1)).bind (fun a23 => if a23 = 201 ∨ a23 = 204 then ((f_X0_size a23 p13).bind (fun p26 => (f_X8_emit 12 0 p26.2).bind (fun p28 => ((dR p28 106 1)).bind (fun a30 => if a30 = 201 ∨ a30 = 204 then ((f_X0_size a30 p28).bind (fun p33 => (f_X0_aim a30 p6.1 p33.1 p33.2).bind (fun p35 => (rec (dR p35 a10 7) (x2 + (1 : Int32)) p35).bind (fun p37 => ((dR p37 106 1)).bind (fun a39 => if a39 = 201 ∨ a39 = 204 then ((f_X0_size a39 p37).bind (fun p42 => (f_X0_aim a39 p26.1 p42.1 p42.2).bind (fun p44 => f_X8_goOverIf_b114 rec N nu K p44))) else none))))) else none)))) else none)))) else none)))) else none))
set_option maxHeartbeats 4000000 in
theorem w_X8_goOverIf {X : Cx} {n nu c u : Nat} {K : Nat → Nat} {rec : Option Nat → Int32 → Dat → Option (Dat)} {N : Nat} {fr lc : Nat} {z : Dat} (O : Ok X cX8_goOverIf RX8 none (fr + 3) (lc + 66)) (hm : wlm (xw X) = true) (hn : xn X = 5) (hz : Z0 X (Ax nu K c u)) (hR : ∀ {n : Nat} {x1 : Option Nat} {x2 : Int32} {D : Dat} {z : Dat}, rec x1 x2 D = some z → C0 (xl X) (xw X) yX8_goThrough cX8_goThrough 4 none fr lc [.ref (wb (xw X) + 106), rv (wb (xw X)) x1, .int x2] n (Ax nu K c u) D none z) (x1 : Option Nat) (x2 : Int32) (D : Dat) (h : f_X8_goOverIf rec N nu K x1 x2 D = some z) : V X (Q0 X n (Ax nu K c u) none z) n (Ax nu K c u) D 0 [(0, .ref (bo X + 106)), (1, rv (bo X) x1), (2, .int x2)] [] := by
  unfold f_X8_goOverIf at h
  refine v_aload_n (pc := 0) O dX8_goOverIf_0 0 rfl ?_
  refine v_aload_nr (pc := 1) O dX8_goOverIf_1 1 rfl ?_
  obtain ⟨p1, e2, h⟩ := bind_some h
  refine v_callV (pc := 2) (a := 106) (As := [rv (bo X) x1]) (rest := []) (r := none) (D' := p1) O (bb0 hz) (c_X8_emitExpressions hm e2) mw_X8_emitExpressions im_X8_emitExpressions se_X8_emitExpressions ml_X8_68 kq_106 (by decide) rfl rfl rfl (by omega) (by omega) (Nat.le_of_ble_eq_true rfl) dX8_goOverIf_2 rfl rfl ?_
  refine v_aload_n (pc := 5) O dX8_goOverIf_5 0 rfl ?_
  refine v_getR (pc := 6) (a := 106) O gf_X8_1 fl_X8_15 kq_106 dX8_goOverIf_6 ?_
  obtain ⟨a3, e4, h⟩ := bind_some h
  rw [e4]
  obtain ⟨c5, h⟩ := if_none h
  obtain ⟨p6, e7, h⟩ := bind_some h
  refine v_callV (pc := 9) (a := a3) (As := []) (rest := []) (r := (some (.int p6.1))) (D' := p6.2) O (bb0 hz) (c_X0_size hm c5 e7) mw_X0_size im_X0_size se_X0_size ml_X8_74 (kt_X0 c5) (by decide) rfl rfl rfl (by omega) (by omega) (Nat.le_of_ble_eq_true rfl) dX8_goOverIf_9 rfl rfl ?_
  refine v_istore_n (pc := 12) (lv' := [(3, .int p6.1), (0, .ref (bo X + 106)), (1, rv (bo X) x1), (2, .int x2)]) O dX8_goOverIf_12 rfl (by rw [hn]; decide) rfl ?_
  refine v_aload_n (pc := 13) O dX8_goOverIf_13 1 rfl ?_
  refine v_bipush (pc := 14) O dX8_goOverIf_14 bp_11 ?_
  refine v_iconst (pc := 16) O dX8_goOverIf_16 ic_0 ?_
  obtain ⟨p8, e9, h⟩ := bind_some h
  refine v_callV (pc := 17) (a := 106) (As := [.int 11, .int 0]) (rest := []) (r := none) (D' := p8) O (bb0 hz) (c_X8_emit hm e9) mw_X8_emit im_X8_emit se_X8_emit ml_X8_38 kq_106 (by decide) rfl rfl rfl (by omega) (by omega) (Nat.le_of_ble_eq_true rfl) dX8_goOverIf_17 rfl rfl ?_
  refine v_aload_n (pc := 20) O dX8_goOverIf_20 1 rfl ?_
  refine v_aload_nr (pc := 21) O dX8_goOverIf_21 2 rfl ?_
  obtain ⟨a10, e11, h⟩ := bind_some h
  subst e11
  obtain ⟨c12, h⟩ := if_none h
  refine v_getR (pc := 22) (a := a10) O gf_X7_6 fl_X8_78 c12 dX8_goOverIf_22 ?_
  refine v_iload_n (pc := 25) O dX8_goOverIf_25 3 rfl ?_
  refine v_iconst (pc := 26) O dX8_goOverIf_26 ic_1 ?_
  refine v_iadd (pc := 27) O dX8_goOverIf_27 ?_
  obtain ⟨p13, e14, h⟩ := bind_some h
  refine v_callV (pc := 28) (a := 106) (As := [rv (bo X) (dR p8 a10 6), .int (x2 + (1 : Int32))]) (rest := []) (r := none) (D' := p13) O (bb0 hz) (hR e14) mw_X8_goThrough im_X8_goThrough se_X8_goThrough ml_X8_34 kq_106 (by decide) rfl rfl rfl (by omega) (by omega) (Nat.le_of_ble_eq_true rfl) dX8_goOverIf_28 rfl rfl ?_
  refine v_aload_n (pc := 31) O dX8_goOverIf_31 2 rfl ?_
  refine v_getI (pc := 32) (a := a10) O gf_X7_8 fl_X8_81 c12 dX8_goOverIf_32 ?_
  refine v_ifeq (pc := 35) 99 O dX8_goOverIf_35 (by decide) (fun c15 => ?_) (fun c15 => ?_)
  · have h := (if_pos c15).symm.trans h
    refine v_aload_n (pc := 99) O dX8_goOverIf_99 1 rfl ?_
    refine v_getR (pc := 100) (a := 106) O gf_X8_1 fl_X8_15 kq_106 dX8_goOverIf_100 ?_
    refine v_iload_n (pc := 103) O dX8_goOverIf_103 0 rfl ?_
    refine v_aload_n (pc := 104) O dX8_goOverIf_104 1 rfl ?_
    refine v_getR (pc := 105) (a := 106) O gf_X8_1 fl_X8_15 kq_106 dX8_goOverIf_105 ?_
    obtain ⟨a16, e17, h⟩ := bind_some h
    rw [e17]
    obtain ⟨c18, h⟩ := if_none h
    obtain ⟨p19, e20, h⟩ := bind_some h
    refine v_callV (pc := 108) (a := a16) (As := []) (rest := [.int p6.1, .ref (bo X + a16)]) (r := (some (.int p19.1))) (D' := p19.2) O (bb0 hz) (c_X0_size hm c18 e20) mw_X0_size im_X0_size se_X0_size ml_X8_74 (kt_X0 c18) (by decide) rfl rfl rfl (by omega) (by omega) (Nat.le_of_ble_eq_true rfl) dX8_goOverIf_108 rfl rfl ?_
    obtain ⟨p21, e22, h⟩ := bind_some h
    refine v_callV (pc := 111) (a := a16) (As := [.int p6.1, .int p19.1]) (rest := []) (r := none) (D' := p21) O (bb0 hz) (c_X0_aim hm c18 e22) mw_X0_aim im_X0_aim se_X0_aim ml_X8_84 (kt_X0 c18) (by decide) rfl rfl rfl (by omega) (by omega) (Nat.le_of_ble_eq_true rfl) dX8_goOverIf_111 rfl rfl ?_
    refine v_sub [] rfl ?_
    exact w_X8_goOverIf_b114 O hm hn hz hR p21 h
  · have h := (if_neg c15).symm.trans h
    refine v_aload_n (pc := 38) O dX8_goOverIf_38 1 rfl ?_
    refine v_getR (pc := 39) (a := 106) O gf_X8_1 fl_X8_15 kq_106 dX8_goOverIf_39 ?_
    obtain ⟨a23, e24, h⟩ := bind_some h
    rw [e24]
    obtain ⟨c25, h⟩ := if_none h
    obtain ⟨p26, e27, h⟩ := bind_some h
    refine v_callV (pc := 42) (a := a23) (As := []) (rest := []) (r := (some (.int p26.1))) (D' := p26.2) O (bb0 hz) (c_X0_size hm c25 e27) mw_X0_size im_X0_size se_X0_size ml_X8_74 (kt_X0 c25) (by decide) rfl rfl rfl (by omega) (by omega) (Nat.le_of_ble_eq_true rfl) dX8_goOverIf_42 rfl rfl ?_
    refine v_istore (pc := 45) (lv' := [(4, .int p26.1), (3, .int p6.1), (0, .ref (bo X + 106)), (1, .ref (bo X + a10)), (2, .int x2)]) O dX8_goOverIf_45 (by rw [hn]; decide) rfl ?_
    refine v_aload_n (pc := 47) O dX8_goOverIf_47 2 rfl ?_
    refine v_bipush (pc := 48) O dX8_goOverIf_48 bp_12 ?_
    refine v_iconst (pc := 50) O dX8_goOverIf_50 ic_0 ?_
    obtain ⟨p28, e29, h⟩ := bind_some h
    refine v_callV (pc := 51) (a := 106) (As := [.int 12, .int 0]) (rest := []) (r := none) (D' := p28) O (bb0 hz) (c_X8_emit hm e29) mw_X8_emit im_X8_emit se_X8_emit ml_X8_38 kq_106 (by decide) rfl rfl rfl (by omega) (by omega) (Nat.le_of_ble_eq_true rfl) dX8_goOverIf_51 rfl rfl ?_
    refine v_aload_n (pc := 54) O dX8_goOverIf_54 2 rfl ?_
    refine v_getR (pc := 55) (a := 106) O gf_X8_1 fl_X8_15 kq_106 dX8_goOverIf_55 ?_
    refine v_iload_n (pc := 58) O dX8_goOverIf_58 1 rfl ?_
    refine v_aload_n (pc := 59) O dX8_goOverIf_59 2 rfl ?_
    refine v_getR (pc := 60) (a := 106) O gf_X8_1 fl_X8_15 kq_106 dX8_goOverIf_60 ?_
    obtain ⟨a30, e31, h⟩ := bind_some h
    rw [e31]
    obtain ⟨c32, h⟩ := if_none h
    obtain ⟨p33, e34, h⟩ := bind_some h
    refine v_callV (pc := 63) (a := a30) (As := []) (rest := [.int p6.1, .ref (bo X + a30)]) (r := (some (.int p33.1))) (D' := p33.2) O (bb0 hz) (c_X0_size hm c32 e34) mw_X0_size im_X0_size se_X0_size ml_X8_74 (kt_X0 c32) (by decide) rfl rfl rfl (by omega) (by omega) (Nat.le_of_ble_eq_true rfl) dX8_goOverIf_63 rfl rfl ?_
    obtain ⟨p35, e36, h⟩ := bind_some h
    refine v_callV (pc := 66) (a := a30) (As := [.int p6.1, .int p33.1]) (rest := []) (r := none) (D' := p35) O (bb0 hz) (c_X0_aim hm c32 e36) mw_X0_aim im_X0_aim se_X0_aim ml_X8_84 (kt_X0 c32) (by decide) rfl rfl rfl (by omega) (by omega) (Nat.le_of_ble_eq_true rfl) dX8_goOverIf_66 rfl rfl ?_
    refine v_aload_n (pc := 69) O dX8_goOverIf_69 2 rfl ?_
    refine v_aload_n (pc := 70) O dX8_goOverIf_70 3 rfl ?_
    refine v_getR (pc := 71) (a := a10) O gf_X7_7 fl_X8_87 c12 dX8_goOverIf_71 ?_
    refine v_iload_n (pc := 74) O dX8_goOverIf_74 4 rfl ?_
    refine v_iconst (pc := 75) O dX8_goOverIf_75 ic_1 ?_
    refine v_iadd (pc := 76) O dX8_goOverIf_76 ?_
    obtain ⟨p37, e38, h⟩ := bind_some h
    refine v_callV (pc := 77) (a := 106) (As := [rv (bo X) (dR p35 a10 7), .int (x2 + (1 : Int32))]) (rest := []) (r := none) (D' := p37) O (bb0 hz) (hR e38) mw_X8_goThrough im_X8_goThrough se_X8_goThrough ml_X8_34 kq_106 (by decide) rfl rfl rfl (by omega) (by omega) (Nat.le_of_ble_eq_true rfl) dX8_goOverIf_77 rfl rfl ?_
    refine v_aload_n (pc := 80) O dX8_goOverIf_80 2 rfl ?_
    refine v_getR (pc := 81) (a := 106) O gf_X8_1 fl_X8_15 kq_106 dX8_goOverIf_81 ?_
    refine v_iload (pc := 84) O dX8_goOverIf_84 0 rfl ?_
    refine v_aload_n (pc := 86) O dX8_goOverIf_86 2 rfl ?_
    refine v_getR (pc := 87) (a := 106) O gf_X8_1 fl_X8_15 kq_106 dX8_goOverIf_87 ?_
    obtain ⟨a39, e40, h⟩ := bind_some h
    rw [e40]
    obtain ⟨c41, h⟩ := if_none h
    obtain ⟨p42, e43, h⟩ := bind_some h
    refine v_callV (pc := 90) (a := a39) (As := []) (rest := [.int p26.1, .ref (bo X + a39)]) (r := (some (.int p42.1))) (D' := p42.2) O (bb0 hz) (c_X0_size hm c41 e43) mw_X0_size im_X0_size se_X0_size ml_X8_74 (kt_X0 c41) (by decide) rfl rfl rfl (by omega) (by omega) (Nat.le_of_ble_eq_true rfl) dX8_goOverIf_90 rfl rfl ?_
    obtain ⟨p44, e45, h⟩ := bind_some h
    refine v_callV (pc := 93) (a := a39) (As := [.int p26.1, .int p42.1]) (rest := []) (r := none) (D' := p44) O (bb0 hz) (c_X0_aim hm c41 e45) mw_X0_aim im_X0_aim se_X0_aim ml_X8_84 (kt_X0 c41) (by decide) rfl rfl rfl (by omega) (by omega) (Nat.le_of_ble_eq_true rfl) dX8_goOverIf_93 rfl rfl ?_
    refine v_goto (pc := 96) 114 O dX8_goOverIf_96 (by decide) ?_
    refine v_sub [] rfl ?_
    exact w_X8_goOverIf_b114 O hm hn hz hR p44 h
theorem c_X8_goOverIf {l : Launch} {w : Wx} {n nu c u : Nat} {K : Nat → Nat} {rec : Option Nat → Int32 → Dat → Option (Dat)} {N : Nat} {fr lc : Nat} (hm : wlm w = true) (hR : ∀ {n : Nat} {x1 : Option Nat} {x2 : Int32} {D : Dat} {z : Dat}, rec x1 x2 D = some z → C0 l w yX8_goThrough cX8_goThrough 4 none fr lc [.ref (wb w + 106), rv (wb w) x1, .int x2] n (Ax nu K c u) D none z) {x1 : Option Nat} {x2 : Int32} {D : Dat} {z : Dat} (h : f_X8_goOverIf rec N nu K x1 x2 D = some z) : C0 l w yX8_goOverIf cX8_goOverIf 5 none (fr + 3) (lc + 66) [.ref (wb w + 106), rv (wb w) x1, .int x2] n (Ax nu K c u) D none z :=
  C0.of (by decide) (by simp [lg_sl, rv_cat, cat_i, cat_l, cat_r, cat_n, fmt_cat]) (fun X e1 e2 e3 hz O => by
  subst e1
  subst e2
  have q : lv_args 0 [.ref (bo X + 106), rv (bo X) x1, .int x2] = [(0, .ref (bo X + 106)), (1, rv (bo X) x1), (2, .int x2)] := by simp [lv_args, rv_cat, cat_i, cat_l, cat_r, cat_n, fmt_cat]
  show V X _ n _ D 0 (lv_args 0 [.ref (bo X + 106), rv (bo X) x1, .int x2]) []
  rw [q]
  exact w_X8_goOverIf O hm e3 hz hR x1 x2 D h)
def f_X8_goOverWhile (rec : Option Nat → Int32 → Dat → Option (Dat)) (N : Nat) (nu : Nat) (K : Nat → Nat) (x1 : Option Nat) (x2 : Int32) (D : Dat) : Option (Dat) :=
  ((dR D 106 1)).bind (fun a1 => if a1 = 201 ∨ a1 = 204 then ((f_X0_size a1 D).bind (fun p4 => (f_X8_emitExpressions N nu K x1 p4.2).bind (fun p6 => ((dR p6 106 1)).bind (fun a8 => if a8 = 201 ∨ a8 = 204 then ((f_X0_size a8 p6).bind (fun p11 => (f_X8_emit 11 0 p11.2).bind (fun p13 => (x1).bind (fun a15 => if kd K a15 = 7 then ((rec (dR p13 a15 6) (x2 + (1 : Int32)) p13).bind (fun p18 => (f_X8_emit 12 p4.1 p18).bind (fun p20 => ((dR p20 106 1)).bind (fun a22 => if a22 = 201 ∨ a22 = 204 then ((f_X0_size a22 p20).bind (fun p25 => (f_X0_aim a22 p11.1 p25.1 p25.2).bind (fun p27 => some p27))) else none)))) else none)))) else none)))) else none)
set_option maxHeartbeats 4000000 in
theorem w_X8_goOverWhile {X : Cx} {n nu c u : Nat} {K : Nat → Nat} {rec : Option Nat → Int32 → Dat → Option (Dat)} {N : Nat} {fr lc : Nat} {z : Dat} (O : Ok X cX8_goOverWhile RX8 none (fr + 3) (lc + 66)) (hm : wlm (xw X) = true) (hn : xn X = 5) (hz : Z0 X (Ax nu K c u)) (hR : ∀ {n : Nat} {x1 : Option Nat} {x2 : Int32} {D : Dat} {z : Dat}, rec x1 x2 D = some z → C0 (xl X) (xw X) yX8_goThrough cX8_goThrough 4 none fr lc [.ref (wb (xw X) + 106), rv (wb (xw X)) x1, .int x2] n (Ax nu K c u) D none z) (x1 : Option Nat) (x2 : Int32) (D : Dat) (h : f_X8_goOverWhile rec N nu K x1 x2 D = some z) : V X (Q0 X n (Ax nu K c u) none z) n (Ax nu K c u) D 0 [(0, .ref (bo X + 106)), (1, rv (bo X) x1), (2, .int x2)] [] := by
  unfold f_X8_goOverWhile at h
  refine v_aload_n (pc := 0) O dX8_goOverWhile_0 0 rfl ?_
  refine v_getR (pc := 1) (a := 106) O gf_X8_1 fl_X8_15 kq_106 dX8_goOverWhile_1 ?_
  obtain ⟨a1, e2, h⟩ := bind_some h
  rw [e2]
  obtain ⟨c3, h⟩ := if_none h
  obtain ⟨p4, e5, h⟩ := bind_some h
  refine v_callV (pc := 4) (a := a1) (As := []) (rest := []) (r := (some (.int p4.1))) (D' := p4.2) O (bb0 hz) (c_X0_size hm c3 e5) mw_X0_size im_X0_size se_X0_size ml_X8_74 (kt_X0 c3) (by decide) rfl rfl rfl (by omega) (by omega) (Nat.le_of_ble_eq_true rfl) dX8_goOverWhile_4 rfl rfl ?_
  refine v_istore_n (pc := 7) (lv' := [(3, .int p4.1), (0, .ref (bo X + 106)), (1, rv (bo X) x1), (2, .int x2)]) O dX8_goOverWhile_7 rfl (by rw [hn]; decide) rfl ?_
  refine v_aload_n (pc := 8) O dX8_goOverWhile_8 1 rfl ?_
  refine v_aload_nr (pc := 9) O dX8_goOverWhile_9 2 rfl ?_
  obtain ⟨p6, e7, h⟩ := bind_some h
  refine v_callV (pc := 10) (a := 106) (As := [rv (bo X) x1]) (rest := []) (r := none) (D' := p6) O (bb0 hz) (c_X8_emitExpressions hm e7) mw_X8_emitExpressions im_X8_emitExpressions se_X8_emitExpressions ml_X8_68 kq_106 (by decide) rfl rfl rfl (by omega) (by omega) (Nat.le_of_ble_eq_true rfl) dX8_goOverWhile_10 rfl rfl ?_
  refine v_aload_n (pc := 13) O dX8_goOverWhile_13 1 rfl ?_
  refine v_getR (pc := 14) (a := 106) O gf_X8_1 fl_X8_15 kq_106 dX8_goOverWhile_14 ?_
  obtain ⟨a8, e9, h⟩ := bind_some h
  rw [e9]
  obtain ⟨c10, h⟩ := if_none h
  obtain ⟨p11, e12, h⟩ := bind_some h
  refine v_callV (pc := 17) (a := a8) (As := []) (rest := []) (r := (some (.int p11.1))) (D' := p11.2) O (bb0 hz) (c_X0_size hm c10 e12) mw_X0_size im_X0_size se_X0_size ml_X8_74 (kt_X0 c10) (by decide) rfl rfl rfl (by omega) (by omega) (Nat.le_of_ble_eq_true rfl) dX8_goOverWhile_17 rfl rfl ?_
  refine v_istore (pc := 20) (lv' := [(4, .int p11.1), (3, .int p4.1), (0, .ref (bo X + 106)), (1, rv (bo X) x1), (2, .int x2)]) O dX8_goOverWhile_20 (by rw [hn]; decide) rfl ?_
  refine v_aload_n (pc := 22) O dX8_goOverWhile_22 2 rfl ?_
  refine v_bipush (pc := 23) O dX8_goOverWhile_23 bp_11 ?_
  refine v_iconst (pc := 25) O dX8_goOverWhile_25 ic_0 ?_
  obtain ⟨p13, e14, h⟩ := bind_some h
  refine v_callV (pc := 26) (a := 106) (As := [.int 11, .int 0]) (rest := []) (r := none) (D' := p13) O (bb0 hz) (c_X8_emit hm e14) mw_X8_emit im_X8_emit se_X8_emit ml_X8_38 kq_106 (by decide) rfl rfl rfl (by omega) (by omega) (Nat.le_of_ble_eq_true rfl) dX8_goOverWhile_26 rfl rfl ?_
  refine v_aload_n (pc := 29) O dX8_goOverWhile_29 2 rfl ?_
  refine v_aload_nr (pc := 30) O dX8_goOverWhile_30 3 rfl ?_
  obtain ⟨a15, e16, h⟩ := bind_some h
  subst e16
  obtain ⟨c17, h⟩ := if_none h
  refine v_getR (pc := 31) (a := a15) O gf_X7_6 fl_X8_78 c17 dX8_goOverWhile_31 ?_
  refine v_iload_n (pc := 34) O dX8_goOverWhile_34 4 rfl ?_
  refine v_iconst (pc := 35) O dX8_goOverWhile_35 ic_1 ?_
  refine v_iadd (pc := 36) O dX8_goOverWhile_36 ?_
  obtain ⟨p18, e19, h⟩ := bind_some h
  refine v_callV (pc := 37) (a := 106) (As := [rv (bo X) (dR p13 a15 6), .int (x2 + (1 : Int32))]) (rest := []) (r := none) (D' := p18) O (bb0 hz) (hR e19) mw_X8_goThrough im_X8_goThrough se_X8_goThrough ml_X8_34 kq_106 (by decide) rfl rfl rfl (by omega) (by omega) (Nat.le_of_ble_eq_true rfl) dX8_goOverWhile_37 rfl rfl ?_
  refine v_aload_n (pc := 40) O dX8_goOverWhile_40 2 rfl ?_
  refine v_bipush (pc := 41) O dX8_goOverWhile_41 bp_12 ?_
  refine v_iload_n (pc := 43) O dX8_goOverWhile_43 1 rfl ?_
  obtain ⟨p20, e21, h⟩ := bind_some h
  refine v_callV (pc := 44) (a := 106) (As := [.int 12, .int p4.1]) (rest := []) (r := none) (D' := p20) O (bb0 hz) (c_X8_emit hm e21) mw_X8_emit im_X8_emit se_X8_emit ml_X8_38 kq_106 (by decide) rfl rfl rfl (by omega) (by omega) (Nat.le_of_ble_eq_true rfl) dX8_goOverWhile_44 rfl rfl ?_
  refine v_aload_n (pc := 47) O dX8_goOverWhile_47 2 rfl ?_
  refine v_getR (pc := 48) (a := 106) O gf_X8_1 fl_X8_15 kq_106 dX8_goOverWhile_48 ?_
  refine v_iload (pc := 51) O dX8_goOverWhile_51 0 rfl ?_
  refine v_aload_n (pc := 53) O dX8_goOverWhile_53 2 rfl ?_
  refine v_getR (pc := 54) (a := 106) O gf_X8_1 fl_X8_15 kq_106 dX8_goOverWhile_54 ?_
  obtain ⟨a22, e23, h⟩ := bind_some h
  rw [e23]
  obtain ⟨c24, h⟩ := if_none h
  obtain ⟨p25, e26, h⟩ := bind_some h
  refine v_callV (pc := 57) (a := a22) (As := []) (rest := [.int p11.1, .ref (bo X + a22)]) (r := (some (.int p25.1))) (D' := p25.2) O (bb0 hz) (c_X0_size hm c24 e26) mw_X0_size im_X0_size se_X0_size ml_X8_74 (kt_X0 c24) (by decide) rfl rfl rfl (by omega) (by omega) (Nat.le_of_ble_eq_true rfl) dX8_goOverWhile_57 rfl rfl ?_
  obtain ⟨p27, e28, h⟩ := bind_some h
  refine v_callV (pc := 60) (a := a22) (As := [.int p11.1, .int p25.1]) (rest := []) (r := none) (D' := p27) O (bb0 hz) (c_X0_aim hm c24 e28) mw_X0_aim im_X0_aim se_X0_aim ml_X8_84 (kt_X0 c24) (by decide) rfl rfl rfl (by omega) (by omega) (Nat.le_of_ble_eq_true rfl) dX8_goOverWhile_60 rfl rfl ?_
  obtain rfl := Option.some.inj h
  exact v_ret (pc := 63) O hz dX8_goOverWhile_63
theorem c_X8_goOverWhile {l : Launch} {w : Wx} {n nu c u : Nat} {K : Nat → Nat} {rec : Option Nat → Int32 → Dat → Option (Dat)} {N : Nat} {fr lc : Nat} (hm : wlm w = true) (hR : ∀ {n : Nat} {x1 : Option Nat} {x2 : Int32} {D : Dat} {z : Dat}, rec x1 x2 D = some z → C0 l w yX8_goThrough cX8_goThrough 4 none fr lc [.ref (wb w + 106), rv (wb w) x1, .int x2] n (Ax nu K c u) D none z) {x1 : Option Nat} {x2 : Int32} {D : Dat} {z : Dat} (h : f_X8_goOverWhile rec N nu K x1 x2 D = some z) : C0 l w yX8_goOverWhile cX8_goOverWhile 5 none (fr + 3) (lc + 66) [.ref (wb w + 106), rv (wb w) x1, .int x2] n (Ax nu K c u) D none z :=
  C0.of (by decide) (by simp [lg_sl, rv_cat, cat_i, cat_l, cat_r, cat_n, fmt_cat]) (fun X e1 e2 e3 hz O => by
  subst e1
  subst e2
  have q : lv_args 0 [.ref (bo X + 106), rv (bo X) x1, .int x2] = [(0, .ref (bo X + 106)), (1, rv (bo X) x1), (2, .int x2)] := by simp [lv_args, rv_cat, cat_i, cat_l, cat_r, cat_n, fmt_cat]
  show V X _ n _ D 0 (lv_args 0 [.ref (bo X + 106), rv (bo X) x1, .int x2]) []
  rw [q]
  exact w_X8_goOverWhile O hm e3 hz hR x1 x2 D h)
def f_X8_goThrough_s_b104 (rec : Option Nat → Int32 → Dat → Option (Dat)) (N : Nat) (nu : Nat) (K : Nat → Nat) (D : Dat) : Option (Dat) :=
  some D
set_option maxHeartbeats 4000000 in
theorem w_X8_goThrough_s_b104 {X : Cx} {n nu c u : Nat} {K : Nat → Nat} {rec : Option Nat → Int32 → Dat → Option (Dat)} {N : Nat} {fr lc : Nat} {z : Dat} (O : Ok X cX8_goThrough RX8 none (fr + 4) (lc + 90)) (hm : wlm (xw X) = true) (hn : xn X = 4) (hz : Z0 X (Ax nu K c u)) (hR : ∀ {n : Nat} {x1 : Option Nat} {x2 : Int32} {D : Dat} {z : Dat}, rec x1 x2 D = some z → C0 (xl X) (xw X) yX8_goThrough cX8_goThrough 4 none fr lc [.ref (wb (xw X) + 106), rv (wb (xw X)) x1, .int x2] n (Ax nu K c u) D none z) (D : Dat) (h : f_X8_goThrough_s_b104 rec N nu K D = some z) : V X (Q0 X n (Ax nu K c u) none z) n (Ax nu K c u) D 104 [] [] := by
  unfold f_X8_goThrough_s_b104 at h
  obtain rfl := Option.some.inj h
  exact v_ret (pc := 104) O hz dX8_goThrough_104
def f_X8_goThrough_s_b96 (rec : Option Nat → Int32 → Dat → Option (Dat)) (N : Nat) (nu : Nat) (K : Nat → Nat) (rec_9 : Int32 → Option Nat → Dat → Option (Dat)) (x2 : Int32) (x3 : Option Nat) (D : Dat) : Option (Dat) :=
  (x3).bind (fun a1 => if kd K a1 = 7 then (rec_9 x2 (dR D a1 9) D) else none)
set_option maxHeartbeats 4000000 in
theorem w_X8_goThrough_s_b96 {X : Cx} {n nu c u : Nat} {K : Nat → Nat} {rec : Option Nat → Int32 → Dat → Option (Dat)} {N : Nat} {fr lc : Nat} {rec_9 : Int32 → Option Nat → Dat → Option (Dat)} {z : Dat} (O : Ok X cX8_goThrough RX8 none (fr + 4) (lc + 90)) (hm : wlm (xw X) = true) (hn : xn X = 4) (hz : Z0 X (Ax nu K c u)) (hR : ∀ {n : Nat} {x1 : Option Nat} {x2 : Int32} {D : Dat} {z : Dat}, rec x1 x2 D = some z → C0 (xl X) (xw X) yX8_goThrough cX8_goThrough 4 none fr lc [.ref (wb (xw X) + 106), rv (wb (xw X)) x1, .int x2] n (Ax nu K c u) D none z) (hrec_9 : ∀ (x2 : Int32) (x3 : Option Nat) (D : Dat), rec_9 x2 x3 D = some z → V X (Q0 X n (Ax nu K c u) none z) n (Ax nu K c u) D 9 [(0, .ref (bo X + 106)), (2, .int x2), (3, rv (bo X) x3)] []) (x2 : Int32) (x3 : Option Nat) (D : Dat) (h : f_X8_goThrough_s_b96 rec N nu K rec_9 x2 x3 D = some z) : V X (Q0 X n (Ax nu K c u) none z) n (Ax nu K c u) D 96 [(0, .ref (bo X + 106)), (2, .int x2), (3, rv (bo X) x3)] [] := by
  unfold f_X8_goThrough_s_b96 at h
  refine v_aload_nr (pc := 96) O dX8_goThrough_96 2 rfl ?_
  obtain ⟨a1, e2, h⟩ := bind_some h
  subst e2
  obtain ⟨c3, h⟩ := if_none h
  refine v_getR (pc := 97) (a := a1) O gf_X7_9 fl_X8_65 c3 dX8_goThrough_97 ?_
  refine v_astore_nr (pc := 100) (lv' := [(3, rv (bo X) (dR D a1 9)), (0, .ref (bo X + 106)), (2, .int x2)]) O dX8_goThrough_100 rfl (by rw [hn]; decide) rfl ?_
  refine v_goto (pc := 101) 9 O dX8_goThrough_101 (by decide) ?_
  refine v_sub [1, 2, 0] rfl ?_
  exact hrec_9 x2 (dR D a1 9) D h
def f_X8_goThrough_s_b9 (rec : Option Nat → Int32 → Dat → Option (Dat)) (N : Nat) (nu : Nat) (K : Nat → Nat) : Nat → Int32 → Option Nat → Dat → Option (Dat)
  | 0, _, _, _ => none
  | g + 1, x2, x3, D => oel x3 (f_X8_goThrough_s_b104 rec N nu K D) (fun a4 => if (dI D 106 2) = 0 then (if kd K a4 = 7 then (if (dI D a4 0) = (16 : Int32) then ((f_X8_goOverIf rec N nu K (some a4) x2 D).bind (fun p9 => f_X8_goThrough_s_b96 rec N nu K (f_X8_goThrough_s_b9 rec N nu K g) x2 (some a4) p9)) else (if (dI D a4 0) = (17 : Int32) then ((f_X8_goOverWhile rec N nu K (some a4) x2 D).bind (fun p12 => f_X8_goThrough_s_b96 rec N nu K (f_X8_goThrough_s_b9 rec N nu K g) x2 (some a4) p12)) else (if (dI D a4 0) = (18 : Int32) then (((dR D 106 0)).bind (fun a15 => if a15 = 191 ∨ a15 = 196 then ((f_X4_proc a15 (dI D a4 2) D).bind (fun p18 => (rec p18.1 (x2 + (1 : Int32)) p18.2).bind (fun p20 => f_X8_goThrough_s_b96 rec N nu K (f_X8_goThrough_s_b9 rec N nu K g) x2 (some a4) p20))) else none)) else ((f_X8_goOverPlain N nu K (some a4) D).bind (fun p22 => f_X8_goThrough_s_b96 rec N nu K (f_X8_goThrough_s_b9 rec N nu K g) x2 (some a4) p22))))) else none) else (f_X8_goThrough_s_b104 rec N nu K D))
set_option maxHeartbeats 4000000 in
theorem w_X8_goThrough_s_b9 {X : Cx} {n nu c u : Nat} {K : Nat → Nat} {rec : Option Nat → Int32 → Dat → Option (Dat)} {N : Nat} {fr lc : Nat} {z : Dat} (O : Ok X cX8_goThrough RX8 none (fr + 4) (lc + 90)) (hm : wlm (xw X) = true) (hn : xn X = 4) (hz : Z0 X (Ax nu K c u)) (hR : ∀ {n : Nat} {x1 : Option Nat} {x2 : Int32} {D : Dat} {z : Dat}, rec x1 x2 D = some z → C0 (xl X) (xw X) yX8_goThrough cX8_goThrough 4 none fr lc [.ref (wb (xw X) + 106), rv (wb (xw X)) x1, .int x2] n (Ax nu K c u) D none z) : ∀ (g : Nat) (x2 : Int32) (x3 : Option Nat) (D : Dat), f_X8_goThrough_s_b9 rec N nu K g x2 x3 D = some z → V X (Q0 X n (Ax nu K c u) none z) n (Ax nu K c u) D 9 [(0, .ref (bo X + 106)), (2, .int x2), (3, rv (bo X) x3)] [] := by
  intro g
  induction g with
  | zero => intro x2 x3 D h; exact absurd h (by simp [f_X8_goThrough_s_b9])
  | succ g ih =>
    intro x2 x3 D h
    rw [f_X8_goThrough_s_b9] at h
    refine v_aload_nr (pc := 9) O dX8_goThrough_9 2 rfl ?_
    refine v_ifnull (pc := 10) 104 O dX8_goThrough_10 (by decide) (fun e5 => ?_) (fun a4 e5 => ?_)
    · subst e5
      have h := onone h
      refine v_sub [] rfl ?_
      exact w_X8_goThrough_s_b104 O hm hn hz hR D h
    · subst e5
      have h := osome h
      refine v_aload_n (pc := 13) O dX8_goThrough_13 0 rfl ?_
      refine v_getI (pc := 14) (a := 106) O gf_X8_2 fl_X8_24 kq_106 dX8_goThrough_14 ?_
      refine v_ifne (pc := 17) 104 O dX8_goThrough_17 (by decide) (fun c6 => ?_) (fun c6 => ?_)
      · have h := (if_neg c6).symm.trans h
        refine v_sub [] rfl ?_
        exact w_X8_goThrough_s_b104 O hm hn hz hR D h
      · have h := (if_pos c6).symm.trans h
        refine v_aload_n (pc := 20) O dX8_goThrough_20 2 rfl ?_
        obtain ⟨c7, h⟩ := if_none h
        refine v_getI (pc := 21) (a := a4) O gf_X7_0 fl_X8_42 c7 dX8_goThrough_21 ?_
        by_cases c8 : (dI D a4 0) = (16 : Int32)
        · have h := (if_pos c8).symm.trans h
          refine v_tableIn (pc := 24) 52 O dX8_goThrough_24 (by rw [c8]; decide) (by rw [c8]; decide) (by rw [c8]; rfl) (by decide) ?_
          refine v_aload_n (pc := 52) O dX8_goThrough_52 0 rfl ?_
          refine v_aload_n (pc := 53) O dX8_goThrough_53 2 rfl ?_
          refine v_iload_n (pc := 54) O dX8_goThrough_54 1 rfl ?_
          obtain ⟨p9, e10, h⟩ := bind_some h
          refine v_callV (pc := 55) (a := 106) (As := [.ref (bo X + a4), .int x2]) (rest := []) (r := none) (D' := p9) O (bb0 hz) (c_X8_goOverIf hm hR e10) mw_X8_goOverIf im_X8_goOverIf se_X8_goOverIf ml_X8_48 kq_106 (by decide) rfl rfl rfl (by omega) (by omega) (Nat.le_of_ble_eq_true rfl) dX8_goThrough_55 rfl rfl ?_
          refine v_goto (pc := 58) 96 O dX8_goThrough_58 (by decide) ?_
          refine v_sub [0, 1, 2] rfl ?_
          exact w_X8_goThrough_s_b96 O hm hn hz hR ih x2 (some a4) p9 h
        · have h := (if_neg c8).symm.trans h
          by_cases c11 : (dI D a4 0) = (17 : Int32)
          · have h := (if_pos c11).symm.trans h
            refine v_tableIn (pc := 24) 61 O dX8_goThrough_24 (by rw [c11]; decide) (by rw [c11]; decide) (by rw [c11]; rfl) (by decide) ?_
            refine v_aload_n (pc := 61) O dX8_goThrough_61 0 rfl ?_
            refine v_aload_n (pc := 62) O dX8_goThrough_62 2 rfl ?_
            refine v_iload_n (pc := 63) O dX8_goThrough_63 1 rfl ?_
            obtain ⟨p12, e13, h⟩ := bind_some h
            refine v_callV (pc := 64) (a := 106) (As := [.ref (bo X + a4), .int x2]) (rest := []) (r := none) (D' := p12) O (bb0 hz) (c_X8_goOverWhile hm hR e13) mw_X8_goOverWhile im_X8_goOverWhile se_X8_goOverWhile ml_X8_51 kq_106 (by decide) rfl rfl rfl (by omega) (by omega) (Nat.le_of_ble_eq_true rfl) dX8_goThrough_64 rfl rfl ?_
            refine v_goto (pc := 67) 96 O dX8_goThrough_67 (by decide) ?_
            refine v_sub [0, 1, 2] rfl ?_
            exact w_X8_goThrough_s_b96 O hm hn hz hR ih x2 (some a4) p12 h
          · have h := (if_neg c11).symm.trans h
            by_cases c14 : (dI D a4 0) = (18 : Int32)
            · have h := (if_pos c14).symm.trans h
              refine v_tableIn (pc := 24) 70 O dX8_goThrough_24 (by rw [c14]; decide) (by rw [c14]; decide) (by rw [c14]; rfl) (by decide) ?_
              refine v_aload_n (pc := 70) O dX8_goThrough_70 0 rfl ?_
              refine v_aload_n (pc := 71) O dX8_goThrough_71 0 rfl ?_
              refine v_getR (pc := 72) (a := 106) O gf_X8_0 fl_X8_9 kq_106 dX8_goThrough_72 ?_
              refine v_aload_n (pc := 75) O dX8_goThrough_75 2 rfl ?_
              refine v_getI (pc := 76) (a := a4) O gf_X7_2 fl_X8_54 c7 dX8_goThrough_76 ?_
              obtain ⟨a15, e16, h⟩ := bind_some h
              rw [e16]
              obtain ⟨c17, h⟩ := if_none h
              obtain ⟨p18, e19, h⟩ := bind_some h
              refine v_callV (pc := 79) (a := a15) (As := [.int (dI D a4 2)]) (rest := [.ref (bo X + 106)]) (r := (some (rv (bo X) p18.1))) (D' := p18.2) O (bb0 hz) (c_X4_proc hm c17 e19) mw_X4_proc im_X4_proc se_X4_proc ml_X8_57 (kt_X4 c17) (by decide) rfl rfl rfl (by omega) (by omega) (Nat.le_of_ble_eq_true rfl) dX8_goThrough_79 rfl rfl ?_
              refine v_iload_n (pc := 82) O dX8_goThrough_82 1 rfl ?_
              refine v_iconst (pc := 83) O dX8_goThrough_83 ic_1 ?_
              refine v_iadd (pc := 84) O dX8_goThrough_84 ?_
              obtain ⟨p20, e21, h⟩ := bind_some h
              refine v_callV (pc := 85) (a := 106) (As := [rv (bo X) p18.1, .int (x2 + (1 : Int32))]) (rest := []) (r := none) (D' := p20) O (bb0 hz) (hR e21) mw_X8_goThrough im_X8_goThrough se_X8_goThrough ml_X8_34 kq_106 (by decide) rfl rfl rfl (by omega) (by omega) (Nat.le_of_ble_eq_true rfl) dX8_goThrough_85 rfl rfl ?_
              refine v_goto (pc := 88) 96 O dX8_goThrough_88 (by decide) ?_
              refine v_sub [0, 1, 2] rfl ?_
              exact w_X8_goThrough_s_b96 O hm hn hz hR ih x2 (some a4) p20 h
            · have h := (if_neg c14).symm.trans h
              refine v_tableOut (pc := 24) 91 O dX8_goThrough_24 (by have c8i := ne_i (16) rfl c8; have c11i := ne_i (17) rfl c11; have c14i := ne_i (18) rfl c14; omega) (by decide) ?_
              refine v_aload_n (pc := 91) O dX8_goThrough_91 0 rfl ?_
              refine v_aload_n (pc := 92) O dX8_goThrough_92 2 rfl ?_
              obtain ⟨p22, e23, h⟩ := bind_some h
              refine v_callV (pc := 93) (a := 106) (As := [.ref (bo X + a4)]) (rest := []) (r := none) (D' := p22) O (bb0 hz) (c_X8_goOverPlain hm e23) mw_X8_goOverPlain im_X8_goOverPlain se_X8_goOverPlain ml_X8_61 kq_106 (by decide) rfl rfl rfl (by omega) (by omega) (Nat.le_of_ble_eq_true rfl) dX8_goThrough_93 rfl rfl ?_
              refine v_sub [0, 1, 2] rfl ?_
              exact w_X8_goThrough_s_b96 O hm hn hz hR ih x2 (some a4) p22 h
def f_X8_goThrough_s (rec : Option Nat → Int32 → Dat → Option (Dat)) (N : Nat) (nu : Nat) (K : Nat → Nat) (x1 : Option Nat) (x2 : Int32) (D : Dat) : Option (Dat) :=
  if x2 < 48 then (f_X8_goThrough_s_b9 rec N nu K N x2 x1 D) else (some D)
set_option maxHeartbeats 4000000 in
theorem w_X8_goThrough_s {X : Cx} {n nu c u : Nat} {K : Nat → Nat} {rec : Option Nat → Int32 → Dat → Option (Dat)} {N : Nat} {fr lc : Nat} {z : Dat} (O : Ok X cX8_goThrough RX8 none (fr + 4) (lc + 90)) (hm : wlm (xw X) = true) (hn : xn X = 4) (hz : Z0 X (Ax nu K c u)) (hR : ∀ {n : Nat} {x1 : Option Nat} {x2 : Int32} {D : Dat} {z : Dat}, rec x1 x2 D = some z → C0 (xl X) (xw X) yX8_goThrough cX8_goThrough 4 none fr lc [.ref (wb (xw X) + 106), rv (wb (xw X)) x1, .int x2] n (Ax nu K c u) D none z) (x1 : Option Nat) (x2 : Int32) (D : Dat) (h : f_X8_goThrough_s rec N nu K x1 x2 D = some z) : V X (Q0 X n (Ax nu K c u) none z) n (Ax nu K c u) D 0 [(0, .ref (bo X + 106)), (1, rv (bo X) x1), (2, .int x2)] [] := by
  unfold f_X8_goThrough_s at h
  refine v_iload_n (pc := 0) O dX8_goThrough_0 2 rfl ?_
  refine v_bipush (pc := 1) O dX8_goThrough_1 bp_48 ?_
  refine v_icmplt (pc := 3) 7 O dX8_goThrough_3 (by decide) (fun c24 => ?_) (fun c24 => ?_)
  · have h := (if_pos c24).symm.trans h
    refine v_aload_nr (pc := 7) O dX8_goThrough_7 1 rfl ?_
    refine v_astore_nr (pc := 8) (lv' := [(3, rv (bo X) x1), (0, .ref (bo X + 106)), (1, rv (bo X) x1), (2, .int x2)]) O dX8_goThrough_8 rfl (by rw [hn]; decide) rfl ?_
    refine v_sub [1, 3, 0] rfl ?_
    exact w_X8_goThrough_s_b9 O hm hn hz hR N x2 x1 D h
  · have h := (if_neg c24).symm.trans h
    obtain rfl := Option.some.inj h
    exact v_ret (pc := 6) O hz dX8_goThrough_6
theorem c_X8_goThrough_s {l : Launch} {w : Wx} {n nu c u : Nat} {K : Nat → Nat} {rec : Option Nat → Int32 → Dat → Option (Dat)} {N : Nat} {fr lc : Nat} (hm : wlm w = true) (hR : ∀ {n : Nat} {x1 : Option Nat} {x2 : Int32} {D : Dat} {z : Dat}, rec x1 x2 D = some z → C0 l w yX8_goThrough cX8_goThrough 4 none fr lc [.ref (wb w + 106), rv (wb w) x1, .int x2] n (Ax nu K c u) D none z) {x1 : Option Nat} {x2 : Int32} {D : Dat} {z : Dat} (h : f_X8_goThrough_s rec N nu K x1 x2 D = some z) : C0 l w yX8_goThrough cX8_goThrough 4 none (fr + 4) (lc + 90) [.ref (wb w + 106), rv (wb w) x1, .int x2] n (Ax nu K c u) D none z :=
  C0.of (by decide) (by simp [lg_sl, rv_cat, cat_i, cat_l, cat_r, cat_n, fmt_cat]) (fun X e1 e2 e3 hz O => by
  subst e1
  subst e2
  have q : lv_args 0 [.ref (bo X + 106), rv (bo X) x1, .int x2] = [(0, .ref (bo X + 106)), (1, rv (bo X) x1), (2, .int x2)] := by simp [lv_args, rv_cat, cat_i, cat_l, cat_r, cat_n, fmt_cat]
  show V X _ n _ D 0 (lv_args 0 [.ref (bo X + 106), rv (bo X) x1, .int x2]) []
  rw [q]
  exact w_X8_goThrough_s O hm e3 hz hR x1 x2 D h)
def f_X8_goThrough (N : Nat) (nu : Nat) (K : Nat → Nat) : Nat → Option Nat → Int32 → Dat → Option (Dat)
  | 0, _, _, _ => none
  | d + 1, x1, x2, D => f_X8_goThrough_s (f_X8_goThrough N nu K d) N nu K x1 x2 D
theorem c_X8_goThrough {l : Launch} {w : Wx} {n nu c u : Nat} {K : Nat → Nat} {N : Nat} (hm : wlm w = true) : ∀ (d : Nat) {x1 : Option Nat} {x2 : Int32} {D : Dat} {z : Dat} (h : f_X8_goThrough N nu K d x1 x2 D = some z), C0 l w yX8_goThrough cX8_goThrough 4 none (4 * d) (90 * d) [.ref (wb w + 106), rv (wb w) x1, .int x2] n (Ax nu K c u) D none z := by
  intro d
  induction d generalizing n with
  | zero => intro x1 x2 D z h; exact absurd h (by simp [f_X8_goThrough])
  | succ d ih =>
    intro x1 x2 D z h
    rw [f_X8_goThrough] at h
    exact c_X8_goThrough_s (fr := 4 * d) (lc := 90 * d) hm (fun h => ih h) h
