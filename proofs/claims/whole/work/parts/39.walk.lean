theorem kq_189 {nu c u : Nat} {K : Nat → Nat} : (Ax nu K c u).1 189 = 10 := kd_lt (K := K) (a := 189) (by decide) rfl
theorem pf_X1_1 : PI 1 RX1 TX1 6 tyX1 1 2 (.object "FlowChain$Program") := ⟨gf_X1_1, rfl, rfl⟩
theorem fl_X1_46 : Cond.fieldLink RX1 46 RX4 (TX4 0).2.1 (TX4 0).2.2.1 ∈ tb := tb_of 458 (by decide +kernel) (by decide +kernel)
theorem bp_22 : (Int8.ofInt (22)).toInt32 = (22 : Int32) := by decide
theorem bp_21 : (Int8.ofInt (21)).toInt32 = (21 : Int32) := by decide
theorem fl_X10_15 : Cond.fieldLink RX10 15 RX10 (TX10 1).2.1 (TX10 1).2.2.1 ∈ tb := tb_of 438 (by decide +kernel) (by decide +kernel)
theorem inb_X10 : ∀ w ∈ u_ws RX10 TX10 2, w ∈ tb := by decide +kernel
theorem gf_X10_1 : FI 10 RX10 TX10 2 tyX10 1 2 := ⟨rfl, inb_X10, tyX10_ok, nmX10, by decide, by decide, rfl, rfl, rfl⟩
theorem fl_X10_91 : Cond.fieldLink RX10 91 RX7 (TX7 4).2.1 (TX7 4).2.2.1 ∈ tb := tb_of 1043 (by decide +kernel) (by decide +kernel)
theorem fl_X10_94 : Cond.fieldLink RX10 94 RX7 (TX7 5).2.1 (TX7 5).2.2.1 ∈ tb := tb_of 1047 (by decide +kernel) (by decide +kernel)
theorem fl_X10_9 : Cond.fieldLink RX10 9 RX10 (TX10 0).2.1 (TX10 0).2.2.1 ∈ tb := tb_of 437 (by decide +kernel) (by decide +kernel)
theorem gf_X10_0 : FI 10 RX10 TX10 2 tyX10 0 3 := ⟨rfl, inb_X10, tyX10_ok, nmX10, by decide, by decide, rfl, rfl, rfl⟩
theorem lk_189_0 : lks 189 0 = some 181 := by decide +kernel
theorem ml_X10_34 : Cond.methodLink RX10 34 yX3_goesOn ∈ tb := tb_of 1636 (by decide +kernel) (by decide +kernel)
theorem ml_X10_97 : Cond.methodLink RX10 97 yX4_operation ∈ tb := tb_of 1646 (by decide +kernel) (by decide +kernel)
theorem ml_X10_101 : Cond.methodLink RX10 101 yX4_argument ∈ tb := tb_of 1647 (by decide +kernel) (by decide +kernel)
theorem cw_X5_takeNewName : Cond.code yX5_takeNewName cX5_takeNewName 3 (some .int) ∈ tb := tb_of 971 (by decide +kernel) (by decide +kernel)
theorem mw_X5_takeNewName : MW yX5_takeNewName cX5_takeNewName 3 (some .int) 1 := ⟨cw_X5_takeNewName, ini_X5, by decide +kernel⟩
theorem im_X5_takeNewName : Cond.instanceMethod yX5_takeNewName ∈ tb := tb_of 970 (by decide +kernel) (by decide +kernel)
theorem se_X5_takeNewName : Cond.selects (yX5_takeNewName).cls yX5_takeNewName yX5_takeNewName ∈ tb := tb_of 17 (by decide +kernel) (by decide +kernel)
theorem ml_X5_159 : Cond.methodLink RX5 159 yX5_takeNewName ∈ tb := tb_of 968 (by decide +kernel) (by decide +kernel)
theorem cw_X8_emitExpressions : Cond.code yX8_emitExpressions cX8_emitExpressions 3 none ∈ tb := tb_of 1235 (by decide +kernel) (by decide +kernel)
theorem mw_X8_emitExpressions : MW yX8_emitExpressions cX8_emitExpressions 3 none 1 := ⟨cw_X8_emitExpressions, ini_X8, by decide +kernel⟩
theorem im_X8_emitExpressions : Cond.instanceMethod yX8_emitExpressions ∈ tb := tb_of 1234 (by decide +kernel) (by decide +kernel)
theorem se_X8_emitExpressions : Cond.selects (yX8_emitExpressions).cls yX8_emitExpressions yX8_emitExpressions ∈ tb := tb_of 44 (by decide +kernel) (by decide +kernel)
theorem ml_X8_68 : Cond.methodLink RX8 68 yX8_emitExpressions ∈ tb := tb_of 1232 (by decide +kernel) (by decide +kernel)
theorem fl_X8_78 : Cond.fieldLink RX8 78 RX7 (TX7 6).2.1 (TX7 6).2.2.1 ∈ tb := tb_of 1051 (by decide +kernel) (by decide +kernel)
theorem cw_X8_goThrough : Cond.code yX8_goThrough cX8_goThrough 4 none ∈ tb := tb_of 1227 (by decide +kernel) (by decide +kernel)
theorem mw_X8_goThrough : MW yX8_goThrough cX8_goThrough 4 none 2 := ⟨cw_X8_goThrough, ini_X8, by decide +kernel⟩
theorem im_X8_goThrough : Cond.instanceMethod yX8_goThrough ∈ tb := tb_of 1226 (by decide +kernel) (by decide +kernel)
theorem se_X8_goThrough : Cond.selects (yX8_goThrough).cls yX8_goThrough yX8_goThrough ∈ tb := tb_of 42 (by decide +kernel) (by decide +kernel)
theorem ml_X8_34 : Cond.methodLink RX8 34 yX8_goThrough ∈ tb := tb_of 1224 (by decide +kernel) (by decide +kernel)
theorem fl_X8_81 : Cond.fieldLink RX8 81 RX7 (TX7 8).2.1 (TX7 8).2.2.1 ∈ tb := tb_of 1058 (by decide +kernel) (by decide +kernel)
theorem cw_X0_aim : Cond.code yX0_aim cX0_aim 3 none ∈ tb := tb_of 1250 (by decide +kernel) (by decide +kernel)
theorem mw_X0_aim : MW yX0_aim cX0_aim 3 none 2 := ⟨cw_X0_aim, ini_X0, by decide +kernel⟩
theorem im_X0_aim : Cond.instanceMethod yX0_aim ∈ tb := tb_of 1248 (by decide +kernel) (by decide +kernel)
theorem se_X0_aim : Cond.selects (yX0_aim).cls yX0_aim yX0_aim ∈ tb := tb_of 1249 (by decide +kernel) (by decide +kernel)
theorem ml_X8_84 : Cond.methodLink RX8 84 yX0_aim ∈ tb := tb_of 1247 (by decide +kernel) (by decide +kernel)
theorem fl_X8_87 : Cond.fieldLink RX8 87 RX7 (TX7 7).2.1 (TX7 7).2.2.1 ∈ tb := tb_of 1056 (by decide +kernel) (by decide +kernel)
theorem fl_X8_42 : Cond.fieldLink RX8 42 RX7 (TX7 0).2.1 (TX7 0).2.2.1 ∈ tb := tb_of 1027 (by decide +kernel) (by decide +kernel)
theorem fl_X8_54 : Cond.fieldLink RX8 54 RX7 (TX7 2).2.1 (TX7 2).2.2.1 ∈ tb := tb_of 1033 (by decide +kernel) (by decide +kernel)
theorem cw_X5_isWord : Cond.code yX5_isWord cX5_isWord 6 (some .boolean) ∈ tb := tb_of 842 (by decide +kernel) (by decide +kernel)
theorem mw_X5_isWord : MW yX5_isWord cX5_isWord 6 (some .boolean) 3 := ⟨cw_X5_isWord, ini_X5, by decide +kernel⟩
theorem im_X5_isWord : Cond.instanceMethod yX5_isWord ∈ tb := tb_of 841 (by decide +kernel) (by decide +kernel)
theorem se_X5_isWord : Cond.selects (yX5_isWord).cls yX5_isWord yX5_isWord ∈ tb := tb_of 13 (by decide +kernel) (by decide +kernel)
theorem ml_X5_121 : Cond.methodLink RX5 121 yX5_isWord ∈ tb := tb_of 839 (by decide +kernel) (by decide +kernel)
theorem bp_18 : (Int8.ofInt (18)).toInt32 = (18 : Int32) := by decide
theorem bp_17 : (Int8.ofInt (17)).toInt32 = (17 : Int32) := by decide
theorem cw_X4_setProc : Cond.code yX4_setProc cX4_setProc 3 none ∈ tb := tb_of 1133 (by decide +kernel) (by decide +kernel)
theorem mw_X4_setProc : MW yX4_setProc cX4_setProc 3 none 2 := ⟨cw_X4_setProc, ini_X4, by decide +kernel⟩
theorem im_X4_setProc : Cond.instanceMethod yX4_setProc ∈ tb := tb_of 1131 (by decide +kernel) (by decide +kernel)
theorem se_X4_setProc : Cond.selects (yX4_setProc).cls yX4_setProc yX4_setProc ∈ tb := tb_of 1132 (by decide +kernel) (by decide +kernel)
theorem ml_X5_166 : Cond.methodLink RX5 166 yX4_setProc ∈ tb := tb_of 1130 (by decide +kernel) (by decide +kernel)
theorem cw_X4_setMark : Cond.code yX4_setMark cX4_setMark 3 none ∈ tb := tb_of 1137 (by decide +kernel) (by decide +kernel)
theorem mw_X4_setMark : MW yX4_setMark cX4_setMark 3 none 2 := ⟨cw_X4_setMark, ini_X4, by decide +kernel⟩
theorem im_X4_setMark : Cond.instanceMethod yX4_setMark ∈ tb := tb_of 1135 (by decide +kernel) (by decide +kernel)
theorem se_X4_setMark : Cond.selects (yX4_setMark).cls yX4_setMark yX4_setMark ∈ tb := tb_of 1136 (by decide +kernel) (by decide +kernel)
theorem ml_X5_179 : Cond.methodLink RX5 179 yX4_setMark ∈ tb := tb_of 1134 (by decide +kernel) (by decide +kernel)
theorem fl_X8_71 : Cond.fieldLink RX8 71 RX7 (TX7 3).2.1 (TX7 3).2.2.1 ∈ tb := tb_of 1037 (by decide +kernel) (by decide +kernel)
theorem cw_X3_perform : Cond.code yX3_perform cX3_perform 3 none ∈ tb := tb_of 1583 (by decide +kernel) (by decide +kernel)
theorem mw_X3_perform : MW yX3_perform cX3_perform 3 none 2 := ⟨cw_X3_perform, ini_X3, by decide +kernel⟩
theorem im_X3_perform : Cond.instanceMethod yX3_perform ∈ tb := tb_of 1581 (by decide +kernel) (by decide +kernel)
theorem se_X3_perform : Cond.selects (yX3_perform).cls yX3_perform yX3_perform ∈ tb := tb_of 1582 (by decide +kernel) (by decide +kernel)
theorem ml_X10_73 : Cond.methodLink RX10 73 yX3_perform ∈ tb := tb_of 1648 (by decide +kernel) (by decide +kernel)
def f_X1_check_b7 (N : Nat) (nu : Nat) (K : Nat → Nat) : Nat → Int32 → Dat → Option (Sum Nat Unit × Dat)
  | 0, _, _ => none
  | g + 1, x2, D => if 26 ≤ x2 then (((dR D 6 1)).bind (fun a2 => if a2 = 191 ∨ a2 = 196 then (sb (f_X1_goThrough N nu K 50 (dR D a2 0) 0 0 D) (fun p5 D7 => some (.inr (), D7))) else none)) else (((dR D 6 1)).bind (fun a8 => if a8 = 191 ∨ a8 = 196 then ((f_X4_variableMark a8 x2 D).bind (fun p11 => (f_X2_shade nu K p11.1 p11.2).bind (fun p13 => if x2 < 0 ∨ 26 ≤ (x2).toNatClampNeg then none else ((f_X1_check_b7 N nu K g) (x2 + 1) (sI p13.2 7 (x2).toNatClampNeg p13.1))))) else none))
set_option maxHeartbeats 4000000 in
theorem w_X1_check_b7 {X : Cx} {n nu c u : Nat} {K : Nat → Nat} {N : Nat} {z : Sum Nat Unit × Dat} (O : Ok X cX1_check RX1 none 401 7324) (hm : wlm (xw X) = true) (hn : xn X = 3) (hz : Z0 X (Ax nu K c u)) (hT : T1 X (zu z)) : ∀ (g : Nat) (x2 : Int32) (D : Dat), f_X1_check_b7 N nu K g x2 D = some z → V X (Q1 X n (Ax nu K c u) (zu z)) n (Ax nu K c u) D 7 [(0, .ref (bo X + pp 6)), (2, .int x2)] [] := by
  intro g
  induction g with
  | zero => intro x2 D h; exact absurd h (by simp [f_X1_check_b7])
  | succ g ih =>
    intro x2 D h
    rw [f_X1_check_b7] at h
    refine v_iload_n (pc := 7) O dX1_check_7 1 rfl ?_
    refine v_bipush (pc := 8) O dX1_check_8 bp_26 ?_
    refine v_icmpge (pc := 10) 40 O dX1_check_10 (by decide) (fun c1 => ?_) (fun c1 => ?_)
    · have h := (if_pos c1).symm.trans h
      refine v_aload_n (pc := 40) O dX1_check_40 0 rfl ?_
      refine v_aload_n (pc := 41) O dX1_check_41 0 rfl ?_
      refine v_getR (pc := 42) (a := 6) O gf_X1_1 fl_X1_31 kq_6 dX1_check_42 ?_
      obtain ⟨a2, e3, h⟩ := bind_some h
      rw [e3]
      obtain ⟨c4, h⟩ := if_none h
      refine v_getR (pc := 45) (a := a2) O gf_X4_0 fl_X1_46 (kt_X4 c4) dX1_check_45 ?_
      refine v_iconst (pc := 48) O dX1_check_48 ic_0 ?_
      refine v_iconst (pc := 49) O dX1_check_49 ic_0 ?_
      rcases sb_some h with ⟨p5, D7, e6, rfl⟩ | ⟨p5, D7, e6, h⟩
      · exact v_call1X (pc := 50) (a := 6) (As := [rv (bo X) (dR D a2 0), .int 0, .int 0]) (rest := []) (e := p5) (D' := D7) O hz hT (c_X1_goThrough (n := n) (nu := nu) (c := c) (u := u) hT.2.1 hm 50 e6 :) mw_X1_goThrough im_X1_goThrough se_X1_goThrough ml_X1_50 kq_6 (by decide) rfl rfl rfl (by decide) (by decide) (Nat.le_of_ble_eq_true rfl) dX1_check_50 rfl
      · refine v_call1 (pc := 50) (a := 6) (As := [rv (bo X) (dR D a2 0), .int 0, .int 0]) (rest := []) (r := none) (D' := D7) O hz (c_X1_goThrough (n := n) (nu := nu) (c := c) (u := u) hT.2.1 hm 50 e6 :) mw_X1_goThrough im_X1_goThrough se_X1_goThrough ml_X1_50 kq_6 (by decide) rfl rfl rfl (by decide) (by decide) (Nat.le_of_ble_eq_true rfl) dX1_check_50 rfl rfl ?_
        obtain rfl := Option.some.inj h
        exact v_r1 (v_ret (pc := 53) O hz dX1_check_53)
    · have h := (if_neg c1).symm.trans h
      refine v_aload_n (pc := 13) O dX1_check_13 0 rfl ?_
      refine v_getK (pc := 14) (a := 6) O hm gf_X1_2 fl_X1_9 kq_6 lk_6_2 dX1_check_14 ?_
      refine v_iload_n (pc := 17) O dX1_check_17 1 rfl ?_
      refine v_aload_n (pc := 18) O dX1_check_18 0 rfl ?_
      refine v_getK (pc := 19) (a := 6) O hm gf_X1_0 fl_X1_23 kq_6 lk_6_0 dX1_check_19 ?_
      refine v_aload_n (pc := 22) O dX1_check_22 0 rfl ?_
      refine v_getR (pc := 23) (a := 6) O gf_X1_1 fl_X1_31 kq_6 dX1_check_23 ?_
      refine v_iload_n (pc := 26) O dX1_check_26 1 rfl ?_
      obtain ⟨a8, e9, h⟩ := bind_some h
      rw [e9]
      obtain ⟨c10, h⟩ := if_none h
      obtain ⟨p11, e12, h⟩ := bind_some h
      refine v_callV (pc := 27) (a := a8) (As := [.int x2]) (rest := [.ref (bo X + pp 1), .int x2, .ref (bo X + pp 7)]) (r := (some (.int p11.1))) (D' := p11.2) O (bb0 hz) (c_X4_variableMark hm c10 e12) mw_X4_variableMark im_X4_variableMark se_X4_variableMark ml_X1_35 (kt_X4 c10) (by decide) rfl rfl rfl (by decide) (by decide) (Nat.le_of_ble_eq_true rfl) dX1_check_27 rfl rfl ?_
      obtain ⟨p13, e14, h⟩ := bind_some h
      refine v_callV (pc := 30) (a := 1) (As := [.int p11.1]) (rest := [.int x2, .ref (bo X + pp 7)]) (r := (some (.int p13.1))) (D' := p13.2) O (bb0 hz) (c_X2_shade hm e14) mw_X2_shade im_X2_shade se_X2_shade ml_X1_41 kq_1 (by decide) rfl rfl rfl (by decide) (by decide) (Nat.le_of_ble_eq_true rfl) dX1_check_30 rfl rfl ?_
      obtain ⟨c15, h⟩ := or_none h
      refine v_iast (pc := 33) (a := 7) O kq_7 (inq lq_7 c15) dX1_check_33 ?_
      refine v_iinc (pc := 34) (lv' := [(2, .int (x2 + 1)), (0, .ref (bo X + pp 6))]) O dX1_check_34 1 rfl (congrArg (fun q => x2 + q) ic_1) (by rw [hn]; decide) rfl ?_
      refine v_goto (pc := 37) 7 O dX1_check_37 (by decide) ?_
      refine v_sub [1, 0] rfl ?_
      exact ih (x2 + 1) (sI p13.2 7 (x2).toNatClampNeg p13.1) h
def f_X1_check (N : Nat) (nu : Nat) (K : Nat → Nat) (x1 : Option Nat) (D : Dat) : Option (Sum Nat Unit × Dat) :=
  f_X1_check_b7 N nu K N 0 (sR D 6 1 x1)
set_option maxHeartbeats 4000000 in
theorem w_X1_check {X : Cx} {n nu c u : Nat} {K : Nat → Nat} {N : Nat} {z : Sum Nat Unit × Dat} (O : Ok X cX1_check RX1 none 401 7324) (hm : wlm (xw X) = true) (hn : xn X = 3) (hz : Z0 X (Ax nu K c u)) (hT : T1 X (zu z)) (x1 : Option Nat) (D : Dat) (h : f_X1_check N nu K x1 D = some z) : V X (Q1 X n (Ax nu K c u) (zu z)) n (Ax nu K c u) D 0 [(0, .ref (bo X + pp 6)), (1, rv (bo X) x1)] [] := by
  unfold f_X1_check at h
  refine v_aload_n (pc := 0) O dX1_check_0 0 rfl ?_
  refine v_aload_nr (pc := 1) O dX1_check_1 1 rfl ?_
  refine v_putR (pc := 2) (a := 6) (r := x1) O pf_X1_1 rfl fl_X1_31 kq_6 dX1_check_2 ?_
  refine v_iconst (pc := 5) O dX1_check_5 ic_0 ?_
  refine v_istore_n (pc := 6) (lv' := [(2, .int 0), (0, .ref (bo X + pp 6)), (1, rv (bo X) x1)]) O dX1_check_6 rfl (by rw [hn]; decide) (by simp [rv_cat, cat_i, cat_l, cat_r, cat_n]) ?_
  refine v_sub [1, 0] rfl ?_
  exact w_X1_check_b7 O hm hn hz hT N 0 (sR D 6 1 x1) h
theorem c_X1_check {l : Launch} {w : Wx} {n nu c u : Nat} {K : Nat → Nat} {N : Nat} (hl : l.stackTraces = false) (hm : wlm w = true) {x1 : Option Nat} {D : Dat} {z : Sum Nat Unit × Dat} (h : f_X1_check N nu K x1 D = some z) : C1 l w yX1_check cX1_check 3 none 401 7324 [.ref (wb w + pp 6), rv (wb w) x1] n (Ax nu K c u) D (zu z) :=
  C1.of hl (by decide) (by simp [lg_sl, rv_cat, cat_i, cat_l, cat_r, cat_n, fmt_cat]) (fun X e1 e2 e3 hz hT O => by
  subst e1
  subst e2
  have q : lv_args 0 [.ref (bo X + pp 6), rv (bo X) x1] = [(0, .ref (bo X + pp 6)), (1, rv (bo X) x1)] := by simp [lv_args, rv_cat, cat_i, cat_l, cat_r, cat_n, fmt_cat]
  show V X _ n _ D 0 (lv_args 0 [.ref (bo X + pp 6), rv (bo X) x1]) []
  rw [q]
  exact w_X1_check O hm e3 hz hT x1 D h)
def f_X5_kindOfWord_b145 (N : Nat) (s0 : Int32) (D : Dat) : Option (Int32 × Dat) :=
  some (s0, D)
set_option maxHeartbeats 4000000 in
theorem w_X5_kindOfWord_b145 {X : Cx} {n nu c u : Nat} {K : Nat → Nat} {N : Nat} {z : Int32 × Dat} (O : Ok X cX5_kindOfWord RX5 (some .int) 5 110) (hm : wlm (xw X) = true) (hn : xn X = 3) (hz : Z0 X (Ax nu K c u)) (s0 : Int32) (D : Dat) (h : f_X5_kindOfWord_b145 N s0 D = some z) : V X (Q0 X n (Ax nu K c u) (some (.int z.1)) z.2) n (Ax nu K c u) D 145 [] [.int s0] := by
  unfold f_X5_kindOfWord_b145 at h
  obtain rfl := Option.some.inj h
  exact v_iret (pc := 145) O hz dX5_kindOfWord_145
def f_X5_kindOfWord (N : Nat) (x1 : Int32) (x2 : Int32) (D : Dat) : Option (Int32 × Dat) :=
  (f_X5_isWord N 0 x1 x2 D).bind (fun p1 => if p1.1 = 0 then ((f_X5_isWord N 1 x1 x2 p1.2).bind (fun p4 => if p4.1 = 0 then ((f_X5_isWord N 2 x1 x2 p4.2).bind (fun p7 => if p7.1 = 0 then ((f_X5_isWord N 3 x1 x2 p7.2).bind (fun p10 => if p10.1 = 0 then ((f_X5_isWord N 8 x1 x2 p10.2).bind (fun p13 => if p13.1 = 0 then ((f_X5_isWord N 4 x1 x2 p13.2).bind (fun p16 => if p16.1 = 0 then ((f_X5_isWord N 5 x1 x2 p16.2).bind (fun p19 => if p19.1 = 0 then ((f_X5_isWord N 6 x1 x2 p19.2).bind (fun p22 => if p22.1 = 0 then ((f_X5_isWord N 7 x1 x2 p22.2).bind (fun p25 => if p25.1 = 0 then (f_X5_kindOfWord_b145 N 3 p25.2) else (f_X5_kindOfWord_b145 N 18 p25.2))) else (f_X5_kindOfWord_b145 N 14 p22.2))) else (f_X5_kindOfWord_b145 N 13 p19.2))) else (f_X5_kindOfWord_b145 N 17 p16.2))) else (f_X5_kindOfWord_b145 N 23 p13.2))) else (f_X5_kindOfWord_b145 N 16 p10.2))) else (f_X5_kindOfWord_b145 N 22 p7.2))) else (f_X5_kindOfWord_b145 N 21 p4.2))) else (f_X5_kindOfWord_b145 N 20 p1.2))
set_option maxHeartbeats 4000000 in
theorem w_X5_kindOfWord {X : Cx} {n nu c u : Nat} {K : Nat → Nat} {N : Nat} {z : Int32 × Dat} (O : Ok X cX5_kindOfWord RX5 (some .int) 5 110) (hm : wlm (xw X) = true) (hn : xn X = 3) (hz : Z0 X (Ax nu K c u)) (x1 : Int32) (x2 : Int32) (D : Dat) (h : f_X5_kindOfWord N x1 x2 D = some z) : V X (Q0 X n (Ax nu K c u) (some (.int z.1)) z.2) n (Ax nu K c u) D 0 [(0, .ref (bo X + pp 3)), (1, .int x1), (2, .int x2)] [] := by
  unfold f_X5_kindOfWord at h
  refine v_aload_n (pc := 0) O dX5_kindOfWord_0 0 rfl ?_
  refine v_ldcS (pc := 1) O 0 (by decide) rfl dX5_kindOfWord_1 ?_
  refine v_iload_n (pc := 3) O dX5_kindOfWord_3 1 rfl ?_
  refine v_iload_n (pc := 4) O dX5_kindOfWord_4 2 rfl ?_
  obtain ⟨p1, e2, h⟩ := bind_some h
  refine v_callV (pc := 5) (a := 3) (As := [.ref (woK (xw X) 0), .int x1, .int x2]) (rest := []) (r := (some (.int p1.1))) (D' := p1.2) O (bb0 hz) (c_X5_isWord hm e2) mw_X5_isWord im_X5_isWord se_X5_isWord ml_X5_121 kq_3 (by decide) rfl rfl rfl (by decide) (by decide) (Nat.le_of_ble_eq_true rfl) dX5_kindOfWord_5 rfl rfl ?_
  refine v_ifeq (pc := 8) 16 O dX5_kindOfWord_8 (by decide) (fun c3 => ?_) (fun c3 => ?_)
  · have h := (if_pos c3).symm.trans h
    refine v_aload_n (pc := 16) O dX5_kindOfWord_16 0 rfl ?_
    refine v_ldcS (pc := 17) O 1 (by decide) rfl dX5_kindOfWord_17 ?_
    refine v_iload_n (pc := 19) O dX5_kindOfWord_19 1 rfl ?_
    refine v_iload_n (pc := 20) O dX5_kindOfWord_20 2 rfl ?_
    obtain ⟨p4, e5, h⟩ := bind_some h
    refine v_callV (pc := 21) (a := 3) (As := [.ref (woK (xw X) 1), .int x1, .int x2]) (rest := []) (r := (some (.int p4.1))) (D' := p4.2) O (bb0 hz) (c_X5_isWord hm e5) mw_X5_isWord im_X5_isWord se_X5_isWord ml_X5_121 kq_3 (by decide) rfl rfl rfl (by decide) (by decide) (Nat.le_of_ble_eq_true rfl) dX5_kindOfWord_21 rfl rfl ?_
    refine v_ifeq (pc := 24) 32 O dX5_kindOfWord_24 (by decide) (fun c6 => ?_) (fun c6 => ?_)
    · have h := (if_pos c6).symm.trans h
      refine v_aload_n (pc := 32) O dX5_kindOfWord_32 0 rfl ?_
      refine v_ldcS (pc := 33) O 2 (by decide) rfl dX5_kindOfWord_33 ?_
      refine v_iload_n (pc := 35) O dX5_kindOfWord_35 1 rfl ?_
      refine v_iload_n (pc := 36) O dX5_kindOfWord_36 2 rfl ?_
      obtain ⟨p7, e8, h⟩ := bind_some h
      refine v_callV (pc := 37) (a := 3) (As := [.ref (woK (xw X) 2), .int x1, .int x2]) (rest := []) (r := (some (.int p7.1))) (D' := p7.2) O (bb0 hz) (c_X5_isWord hm e8) mw_X5_isWord im_X5_isWord se_X5_isWord ml_X5_121 kq_3 (by decide) rfl rfl rfl (by decide) (by decide) (Nat.le_of_ble_eq_true rfl) dX5_kindOfWord_37 rfl rfl ?_
      refine v_ifeq (pc := 40) 48 O dX5_kindOfWord_40 (by decide) (fun c9 => ?_) (fun c9 => ?_)
      · have h := (if_pos c9).symm.trans h
        refine v_aload_n (pc := 48) O dX5_kindOfWord_48 0 rfl ?_
        refine v_ldcS (pc := 49) O 3 (by decide) rfl dX5_kindOfWord_49 ?_
        refine v_iload_n (pc := 51) O dX5_kindOfWord_51 1 rfl ?_
        refine v_iload_n (pc := 52) O dX5_kindOfWord_52 2 rfl ?_
        obtain ⟨p10, e11, h⟩ := bind_some h
        refine v_callV (pc := 53) (a := 3) (As := [.ref (woK (xw X) 3), .int x1, .int x2]) (rest := []) (r := (some (.int p10.1))) (D' := p10.2) O (bb0 hz) (c_X5_isWord hm e11) mw_X5_isWord im_X5_isWord se_X5_isWord ml_X5_121 kq_3 (by decide) rfl rfl rfl (by decide) (by decide) (Nat.le_of_ble_eq_true rfl) dX5_kindOfWord_53 rfl rfl ?_
        refine v_ifeq (pc := 56) 64 O dX5_kindOfWord_56 (by decide) (fun c12 => ?_) (fun c12 => ?_)
        · have h := (if_pos c12).symm.trans h
          refine v_aload_n (pc := 64) O dX5_kindOfWord_64 0 rfl ?_
          refine v_ldcS (pc := 65) O 8 (by decide) rfl dX5_kindOfWord_65 ?_
          refine v_iload_n (pc := 67) O dX5_kindOfWord_67 1 rfl ?_
          refine v_iload_n (pc := 68) O dX5_kindOfWord_68 2 rfl ?_
          obtain ⟨p13, e14, h⟩ := bind_some h
          refine v_callV (pc := 69) (a := 3) (As := [.ref (woK (xw X) 8), .int x1, .int x2]) (rest := []) (r := (some (.int p13.1))) (D' := p13.2) O (bb0 hz) (c_X5_isWord hm e14) mw_X5_isWord im_X5_isWord se_X5_isWord ml_X5_121 kq_3 (by decide) rfl rfl rfl (by decide) (by decide) (Nat.le_of_ble_eq_true rfl) dX5_kindOfWord_69 rfl rfl ?_
          refine v_ifeq (pc := 72) 80 O dX5_kindOfWord_72 (by decide) (fun c15 => ?_) (fun c15 => ?_)
          · have h := (if_pos c15).symm.trans h
            refine v_aload_n (pc := 80) O dX5_kindOfWord_80 0 rfl ?_
            refine v_ldcS (pc := 81) O 4 (by decide) rfl dX5_kindOfWord_81 ?_
            refine v_iload_n (pc := 83) O dX5_kindOfWord_83 1 rfl ?_
            refine v_iload_n (pc := 84) O dX5_kindOfWord_84 2 rfl ?_
            obtain ⟨p16, e17, h⟩ := bind_some h
            refine v_callV (pc := 85) (a := 3) (As := [.ref (woK (xw X) 4), .int x1, .int x2]) (rest := []) (r := (some (.int p16.1))) (D' := p16.2) O (bb0 hz) (c_X5_isWord hm e17) mw_X5_isWord im_X5_isWord se_X5_isWord ml_X5_121 kq_3 (by decide) rfl rfl rfl (by decide) (by decide) (Nat.le_of_ble_eq_true rfl) dX5_kindOfWord_85 rfl rfl ?_
            refine v_ifeq (pc := 88) 96 O dX5_kindOfWord_88 (by decide) (fun c18 => ?_) (fun c18 => ?_)
            · have h := (if_pos c18).symm.trans h
              refine v_aload_n (pc := 96) O dX5_kindOfWord_96 0 rfl ?_
              refine v_ldcS (pc := 97) O 5 (by decide) rfl dX5_kindOfWord_97 ?_
              refine v_iload_n (pc := 99) O dX5_kindOfWord_99 1 rfl ?_
              refine v_iload_n (pc := 100) O dX5_kindOfWord_100 2 rfl ?_
              obtain ⟨p19, e20, h⟩ := bind_some h
              refine v_callV (pc := 101) (a := 3) (As := [.ref (woK (xw X) 5), .int x1, .int x2]) (rest := []) (r := (some (.int p19.1))) (D' := p19.2) O (bb0 hz) (c_X5_isWord hm e20) mw_X5_isWord im_X5_isWord se_X5_isWord ml_X5_121 kq_3 (by decide) rfl rfl rfl (by decide) (by decide) (Nat.le_of_ble_eq_true rfl) dX5_kindOfWord_101 rfl rfl ?_
              refine v_ifeq (pc := 104) 112 O dX5_kindOfWord_104 (by decide) (fun c21 => ?_) (fun c21 => ?_)
              · have h := (if_pos c21).symm.trans h
                refine v_aload_n (pc := 112) O dX5_kindOfWord_112 0 rfl ?_
                refine v_ldcS (pc := 113) O 6 (by decide) rfl dX5_kindOfWord_113 ?_
                refine v_iload_n (pc := 115) O dX5_kindOfWord_115 1 rfl ?_
                refine v_iload_n (pc := 116) O dX5_kindOfWord_116 2 rfl ?_
                obtain ⟨p22, e23, h⟩ := bind_some h
                refine v_callV (pc := 117) (a := 3) (As := [.ref (woK (xw X) 6), .int x1, .int x2]) (rest := []) (r := (some (.int p22.1))) (D' := p22.2) O (bb0 hz) (c_X5_isWord hm e23) mw_X5_isWord im_X5_isWord se_X5_isWord ml_X5_121 kq_3 (by decide) rfl rfl rfl (by decide) (by decide) (Nat.le_of_ble_eq_true rfl) dX5_kindOfWord_117 rfl rfl ?_
                refine v_ifeq (pc := 120) 128 O dX5_kindOfWord_120 (by decide) (fun c24 => ?_) (fun c24 => ?_)
                · have h := (if_pos c24).symm.trans h
                  refine v_aload_n (pc := 128) O dX5_kindOfWord_128 0 rfl ?_
                  refine v_ldcS (pc := 129) O 7 (by decide) rfl dX5_kindOfWord_129 ?_
                  refine v_iload_n (pc := 131) O dX5_kindOfWord_131 1 rfl ?_
                  refine v_iload_n (pc := 132) O dX5_kindOfWord_132 2 rfl ?_
                  obtain ⟨p25, e26, h⟩ := bind_some h
                  refine v_callV (pc := 133) (a := 3) (As := [.ref (woK (xw X) 7), .int x1, .int x2]) (rest := []) (r := (some (.int p25.1))) (D' := p25.2) O (bb0 hz) (c_X5_isWord hm e26) mw_X5_isWord im_X5_isWord se_X5_isWord ml_X5_121 kq_3 (by decide) rfl rfl rfl (by decide) (by decide) (Nat.le_of_ble_eq_true rfl) dX5_kindOfWord_133 rfl rfl ?_
                  refine v_ifeq (pc := 136) 144 O dX5_kindOfWord_136 (by decide) (fun c27 => ?_) (fun c27 => ?_)
                  · have h := (if_pos c27).symm.trans h
                    refine v_iconst (pc := 144) O dX5_kindOfWord_144 ic_3 ?_
                    refine v_sub [] rfl ?_
                    exact w_X5_kindOfWord_b145 O hm hn hz 3 p25.2 h
                  · have h := (if_neg c27).symm.trans h
                    refine v_bipush (pc := 139) O dX5_kindOfWord_139 bp_18 ?_
                    refine v_goto (pc := 141) 145 O dX5_kindOfWord_141 (by decide) ?_
                    refine v_sub [] rfl ?_
                    exact w_X5_kindOfWord_b145 O hm hn hz 18 p25.2 h
                · have h := (if_neg c24).symm.trans h
                  refine v_bipush (pc := 123) O dX5_kindOfWord_123 bp_14 ?_
                  refine v_goto (pc := 125) 145 O dX5_kindOfWord_125 (by decide) ?_
                  refine v_sub [] rfl ?_
                  exact w_X5_kindOfWord_b145 O hm hn hz 14 p22.2 h
              · have h := (if_neg c21).symm.trans h
                refine v_bipush (pc := 107) O dX5_kindOfWord_107 bp_13 ?_
                refine v_goto (pc := 109) 145 O dX5_kindOfWord_109 (by decide) ?_
                refine v_sub [] rfl ?_
                exact w_X5_kindOfWord_b145 O hm hn hz 13 p19.2 h
            · have h := (if_neg c18).symm.trans h
              refine v_bipush (pc := 91) O dX5_kindOfWord_91 bp_17 ?_
              refine v_goto (pc := 93) 145 O dX5_kindOfWord_93 (by decide) ?_
              refine v_sub [] rfl ?_
              exact w_X5_kindOfWord_b145 O hm hn hz 17 p16.2 h
          · have h := (if_neg c15).symm.trans h
            refine v_bipush (pc := 75) O dX5_kindOfWord_75 bp_23 ?_
            refine v_goto (pc := 77) 145 O dX5_kindOfWord_77 (by decide) ?_
            refine v_sub [] rfl ?_
            exact w_X5_kindOfWord_b145 O hm hn hz 23 p13.2 h
        · have h := (if_neg c12).symm.trans h
          refine v_bipush (pc := 59) O dX5_kindOfWord_59 bp_16 ?_
          refine v_goto (pc := 61) 145 O dX5_kindOfWord_61 (by decide) ?_
          refine v_sub [] rfl ?_
          exact w_X5_kindOfWord_b145 O hm hn hz 16 p10.2 h
      · have h := (if_neg c9).symm.trans h
        refine v_bipush (pc := 43) O dX5_kindOfWord_43 bp_22 ?_
        refine v_goto (pc := 45) 145 O dX5_kindOfWord_45 (by decide) ?_
        refine v_sub [] rfl ?_
        exact w_X5_kindOfWord_b145 O hm hn hz 22 p7.2 h
    · have h := (if_neg c6).symm.trans h
      refine v_bipush (pc := 27) O dX5_kindOfWord_27 bp_21 ?_
      refine v_goto (pc := 29) 145 O dX5_kindOfWord_29 (by decide) ?_
      refine v_sub [] rfl ?_
      exact w_X5_kindOfWord_b145 O hm hn hz 21 p4.2 h
  · have h := (if_neg c3).symm.trans h
    refine v_bipush (pc := 11) O dX5_kindOfWord_11 bp_20 ?_
    refine v_goto (pc := 13) 145 O dX5_kindOfWord_13 (by decide) ?_
    refine v_sub [] rfl ?_
    exact w_X5_kindOfWord_b145 O hm hn hz 20 p1.2 h
theorem c_X5_kindOfWord {l : Launch} {w : Wx} {n nu c u : Nat} {K : Nat → Nat} {N : Nat} (hm : wlm w = true) {x1 : Int32} {x2 : Int32} {D : Dat} {z : Int32 × Dat} (h : f_X5_kindOfWord N x1 x2 D = some z) : C0 l w yX5_kindOfWord cX5_kindOfWord 3 (some .int) 5 110 [.ref (wb w + pp 3), .int x1, .int x2] n (Ax nu K c u) D (some (.int z.1)) z.2 :=
  C0.of (by decide) (Nat.le_of_ble_eq_true rfl) (fun X e1 e2 e3 hz O => by
  subst e1
  subst e2
  exact w_X5_kindOfWord O hm e3 hz x1 x2 D h)
def f_X5_readDeclaration_b94 (N : Nat) (nu : Nat) (s0 : Int32) (s1 : Option Nat) (S : Sr) (D : Dat) : Option (Sum Nat Unit × Sr × Dat) :=
  sb2 (f_X5_takeLabel nu S D) (fun p1 S3 D3 => (s1).bind (fun a4 => if a4 = 191 ∨ a4 = 196 then ((f_X4_setMark a4 s0 p1 D3).bind (fun p7 => sb2 (f_X5_take nu 59 S3 p7) (fun p9 S11 D11 => some (.inr (), S11, D11)))) else none))
set_option maxHeartbeats 4000000 in
theorem w_X5_readDeclaration_b94 {X : Cx} {nu : Nat} {N : Nat} {z : Sum Nat Unit × Sr × Dat} (O : Ok X cX5_readDeclaration RX5 none 1700 31750) (hm : wlm (xw X) = true) (hn : xn X = 4) (hT : T2 X) (s0 : Int32) (s1 : Option Nat) (S : Sr) (D : Dat) (h : f_X5_readDeclaration_b94 N nu s0 s1 S D = some z) : V X (Q2 X nu (ru z)) S.1 (Az nu S) D 94 [(0, .ref (bo X + pp 3))] [.int s0, rv (bo X) s1] := by
  unfold f_X5_readDeclaration_b94 at h
  refine v_aload_n (pc := 94) O dX5_readDeclaration_94 0 rfl ?_
  rcases sb2_some h with ⟨p1, S3, D3, e2, rfl⟩ | ⟨p1, S3, D3, e2, h⟩
  · exact v_call2X (pc := 95) (a := 3) (As := []) (rest := [.int s0, rv (bo X) s1]) (e := p1) (S' := S3) (D' := D3) O hT (c_X5_takeLabel (nu := nu) hT.2.1 hm e2 :) mw_X5_takeLabel im_X5_takeLabel se_X5_takeLabel ml_X5_176 kq_3 (by decide) rfl rfl rfl (by decide) (by decide) (by simp [rv_cat, cat_i, cat_l, cat_r, cat_n, fmt_cat]) dX5_readDeclaration_95 rfl
  · refine v_call2 (pc := 95) (a := 3) (As := []) (rest := [.int s0, rv (bo X) s1]) (r := (some (.int p1))) (S' := S3) (D' := D3) O hT (c_X5_takeLabel (nu := nu) hT.2.1 hm e2 :) mw_X5_takeLabel im_X5_takeLabel se_X5_takeLabel ml_X5_176 kq_3 (by decide) rfl rfl rfl (by decide) (by decide) (by simp [rv_cat, cat_i, cat_l, cat_r, cat_n, fmt_cat]) dX5_readDeclaration_95 rfl rfl ?_
    obtain ⟨a4, e5, h⟩ := bind_some h
    subst e5
    obtain ⟨c6, h⟩ := if_none h
    obtain ⟨p7, e8, h⟩ := bind_some h
    refine v_callV (pc := 98) (a := a4) (As := [.int s0, .int p1]) (rest := []) (r := none) (D' := p7) O (bb2 hT) (c_X4_setMark hm c6 e8) mw_X4_setMark im_X4_setMark se_X4_setMark ml_X5_179 (kt_X4 c6) (by decide) rfl rfl rfl (by decide) (by decide) (Nat.le_of_ble_eq_true rfl) dX5_readDeclaration_98 rfl rfl ?_
    refine v_aload_n (pc := 101) O dX5_readDeclaration_101 0 rfl ?_
    refine v_bipush (pc := 102) O dX5_readDeclaration_102 bp_59 ?_
    rcases sb2_some h with ⟨p9, S11, D11, e10, rfl⟩ | ⟨p9, S11, D11, e10, h⟩
    · exact v_call2X (pc := 104) (a := 3) (As := [.int 59]) (rest := []) (e := p9) (S' := S11) (D' := D11) O hT (c_X5_take (nu := nu) hT.2.1 hm e10 :) mw_X5_take im_X5_take se_X5_take ml_X5_173 kq_3 (by decide) rfl rfl rfl (by decide) (by decide) (Nat.le_of_ble_eq_true rfl) dX5_readDeclaration_104 rfl
    · refine v_call2 (pc := 104) (a := 3) (As := [.int 59]) (rest := []) (r := none) (S' := S11) (D' := D11) O hT (c_X5_take (nu := nu) hT.2.1 hm e10 :) mw_X5_take im_X5_take se_X5_take ml_X5_173 kq_3 (by decide) rfl rfl rfl (by decide) (by decide) (Nat.le_of_ble_eq_true rfl) dX5_readDeclaration_104 rfl rfl ?_
      obtain rfl := Option.some.inj h
      exact v_vret2 (pc := 107) O dX5_readDeclaration_107
def f_X5_readDeclaration_b68 (N : Nat) (nu : Nat) (x2 : Int32) (s0 : Int32) (S : Sr) (D : Dat) : Option (Sum Nat Unit × Sr × Dat) :=
  sb2 (f_X5_takeNewName nu s0 S D) (fun p12 S14 D14 => sb2 (f_X5_take nu 58 S14 D14) (fun p15 S17 D17 => if x2 = 0 then (f_X5_readDeclaration_b94 N nu p12 (dR D17 3 4) S17 D17) else (f_X5_readDeclaration_b94 N nu ((26 : Int32) + p12) (dR D17 3 4) S17 D17)))
set_option maxHeartbeats 4000000 in
theorem w_X5_readDeclaration_b68 {X : Cx} {nu : Nat} {N : Nat} {z : Sum Nat Unit × Sr × Dat} (O : Ok X cX5_readDeclaration RX5 none 1700 31750) (hm : wlm (xw X) = true) (hn : xn X = 4) (hT : T2 X) (x2 : Int32) (s0 : Int32) (S : Sr) (D : Dat) (h : f_X5_readDeclaration_b68 N nu x2 s0 S D = some z) : V X (Q2 X nu (ru z)) S.1 (Az nu S) D 68 [(0, .ref (bo X + pp 3)), (2, .int x2)] [.int s0, .ref (bo X + pp 3)] := by
  unfold f_X5_readDeclaration_b68 at h
  rcases sb2_some h with ⟨p12, S14, D14, e13, rfl⟩ | ⟨p12, S14, D14, e13, h⟩
  · exact v_call2X (pc := 68) (a := 3) (As := [.int s0]) (rest := []) (e := p12) (S' := S14) (D' := D14) O hT (c_X5_takeNewName (nu := nu) hT.2.1 hm e13 :) mw_X5_takeNewName im_X5_takeNewName se_X5_takeNewName ml_X5_159 kq_3 (by decide) rfl rfl rfl (by decide) (by decide) (Nat.le_of_ble_eq_true rfl) dX5_readDeclaration_68 rfl
  · refine v_call2 (pc := 68) (a := 3) (As := [.int s0]) (rest := []) (r := (some (.int p12))) (S' := S14) (D' := D14) O hT (c_X5_takeNewName (nu := nu) hT.2.1 hm e13 :) mw_X5_takeNewName im_X5_takeNewName se_X5_takeNewName ml_X5_159 kq_3 (by decide) rfl rfl rfl (by decide) (by decide) (Nat.le_of_ble_eq_true rfl) dX5_readDeclaration_68 rfl rfl ?_
    refine v_istore_n (pc := 71) (lv' := [(3, .int p12), (0, .ref (bo X + pp 3)), (2, .int x2)]) O dX5_readDeclaration_71 rfl (by rw [hn]; decide) rfl ?_
    refine v_aload_n (pc := 72) O dX5_readDeclaration_72 1 rfl ?_
    refine v_bipush (pc := 73) O dX5_readDeclaration_73 bp_58 ?_
    rcases sb2_some h with ⟨p15, S17, D17, e16, rfl⟩ | ⟨p15, S17, D17, e16, h⟩
    · exact v_call2X (pc := 75) (a := 3) (As := [.int 58]) (rest := []) (e := p15) (S' := S17) (D' := D17) O hT (c_X5_take (nu := nu) hT.2.1 hm e16 :) mw_X5_take im_X5_take se_X5_take ml_X5_173 kq_3 (by decide) rfl rfl rfl (by decide) (by decide) (Nat.le_of_ble_eq_true rfl) dX5_readDeclaration_75 rfl
    · refine v_call2 (pc := 75) (a := 3) (As := [.int 58]) (rest := []) (r := none) (S' := S17) (D' := D17) O hT (c_X5_take (nu := nu) hT.2.1 hm e16 :) mw_X5_take im_X5_take se_X5_take ml_X5_173 kq_3 (by decide) rfl rfl rfl (by decide) (by decide) (Nat.le_of_ble_eq_true rfl) dX5_readDeclaration_75 rfl rfl ?_
      refine v_aload_n (pc := 78) O dX5_readDeclaration_78 1 rfl ?_
      refine v_getR (pc := 79) (a := 3) O gf_X5_4 fl_X5_45 kq_3 dX5_readDeclaration_79 ?_
      refine v_iload_n (pc := 82) O dX5_readDeclaration_82 2 rfl ?_
      refine v_ifeq (pc := 83) 93 O dX5_readDeclaration_83 (by decide) (fun c18 => ?_) (fun c18 => ?_)
      · have h := (if_pos c18).symm.trans h
        refine v_iload_n (pc := 93) O dX5_readDeclaration_93 0 rfl ?_
        refine v_sub [1] rfl ?_
        exact w_X5_readDeclaration_b94 O hm hn hT p12 (dR D17 3 4) S17 D17 h
      · have h := (if_neg c18).symm.trans h
        refine v_bipush (pc := 86) O dX5_readDeclaration_86 bp_26 ?_
        refine v_iload_n (pc := 88) O dX5_readDeclaration_88 0 rfl ?_
        refine v_iadd (pc := 89) O dX5_readDeclaration_89 ?_
        refine v_goto (pc := 90) 94 O dX5_readDeclaration_90 (by decide) ?_
        refine v_sub [1] rfl ?_
        exact w_X5_readDeclaration_b94 O hm hn hT ((26 : Int32) + p12) (dR D17 3 4) S17 D17 h
def f_X5_readDeclaration_b57 (N : Nat) (nu : Nat) (s0 : Int32) (S : Sr) (D : Dat) : Option (Sum Nat Unit × Sr × Dat) :=
  if s0 = 0 then (f_X5_readDeclaration_b68 N nu s0 1 S D) else (f_X5_readDeclaration_b68 N nu s0 2 S D)
set_option maxHeartbeats 4000000 in
theorem w_X5_readDeclaration_b57 {X : Cx} {nu : Nat} {N : Nat} {z : Sum Nat Unit × Sr × Dat} (O : Ok X cX5_readDeclaration RX5 none 1700 31750) (hm : wlm (xw X) = true) (hn : xn X = 4) (hT : T2 X) (s0 : Int32) (S : Sr) (D : Dat) (h : f_X5_readDeclaration_b57 N nu s0 S D = some z) : V X (Q2 X nu (ru z)) S.1 (Az nu S) D 57 [(0, .ref (bo X + pp 3))] [.int s0] := by
  unfold f_X5_readDeclaration_b57 at h
  refine v_istore_n (pc := 57) (lv' := [(2, .int s0), (0, .ref (bo X + pp 3))]) O dX5_readDeclaration_57 rfl (by rw [hn]; decide) rfl ?_
  refine v_aload_n (pc := 58) O dX5_readDeclaration_58 1 rfl ?_
  refine v_iload_n (pc := 59) O dX5_readDeclaration_59 0 rfl ?_
  refine v_ifeq (pc := 60) 67 O dX5_readDeclaration_60 (by decide) (fun c19 => ?_) (fun c19 => ?_)
  · have h := (if_pos c19).symm.trans h
    refine v_iconst (pc := 67) O dX5_readDeclaration_67 ic_1 ?_
    refine v_sub [1, 0] rfl ?_
    exact w_X5_readDeclaration_b68 O hm hn hT s0 1 S D h
  · have h := (if_neg c19).symm.trans h
    refine v_iconst (pc := 63) O dX5_readDeclaration_63 ic_2 ?_
    refine v_goto (pc := 64) 68 O dX5_readDeclaration_64 (by decide) ?_
    refine v_sub [1, 0] rfl ?_
    exact w_X5_readDeclaration_b68 O hm hn hT s0 2 S D h
def f_X5_readDeclaration (N : Nat) (nu : Nat) (S : Sr) (D : Dat) : Option (Sum Nat Unit × Sr × Dat) :=
  (f_X5_goTo ((dI D 3 8) + (1 : Int32)) D).bind (fun p20 => if (dI D 3 6) = 22 then (sb2 (f_X5_takeNewName nu 3 S p20) (fun p24 S26 D26 => sb2 (f_X5_readBlock (f_X5_readStatements N nu 12) nu S26 D26) (fun p27 S29 D29 => ((dR D26 3 4)).bind (fun a30 => if a30 = 191 ∨ a30 = 196 then ((f_X4_setProc nu S29.2.1 a30 p24 p27 D29).bind (fun p33 => (f_X5_setRole p24 4 p33).bind (fun p35 => some (.inr (), S29, p35)))) else none)))) else (if (dI D 3 6) = 21 then (f_X5_readDeclaration_b57 N nu 1 S p20) else (f_X5_readDeclaration_b57 N nu 0 S p20)))
set_option maxHeartbeats 4000000 in
theorem w_X5_readDeclaration {X : Cx} {nu : Nat} {N : Nat} {z : Sum Nat Unit × Sr × Dat} (O : Ok X cX5_readDeclaration RX5 none 1700 31750) (hm : wlm (xw X) = true) (hn : xn X = 4) (hT : T2 X) (S : Sr) (D : Dat) (h : f_X5_readDeclaration N nu S D = some z) : V X (Q2 X nu (ru z)) S.1 (Az nu S) D 0 [(0, .ref (bo X + pp 3))] [] := by
  unfold f_X5_readDeclaration at h
  refine v_aload_n (pc := 0) O dX5_readDeclaration_0 0 rfl ?_
  refine v_getI (pc := 1) (a := 3) O gf_X5_6 fl_X5_70 kq_3 dX5_readDeclaration_1 ?_
  refine v_istore_n (pc := 4) (lv' := [(1, .int (dI D 3 6)), (0, .ref (bo X + pp 3))]) O dX5_readDeclaration_4 rfl (by rw [hn]; decide) rfl ?_
  refine v_aload_n (pc := 5) O dX5_readDeclaration_5 1 rfl ?_
  refine v_aload_n (pc := 6) O dX5_readDeclaration_6 1 rfl ?_
  refine v_getI (pc := 7) (a := 3) O gf_X5_8 fl_X5_153 kq_3 dX5_readDeclaration_7 ?_
  refine v_iconst (pc := 10) O dX5_readDeclaration_10 ic_1 ?_
  refine v_iadd (pc := 11) O dX5_readDeclaration_11 ?_
  obtain ⟨p20, e21, h⟩ := bind_some h
  refine v_callV (pc := 12) (a := 3) (As := [.int ((dI D 3 8) + (1 : Int32))]) (rest := []) (r := none) (D' := p20) O (bb2 hT) (c_X5_goTo hm e21) mw_X5_goTo im_X5_goTo se_X5_goTo ml_X5_66 kq_3 (by decide) rfl rfl rfl (by decide) (by decide) (Nat.le_of_ble_eq_true rfl) dX5_readDeclaration_12 rfl rfl ?_
  refine v_iload_n (pc := 15) O dX5_readDeclaration_15 0 rfl ?_
  refine v_bipush (pc := 16) O dX5_readDeclaration_16 bp_22 ?_
  refine v_icmpne (pc := 18) 46 O dX5_readDeclaration_18 (by decide) (fun c22 => ?_) (fun c22 => ?_)
  · have h := (if_neg c22).symm.trans h
    refine v_iload_n (pc := 46) O dX5_readDeclaration_46 0 rfl ?_
    refine v_bipush (pc := 47) O dX5_readDeclaration_47 bp_21 ?_
    refine v_icmpne (pc := 49) 56 O dX5_readDeclaration_49 (by decide) (fun c23 => ?_) (fun c23 => ?_)
    · have h := (if_neg c23).symm.trans h
      refine v_iconst (pc := 56) O dX5_readDeclaration_56 ic_0 ?_
      refine v_sub [1] rfl ?_
      exact w_X5_readDeclaration_b57 O hm hn hT 0 S p20 h
    · have h := (if_pos c23).symm.trans h
      refine v_iconst (pc := 52) O dX5_readDeclaration_52 ic_1 ?_
      refine v_goto (pc := 53) 57 O dX5_readDeclaration_53 (by decide) ?_
      refine v_sub [1] rfl ?_
      exact w_X5_readDeclaration_b57 O hm hn hT 1 S p20 h
  · have h := (if_pos c22).symm.trans h
    refine v_aload_n (pc := 21) O dX5_readDeclaration_21 1 rfl ?_
    refine v_iconst (pc := 22) O dX5_readDeclaration_22 ic_3 ?_
    rcases sb2_some h with ⟨p24, S26, D26, e25, rfl⟩ | ⟨p24, S26, D26, e25, h⟩
    · exact v_call2X (pc := 23) (a := 3) (As := [.int 3]) (rest := []) (e := p24) (S' := S26) (D' := D26) O hT (c_X5_takeNewName (nu := nu) hT.2.1 hm e25 :) mw_X5_takeNewName im_X5_takeNewName se_X5_takeNewName ml_X5_159 kq_3 (by decide) rfl rfl rfl (by decide) (by decide) (Nat.le_of_ble_eq_true rfl) dX5_readDeclaration_23 rfl
    · refine v_call2 (pc := 23) (a := 3) (As := [.int 3]) (rest := []) (r := (some (.int p24))) (S' := S26) (D' := D26) O hT (c_X5_takeNewName (nu := nu) hT.2.1 hm e25 :) mw_X5_takeNewName im_X5_takeNewName se_X5_takeNewName ml_X5_159 kq_3 (by decide) rfl rfl rfl (by decide) (by decide) (Nat.le_of_ble_eq_true rfl) dX5_readDeclaration_23 rfl rfl ?_
      refine v_istore_n (pc := 26) (lv' := [(2, .int p24), (1, .int (dI D 3 6)), (0, .ref (bo X + pp 3))]) O dX5_readDeclaration_26 rfl (by rw [hn]; decide) rfl ?_
      refine v_aload_n (pc := 27) O dX5_readDeclaration_27 2 rfl ?_
      refine v_getR (pc := 28) (a := 3) O gf_X5_4 fl_X5_45 kq_3 dX5_readDeclaration_28 ?_
      refine v_iload_n (pc := 31) O dX5_readDeclaration_31 0 rfl ?_
      refine v_aload_n (pc := 32) O dX5_readDeclaration_32 2 rfl ?_
      rcases sb2_some h with ⟨p27, S29, D29, e28, rfl⟩ | ⟨p27, S29, D29, e28, h⟩
      · exact v_call2X (pc := 33) (a := 3) (As := []) (rest := [.int p24, rv (bo X) (dR D26 3 4)]) (e := p27) (S' := S29) (D' := D29) O hT (c_X5_readBlock (nu := nu) hT.2.1 hm (fun h => c_X5_readStatements hT.2.1 hm 12 h) e28 :) mw_X5_readBlock im_X5_readBlock se_X5_readBlock ml_X5_162 kq_3 (by decide) rfl rfl rfl (by decide) (by decide) (by simp [rv_cat, cat_i, cat_l, cat_r, cat_n, fmt_cat]) dX5_readDeclaration_33 rfl
      · refine v_call2 (pc := 33) (a := 3) (As := []) (rest := [.int p24, rv (bo X) (dR D26 3 4)]) (r := (some (rv (bo X) p27))) (S' := S29) (D' := D29) O hT (c_X5_readBlock (nu := nu) hT.2.1 hm (fun h => c_X5_readStatements hT.2.1 hm 12 h) e28 :) mw_X5_readBlock im_X5_readBlock se_X5_readBlock ml_X5_162 kq_3 (by decide) rfl rfl rfl (by decide) (by decide) (by simp [rv_cat, cat_i, cat_l, cat_r, cat_n, fmt_cat]) dX5_readDeclaration_33 rfl rfl ?_
        obtain ⟨a30, e31, h⟩ := bind_some h
        rw [e31]
        obtain ⟨c32, h⟩ := if_none h
        obtain ⟨p33, e34, h⟩ := bind_some h
        refine v_callV (pc := 36) (a := a30) (As := [.int p24, rv (bo X) p27]) (rest := []) (r := none) (D' := p33) O (bb2 hT) (c_X4_setProc hm c32 e34) mw_X4_setProc im_X4_setProc se_X4_setProc ml_X5_166 (kt_X4 c32) (by decide) rfl rfl rfl (by decide) (by decide) (Nat.le_of_ble_eq_true rfl) dX5_readDeclaration_36 rfl rfl ?_
        refine v_aload_n (pc := 39) O dX5_readDeclaration_39 2 rfl ?_
        refine v_iload_n (pc := 40) O dX5_readDeclaration_40 0 rfl ?_
        refine v_iconst (pc := 41) O dX5_readDeclaration_41 ic_4 ?_
        obtain ⟨p35, e36, h⟩ := bind_some h
        refine v_callV (pc := 42) (a := 3) (As := [.int p24, .int 4]) (rest := []) (r := none) (D' := p35) O (bb2 hT) (c_X5_setRole hm e36) mw_X5_setRole im_X5_setRole se_X5_setRole ml_X5_170 kq_3 (by decide) rfl rfl rfl (by decide) (by decide) (Nat.le_of_ble_eq_true rfl) dX5_readDeclaration_42 rfl rfl ?_
        obtain rfl := Option.some.inj h
        exact v_vret2 (pc := 45) O dX5_readDeclaration_45
theorem c_X5_readDeclaration {l : Launch} {w : Wx} {nu : Nat} {N : Nat} (hl : l.stackTraces = false) (hm : wlm w = true) {S : Sr} {D : Dat} {z : Sum Nat Unit × Sr × Dat} (h : f_X5_readDeclaration N nu S D = some z) : C2 l w yX5_readDeclaration cX5_readDeclaration 4 none 1700 31750 [.ref (wb w + pp 3)] nu S D (ru z) :=
  C2.of hl (by decide) (Nat.le_of_ble_eq_true rfl) (fun X e1 e2 e3 hT O _ _ => by
  subst e1
  subst e2
  exact w_X5_readDeclaration O hm e3 hT  S D h)
def f_X8_goOverPlain_b64 (N : Nat) (nu : Nat) (K : Nat → Nat) (D : Dat) : Option (Dat) :=
  some D
set_option maxHeartbeats 4000000 in
theorem w_X8_goOverPlain_b64 {X : Cx} {n nu c u : Nat} {K : Nat → Nat} {N : Nat} {z : Dat} (O : Ok X cX8_goOverPlain RX8 none 3 66) (hm : wlm (xw X) = true) (hn : xn X = 2) (hz : Z0 X (Ax nu K c u)) (D : Dat) (h : f_X8_goOverPlain_b64 N nu K D = some z) : V X (Q0 X n (Ax nu K c u) none z) n (Ax nu K c u) D 64 [] [] := by
  unfold f_X8_goOverPlain_b64 at h
  obtain rfl := Option.some.inj h
  exact v_ret (pc := 64) O hz dX8_goOverPlain_64
def f_X8_goOverPlain_b61 (N : Nat) (nu : Nat) (K : Nat → Nat) (s0 : Int32) (s1 : Int32) (D : Dat) : Option (Dat) :=
  (f_X8_emit s1 s0 D).bind (fun p1 => f_X8_goOverPlain_b64 N nu K p1)
set_option maxHeartbeats 4000000 in
theorem w_X8_goOverPlain_b61 {X : Cx} {n nu c u : Nat} {K : Nat → Nat} {N : Nat} {z : Dat} (O : Ok X cX8_goOverPlain RX8 none 3 66) (hm : wlm (xw X) = true) (hn : xn X = 2) (hz : Z0 X (Ax nu K c u)) (s0 : Int32) (s1 : Int32) (D : Dat) (h : f_X8_goOverPlain_b61 N nu K s0 s1 D = some z) : V X (Q0 X n (Ax nu K c u) none z) n (Ax nu K c u) D 61 [] [.int s0, .int s1, .ref (bo X + pp 106)] := by
  unfold f_X8_goOverPlain_b61 at h
  obtain ⟨p1, e2, h⟩ := bind_some h
  refine v_callV (pc := 61) (a := 106) (As := [.int s1, .int s0]) (rest := []) (r := none) (D' := p1) O (bb0 hz) (c_X8_emit hm e2) mw_X8_emit im_X8_emit se_X8_emit ml_X8_38 kq_106 (by decide) rfl rfl rfl (by decide) (by decide) (Nat.le_of_ble_eq_true rfl) dX8_goOverPlain_61 rfl rfl ?_
  refine v_sub [] rfl ?_
  exact w_X8_goOverPlain_b64 O hm hn hz p1 h
def f_X8_goOverPlain (N : Nat) (nu : Nat) (K : Nat → Nat) (x1 : Option Nat) (D : Dat) : Option (Dat) :=
  (f_X8_emitExpressions N nu K x1 D).bind (fun p3 => (x1).bind (fun a5 => if kd K a5 = 7 then (if (dI p3 a5 0) = 13 then ((f_X8_emit 13 (dI p3 a5 3) p3).bind (fun p10 => (f_X8_emit 2 (dI p10 a5 2) p10).bind (fun p12 => f_X8_goOverPlain_b64 N nu K p12))) else (if (dI p3 a5 0) = 14 then (f_X8_goOverPlain_b61 N nu K (dI p3 a5 3) (dI p3 a5 0) p3) else (f_X8_goOverPlain_b61 N nu K (dI p3 a5 2) (dI p3 a5 0) p3))) else none))
set_option maxHeartbeats 4000000 in
theorem w_X8_goOverPlain {X : Cx} {n nu c u : Nat} {K : Nat → Nat} {N : Nat} {z : Dat} (O : Ok X cX8_goOverPlain RX8 none 3 66) (hm : wlm (xw X) = true) (hn : xn X = 2) (hz : Z0 X (Ax nu K c u)) (x1 : Option Nat) (D : Dat) (h : f_X8_goOverPlain N nu K x1 D = some z) : V X (Q0 X n (Ax nu K c u) none z) n (Ax nu K c u) D 0 [(0, .ref (bo X + pp 106)), (1, rv (bo X) x1)] [] := by
  unfold f_X8_goOverPlain at h
  refine v_aload_n (pc := 0) O dX8_goOverPlain_0 0 rfl ?_
  refine v_aload_nr (pc := 1) O dX8_goOverPlain_1 1 rfl ?_
  obtain ⟨p3, e4, h⟩ := bind_some h
  refine v_callV (pc := 2) (a := 106) (As := [rv (bo X) x1]) (rest := []) (r := none) (D' := p3) O (bb0 hz) (c_X8_emitExpressions hm e4) mw_X8_emitExpressions im_X8_emitExpressions se_X8_emitExpressions ml_X8_68 kq_106 (by decide) rfl rfl rfl (by decide) (by decide) (Nat.le_of_ble_eq_true rfl) dX8_goOverPlain_2 rfl rfl ?_
  refine v_aload_nr (pc := 5) O dX8_goOverPlain_5 1 rfl ?_
  obtain ⟨a5, e6, h⟩ := bind_some h
  subst e6
  obtain ⟨c7, h⟩ := if_none h
  refine v_getI (pc := 6) (a := a5) O gf_X7_0 fl_X8_42 c7 dX8_goOverPlain_6 ?_
  refine v_bipush (pc := 9) O dX8_goOverPlain_9 bp_13 ?_
  refine v_icmpne (pc := 11) 36 O dX8_goOverPlain_11 (by decide) (fun c8 => ?_) (fun c8 => ?_)
  · have h := (if_neg c8).symm.trans h
    refine v_aload_n (pc := 36) O dX8_goOverPlain_36 0 rfl ?_
    refine v_aload_n (pc := 37) O dX8_goOverPlain_37 1 rfl ?_
    refine v_getI (pc := 38) (a := a5) O gf_X7_0 fl_X8_42 c7 dX8_goOverPlain_38 ?_
    refine v_aload_n (pc := 41) O dX8_goOverPlain_41 1 rfl ?_
    refine v_getI (pc := 42) (a := a5) O gf_X7_0 fl_X8_42 c7 dX8_goOverPlain_42 ?_
    refine v_bipush (pc := 45) O dX8_goOverPlain_45 bp_14 ?_
    refine v_icmpne (pc := 47) 57 O dX8_goOverPlain_47 (by decide) (fun c9 => ?_) (fun c9 => ?_)
    · have h := (if_neg c9).symm.trans h
      refine v_aload_n (pc := 57) O dX8_goOverPlain_57 1 rfl ?_
      refine v_getI (pc := 58) (a := a5) O gf_X7_2 fl_X8_54 c7 dX8_goOverPlain_58 ?_
      refine v_sub [] rfl ?_
      exact w_X8_goOverPlain_b61 O hm hn hz (dI p3 a5 2) (dI p3 a5 0) p3 h
    · have h := (if_pos c9).symm.trans h
      refine v_aload_n (pc := 50) O dX8_goOverPlain_50 1 rfl ?_
      refine v_getI (pc := 51) (a := a5) O gf_X7_3 fl_X8_71 c7 dX8_goOverPlain_51 ?_
      refine v_goto (pc := 54) 61 O dX8_goOverPlain_54 (by decide) ?_
      refine v_sub [] rfl ?_
      exact w_X8_goOverPlain_b61 O hm hn hz (dI p3 a5 3) (dI p3 a5 0) p3 h
  · have h := (if_pos c8).symm.trans h
    refine v_aload_n (pc := 14) O dX8_goOverPlain_14 0 rfl ?_
    refine v_bipush (pc := 15) O dX8_goOverPlain_15 bp_13 ?_
    refine v_aload_n (pc := 17) O dX8_goOverPlain_17 1 rfl ?_
    refine v_getI (pc := 18) (a := a5) O gf_X7_3 fl_X8_71 c7 dX8_goOverPlain_18 ?_
    obtain ⟨p10, e11, h⟩ := bind_some h
    refine v_callV (pc := 21) (a := 106) (As := [.int 13, .int (dI p3 a5 3)]) (rest := []) (r := none) (D' := p10) O (bb0 hz) (c_X8_emit hm e11) mw_X8_emit im_X8_emit se_X8_emit ml_X8_38 kq_106 (by decide) rfl rfl rfl (by decide) (by decide) (Nat.le_of_ble_eq_true rfl) dX8_goOverPlain_21 rfl rfl ?_
    refine v_aload_n (pc := 24) O dX8_goOverPlain_24 0 rfl ?_
    refine v_iconst (pc := 25) O dX8_goOverPlain_25 ic_2 ?_
    refine v_aload_n (pc := 26) O dX8_goOverPlain_26 1 rfl ?_
    refine v_getI (pc := 27) (a := a5) O gf_X7_2 fl_X8_54 c7 dX8_goOverPlain_27 ?_
    obtain ⟨p12, e13, h⟩ := bind_some h
    refine v_callV (pc := 30) (a := 106) (As := [.int 2, .int (dI p10 a5 2)]) (rest := []) (r := none) (D' := p12) O (bb0 hz) (c_X8_emit hm e13) mw_X8_emit im_X8_emit se_X8_emit ml_X8_38 kq_106 (by decide) rfl rfl rfl (by decide) (by decide) (Nat.le_of_ble_eq_true rfl) dX8_goOverPlain_30 rfl rfl ?_
    refine v_goto (pc := 33) 64 O dX8_goOverPlain_33 (by decide) ?_
    refine v_sub [] rfl ?_
    exact w_X8_goOverPlain_b64 O hm hn hz p12 h
theorem c_X8_goOverPlain {l : Launch} {w : Wx} {n nu c u : Nat} {K : Nat → Nat} {N : Nat} (hm : wlm w = true) {x1 : Option Nat} {D : Dat} {z : Dat} (h : f_X8_goOverPlain N nu K x1 D = some z) : C0 l w yX8_goOverPlain cX8_goOverPlain 2 none 3 66 [.ref (wb w + pp 106), rv (wb w) x1] n (Ax nu K c u) D none z :=
  C0.of (by decide) (by simp [lg_sl, rv_cat, cat_i, cat_l, cat_r, cat_n, fmt_cat]) (fun X e1 e2 e3 hz O => by
  subst e1
  subst e2
  have q : lv_args 0 [.ref (bo X + pp 106), rv (bo X) x1] = [(0, .ref (bo X + pp 106)), (1, rv (bo X) x1)] := by simp [lv_args, rv_cat, cat_i, cat_l, cat_r, cat_n, fmt_cat]
  show V X _ n _ D 0 (lv_args 0 [.ref (bo X + pp 106), rv (bo X) x1]) []
  rw [q]
  exact w_X8_goOverPlain O hm e3 hz x1 D h)
def f_X10_reckon_b52 (N : Nat) (nu : Nat) (K : Nat → Nat) (D : Dat) : Option (Dat) :=
  some D
set_option maxHeartbeats 4000000 in
theorem w_X10_reckon_b52 {X : Cx} {n nu c u : Nat} {K : Nat → Nat} {N : Nat} {z : Dat} (O : Ok X cX10_reckon RX10 none 3 67) (hm : wlm (xw X) = true) (hn : xn X = 3) (hz : Z0 X (Ax nu K c u)) (D : Dat) (h : f_X10_reckon_b52 N nu K D = some z) : V X (Q0 X n (Ax nu K c u) none z) n (Ax nu K c u) D 52 [] [] := by
  unfold f_X10_reckon_b52 at h
  obtain rfl := Option.some.inj h
  exact v_ret (pc := 52) O hz dX10_reckon_52
def f_X10_reckon_b5 (N : Nat) (nu : Nat) (K : Nat → Nat) : Nat → Option Nat → Int32 → Dat → Option (Dat)
  | 0, _, _, _ => none
  | g + 1, x1, x2, D => (x1).bind (fun a1 => if kd K a1 = 7 then (if (dI D a1 5) ≤ x2 then (f_X10_reckon_b52 N nu K D) else ((f_X3_goesOn D).bind (fun p5 => if p5.1 = 0 then (f_X10_reckon_b52 N nu K p5.2) else (((dR p5.2 189 1)).bind (fun a8 => if a8 = 191 ∨ a8 = 196 then ((f_X4_operation a8 x2 p5.2).bind (fun p11 => ((dR p11.2 189 1)).bind (fun a13 => if a13 = 191 ∨ a13 = 196 then ((f_X4_argument a13 x2 p11.2).bind (fun p16 => (f_X3_perform p11.1 p16.1 p16.2).bind (fun p18 => (f_X10_reckon_b5 N nu K g) (some a1) (x2 + 1) p18))) else none))) else none))))) else none)
set_option maxHeartbeats 4000000 in
theorem w_X10_reckon_b5 {X : Cx} {n nu c u : Nat} {K : Nat → Nat} {N : Nat} {z : Dat} (O : Ok X cX10_reckon RX10 none 3 67) (hm : wlm (xw X) = true) (hn : xn X = 3) (hz : Z0 X (Ax nu K c u)) : ∀ (g : Nat) (x1 : Option Nat) (x2 : Int32) (D : Dat), f_X10_reckon_b5 N nu K g x1 x2 D = some z → V X (Q0 X n (Ax nu K c u) none z) n (Ax nu K c u) D 5 [(0, .ref (bo X + pp 189)), (1, rv (bo X) x1), (2, .int x2)] [] := by
  intro g
  induction g with
  | zero => intro x1 x2 D h; exact absurd h (by simp [f_X10_reckon_b5])
  | succ g ih =>
    intro x1 x2 D h
    rw [f_X10_reckon_b5] at h
    refine v_iload_n (pc := 5) O dX10_reckon_5 2 rfl ?_
    refine v_aload_nr (pc := 6) O dX10_reckon_6 1 rfl ?_
    obtain ⟨a1, e2, h⟩ := bind_some h
    subst e2
    obtain ⟨c3, h⟩ := if_none h
    refine v_getI (pc := 7) (a := a1) O gf_X7_5 fl_X10_94 c3 dX10_reckon_7 ?_
    refine v_icmpge (pc := 10) 52 O dX10_reckon_10 (by decide) (fun c4 => ?_) (fun c4 => ?_)
    · have h := (if_pos c4).symm.trans h
      refine v_sub [] rfl ?_
      exact w_X10_reckon_b52 O hm hn hz D h
    · have h := (if_neg c4).symm.trans h
      refine v_aload_n (pc := 13) O dX10_reckon_13 0 rfl ?_
      refine v_getK (pc := 14) (a := 189) O hm gf_X10_0 fl_X10_9 kq_189 lk_189_0 dX10_reckon_14 ?_
      obtain ⟨p5, e6, h⟩ := bind_some h
      refine v_callV (pc := 17) (a := 181) (As := []) (rest := []) (r := (some (.int p5.1))) (D' := p5.2) O (bb0 hz) (c_X3_goesOn hm e6) mw_X3_goesOn im_X3_goesOn se_X3_goesOn ml_X10_34 kq_181 (by decide) rfl rfl rfl (by decide) (by decide) (Nat.le_of_ble_eq_true rfl) dX10_reckon_17 rfl rfl ?_
      refine v_ifeq (pc := 20) 52 O dX10_reckon_20 (by decide) (fun c7 => ?_) (fun c7 => ?_)
      · have h := (if_pos c7).symm.trans h
        refine v_sub [] rfl ?_
        exact w_X10_reckon_b52 O hm hn hz p5.2 h
      · have h := (if_neg c7).symm.trans h
        refine v_aload_n (pc := 23) O dX10_reckon_23 0 rfl ?_
        refine v_getK (pc := 24) (a := 189) O hm gf_X10_0 fl_X10_9 kq_189 lk_189_0 dX10_reckon_24 ?_
        refine v_aload_n (pc := 27) O dX10_reckon_27 0 rfl ?_
        refine v_getR (pc := 28) (a := 189) O gf_X10_1 fl_X10_15 kq_189 dX10_reckon_28 ?_
        refine v_iload_n (pc := 31) O dX10_reckon_31 2 rfl ?_
        obtain ⟨a8, e9, h⟩ := bind_some h
        rw [e9]
        obtain ⟨c10, h⟩ := if_none h
        obtain ⟨p11, e12, h⟩ := bind_some h
        refine v_callV (pc := 32) (a := a8) (As := [.int x2]) (rest := [.ref (bo X + pp 181)]) (r := (some (.int p11.1))) (D' := p11.2) O (bb0 hz) (c_X4_operation hm c10 e12) mw_X4_operation im_X4_operation se_X4_operation ml_X10_97 (kt_X4 c10) (by decide) rfl rfl rfl (by decide) (by decide) (Nat.le_of_ble_eq_true rfl) dX10_reckon_32 rfl rfl ?_
        refine v_aload_n (pc := 35) O dX10_reckon_35 0 rfl ?_
        refine v_getR (pc := 36) (a := 189) O gf_X10_1 fl_X10_15 kq_189 dX10_reckon_36 ?_
        refine v_iload_n (pc := 39) O dX10_reckon_39 2 rfl ?_
        obtain ⟨a13, e14, h⟩ := bind_some h
        rw [e14]
        obtain ⟨c15, h⟩ := if_none h
        obtain ⟨p16, e17, h⟩ := bind_some h
        refine v_callV (pc := 40) (a := a13) (As := [.int x2]) (rest := [.int p11.1, .ref (bo X + pp 181)]) (r := (some (.int p16.1))) (D' := p16.2) O (bb0 hz) (c_X4_argument hm c15 e17) mw_X4_argument im_X4_argument se_X4_argument ml_X10_101 (kt_X4 c15) (by decide) rfl rfl rfl (by decide) (by decide) (Nat.le_of_ble_eq_true rfl) dX10_reckon_40 rfl rfl ?_
        obtain ⟨p18, e19, h⟩ := bind_some h
        refine v_callV (pc := 43) (a := 181) (As := [.int p11.1, .int p16.1]) (rest := []) (r := none) (D' := p18) O (bb0 hz) (c_X3_perform hm e19) mw_X3_perform im_X3_perform se_X3_perform ml_X10_73 kq_181 (by decide) rfl rfl rfl (by decide) (by decide) (Nat.le_of_ble_eq_true rfl) dX10_reckon_43 rfl rfl ?_
        refine v_iinc (pc := 46) (lv' := [(2, .int (x2 + 1)), (0, .ref (bo X + pp 189)), (1, .ref (bo X + pp a1))]) O dX10_reckon_46 2 rfl (congrArg (fun q => x2 + q) ic_1) (by rw [hn]; decide) rfl ?_
        refine v_goto (pc := 49) 5 O dX10_reckon_49 (by decide) ?_
        refine v_sub [1, 2, 0] rfl ?_
        exact ih (some a1) (x2 + 1) p18 h
def f_X10_reckon (N : Nat) (nu : Nat) (K : Nat → Nat) (x1 : Option Nat) (D : Dat) : Option (Dat) :=
  (x1).bind (fun a20 => if kd K a20 = 7 then (f_X10_reckon_b5 N nu K N (some a20) (dI D a20 4) D) else none)
set_option maxHeartbeats 4000000 in
theorem w_X10_reckon {X : Cx} {n nu c u : Nat} {K : Nat → Nat} {N : Nat} {z : Dat} (O : Ok X cX10_reckon RX10 none 3 67) (hm : wlm (xw X) = true) (hn : xn X = 3) (hz : Z0 X (Ax nu K c u)) (x1 : Option Nat) (D : Dat) (h : f_X10_reckon N nu K x1 D = some z) : V X (Q0 X n (Ax nu K c u) none z) n (Ax nu K c u) D 0 [(0, .ref (bo X + pp 189)), (1, rv (bo X) x1)] [] := by
  unfold f_X10_reckon at h
  refine v_aload_nr (pc := 0) O dX10_reckon_0 1 rfl ?_
  obtain ⟨a20, e21, h⟩ := bind_some h
  subst e21
  obtain ⟨c22, h⟩ := if_none h
  refine v_getI (pc := 1) (a := a20) O gf_X7_4 fl_X10_91 c22 dX10_reckon_1 ?_
  refine v_istore_n (pc := 4) (lv' := [(2, .int (dI D a20 4)), (0, .ref (bo X + pp 189)), (1, .ref (bo X + pp a20))]) O dX10_reckon_4 rfl (by rw [hn]; decide) rfl ?_
  refine v_sub [1, 2, 0] rfl ?_
  exact w_X10_reckon_b5 O hm hn hz N (some a20) (dI D a20 4) D h
theorem c_X10_reckon {l : Launch} {w : Wx} {n nu c u : Nat} {K : Nat → Nat} {N : Nat} (hm : wlm w = true) {x1 : Option Nat} {D : Dat} {z : Dat} (h : f_X10_reckon N nu K x1 D = some z) : C0 l w yX10_reckon cX10_reckon 3 none 3 67 [.ref (wb w + pp 189), rv (wb w) x1] n (Ax nu K c u) D none z :=
  C0.of (by decide) (by simp [lg_sl, rv_cat, cat_i, cat_l, cat_r, cat_n, fmt_cat]) (fun X e1 e2 e3 hz O => by
  subst e1
  subst e2
  have q : lv_args 0 [.ref (bo X + pp 189), rv (bo X) x1] = [(0, .ref (bo X + pp 189)), (1, rv (bo X) x1)] := by simp [lv_args, rv_cat, cat_i, cat_l, cat_r, cat_n, fmt_cat]
  show V X _ n _ D 0 (lv_args 0 [.ref (bo X + pp 189), rv (bo X) x1]) []
  rw [q]
  exact w_X10_reckon O hm e3 hz x1 D h)
def f_X8_goOverIf_b114 (rec : Option Nat → Int32 → Dat → Option (Dat)) (N : Nat) (nu : Nat) (K : Nat → Nat) (D : Dat) : Option (Dat) :=
  some D
set_option maxHeartbeats 4000000 in
theorem w_X8_goOverIf_b114 {X : Cx} {n nu c u : Nat} {K : Nat → Nat} {rec : Option Nat → Int32 → Dat → Option (Dat)} {N : Nat} {fr lc : Nat} {z : Dat} (O : Ok X cX8_goOverIf RX8 none (fr + 3) (lc + 66)) (hm : wlm (xw X) = true) (hn : xn X = 5) (hz : Z0 X (Ax nu K c u)) (hR : ∀ {n : Nat} {x1 : Option Nat} {x2 : Int32} {D : Dat} {z : Dat}, rec x1 x2 D = some z → C0 (xl X) (xw X) yX8_goThrough cX8_goThrough 4 none fr lc [.ref (wb (xw X) + pp 106), rv (wb (xw X)) x1, .int x2] n (Ax nu K c u) D none z) (D : Dat) (h : f_X8_goOverIf_b114 rec N nu K D = some z) : V X (Q0 X n (Ax nu K c u) none z) n (Ax nu K c u) D 114 [] [] := by
  unfold f_X8_goOverIf_b114 at h
  obtain rfl := Option.some.inj h
  exact v_ret (pc := 114) O hz dX8_goOverIf_114
def f_X8_goOverIf (rec : Option Nat → Int32 → Dat → Option (Dat)) (N : Nat) (nu : Nat) (K : Nat → Nat) (x1 : Option Nat) (x2 : Int32) (D : Dat) : Option (Dat) :=
  (f_X8_emitExpressions N nu K x1 D).bind (fun p1 => ((dR p1 106 1)).bind (fun a3 => if a3 = 201 ∨ a3 = 204 then ((f_X0_size a3 p1).bind (fun p6 => (f_X8_emit 11 0 p6.2).bind (fun p8 => (x1).bind (fun a10 => if kd K a10 = 7 then ((rec (dR p8 a10 6) (x2 + (1 : Int32)) p8).bind (fun p13 => if (dI p13 a10 8) = 0 then (((dR p13 106 1)).bind (fun a16 => if a16 = 201 ∨ a16 = 204 then ((f_X0_size a16 p13).bind (fun p19 => (f_X0_aim a16 p6.1 p19.1 p19.2).bind (fun p21 => f_X8_goOverIf_b114 rec N nu K p21))) else none)) else (((dR p13 106 1)).bind (fun a23 => if a23 = 201 ∨ a23 = 204 then ((f_X0_size a23 p13).bind (fun p26 => (f_X8_emit 12 0 p26.2).bind (fun p28 => ((dR p28 106 1)).bind (fun a30 => if a30 = 201 ∨ a30 = 204 then ((f_X0_size a30 p28).bind (fun p33 => (f_X0_aim a30 p6.1 p33.1 p33.2).bind (fun p35 => (rec (dR p35 a10 7) (x2 + (1 : Int32)) p35).bind (fun p37 => ((dR p37 106 1)).bind (fun a39 => if a39 = 201 ∨ a39 = 204 then ((f_X0_size a39 p37).bind (fun p42 => (f_X0_aim a39 p26.1 p42.1 p42.2).bind (fun p44 => f_X8_goOverIf_b114 rec N nu K p44))) else none))))) else none)))) else none)))) else none)))) else none))
set_option maxHeartbeats 4000000 in
theorem w_X8_goOverIf {X : Cx} {n nu c u : Nat} {K : Nat → Nat} {rec : Option Nat → Int32 → Dat → Option (Dat)} {N : Nat} {fr lc : Nat} {z : Dat} (O : Ok X cX8_goOverIf RX8 none (fr + 3) (lc + 66)) (hm : wlm (xw X) = true) (hn : xn X = 5) (hz : Z0 X (Ax nu K c u)) (hR : ∀ {n : Nat} {x1 : Option Nat} {x2 : Int32} {D : Dat} {z : Dat}, rec x1 x2 D = some z → C0 (xl X) (xw X) yX8_goThrough cX8_goThrough 4 none fr lc [.ref (wb (xw X) + pp 106), rv (wb (xw X)) x1, .int x2] n (Ax nu K c u) D none z) (x1 : Option Nat) (x2 : Int32) (D : Dat) (h : f_X8_goOverIf rec N nu K x1 x2 D = some z) : V X (Q0 X n (Ax nu K c u) none z) n (Ax nu K c u) D 0 [(0, .ref (bo X + pp 106)), (1, rv (bo X) x1), (2, .int x2)] [] := by
  unfold f_X8_goOverIf at h
  refine v_aload_n (pc := 0) O dX8_goOverIf_0 0 rfl ?_
  refine v_aload_nr (pc := 1) O dX8_goOverIf_1 1 rfl ?_
  obtain ⟨p1, e2, h⟩ := bind_some h
  refine v_callV (pc := 2) (a := 106) (As := [rv (bo X) x1]) (rest := []) (r := none) (D' := p1) O (bb0 hz) (c_X8_emitExpressions hm e2) mw_X8_emitExpressions im_X8_emitExpressions se_X8_emitExpressions ml_X8_68 kq_106 (by decide) rfl rfl rfl (by omega) (by omega) (Nat.le_of_ble_eq_true rfl) dX8_goOverIf_2 rfl rfl ?_
  refine v_aload_n (pc := 5) O dX8_goOverIf_5 0 rfl ?_
  refine v_getR (pc := 6) (a := 106) O gf_X8_1 fl_X8_15 kq_106 dX8_goOverIf_6 ?_
  obtain ⟨a3, e4, h⟩ := bind_some h
  rw [e4]
  obtain ⟨c5, h⟩ := if_none h
  obtain ⟨p6, e7, h⟩ := bind_some h
  refine v_callV (pc := 9) (a := a3) (As := []) (rest := []) (r := (some (.int p6.1))) (D' := p6.2) O (bb0 hz) (c_X0_size hm c5 e7) mw_X0_size im_X0_size se_X0_size ml_X8_74 (kt_X0 c5) (by decide) rfl rfl rfl (by omega) (by omega) (Nat.le_of_ble_eq_true rfl) dX8_goOverIf_9 rfl rfl ?_
  refine v_istore_n (pc := 12) (lv' := [(3, .int p6.1), (0, .ref (bo X + pp 106)), (1, rv (bo X) x1), (2, .int x2)]) O dX8_goOverIf_12 rfl (by rw [hn]; decide) rfl ?_
  refine v_aload_n (pc := 13) O dX8_goOverIf_13 1 rfl ?_
  refine v_bipush (pc := 14) O dX8_goOverIf_14 bp_11 ?_
  refine v_iconst (pc := 16) O dX8_goOverIf_16 ic_0 ?_
  obtain ⟨p8, e9, h⟩ := bind_some h
  refine v_callV (pc := 17) (a := 106) (As := [.int 11, .int 0]) (rest := []) (r := none) (D' := p8) O (bb0 hz) (c_X8_emit hm e9) mw_X8_emit im_X8_emit se_X8_emit ml_X8_38 kq_106 (by decide) rfl rfl rfl (by omega) (by omega) (Nat.le_of_ble_eq_true rfl) dX8_goOverIf_17 rfl rfl ?_
  refine v_aload_n (pc := 20) O dX8_goOverIf_20 1 rfl ?_
  refine v_aload_nr (pc := 21) O dX8_goOverIf_21 2 rfl ?_
  obtain ⟨a10, e11, h⟩ := bind_some h
  subst e11
  obtain ⟨c12, h⟩ := if_none h
  refine v_getR (pc := 22) (a := a10) O gf_X7_6 fl_X8_78 c12 dX8_goOverIf_22 ?_
  refine v_iload_n (pc := 25) O dX8_goOverIf_25 3 rfl ?_
  refine v_iconst (pc := 26) O dX8_goOverIf_26 ic_1 ?_
  refine v_iadd (pc := 27) O dX8_goOverIf_27 ?_
  obtain ⟨p13, e14, h⟩ := bind_some h
  refine v_callV (pc := 28) (a := 106) (As := [rv (bo X) (dR p8 a10 6), .int (x2 + (1 : Int32))]) (rest := []) (r := none) (D' := p13) O (bb0 hz) (hR e14) mw_X8_goThrough im_X8_goThrough se_X8_goThrough ml_X8_34 kq_106 (by decide) rfl rfl rfl (by omega) (by omega) (Nat.le_of_ble_eq_true rfl) dX8_goOverIf_28 rfl rfl ?_
  refine v_aload_n (pc := 31) O dX8_goOverIf_31 2 rfl ?_
  refine v_getI (pc := 32) (a := a10) O gf_X7_8 fl_X8_81 c12 dX8_goOverIf_32 ?_
  refine v_ifeq (pc := 35) 99 O dX8_goOverIf_35 (by decide) (fun c15 => ?_) (fun c15 => ?_)
  · have h := (if_pos c15).symm.trans h
    refine v_aload_n (pc := 99) O dX8_goOverIf_99 1 rfl ?_
    refine v_getR (pc := 100) (a := 106) O gf_X8_1 fl_X8_15 kq_106 dX8_goOverIf_100 ?_
    refine v_iload_n (pc := 103) O dX8_goOverIf_103 0 rfl ?_
    refine v_aload_n (pc := 104) O dX8_goOverIf_104 1 rfl ?_
    refine v_getR (pc := 105) (a := 106) O gf_X8_1 fl_X8_15 kq_106 dX8_goOverIf_105 ?_
    obtain ⟨a16, e17, h⟩ := bind_some h
    rw [e17]
    obtain ⟨c18, h⟩ := if_none h
    obtain ⟨p19, e20, h⟩ := bind_some h
    refine v_callV (pc := 108) (a := a16) (As := []) (rest := [.int p6.1, .ref (bo X + pp a16)]) (r := (some (.int p19.1))) (D' := p19.2) O (bb0 hz) (c_X0_size hm c18 e20) mw_X0_size im_X0_size se_X0_size ml_X8_74 (kt_X0 c18) (by decide) rfl rfl rfl (by omega) (by omega) (Nat.le_of_ble_eq_true rfl) dX8_goOverIf_108 rfl rfl ?_
    obtain ⟨p21, e22, h⟩ := bind_some h
    refine v_callV (pc := 111) (a := a16) (As := [.int p6.1, .int p19.1]) (rest := []) (r := none) (D' := p21) O (bb0 hz) (c_X0_aim hm c18 e22) mw_X0_aim im_X0_aim se_X0_aim ml_X8_84 (kt_X0 c18) (by decide) rfl rfl rfl (by omega) (by omega) (Nat.le_of_ble_eq_true rfl) dX8_goOverIf_111 rfl rfl ?_
    refine v_sub [] rfl ?_
    exact w_X8_goOverIf_b114 O hm hn hz hR p21 h
  · have h := (if_neg c15).symm.trans h
    refine v_aload_n (pc := 38) O dX8_goOverIf_38 1 rfl ?_
    refine v_getR (pc := 39) (a := 106) O gf_X8_1 fl_X8_15 kq_106 dX8_goOverIf_39 ?_
    obtain ⟨a23, e24, h⟩ := bind_some h
    rw [e24]
    obtain ⟨c25, h⟩ := if_none h
    obtain ⟨p26, e27, h⟩ := bind_some h
    refine v_callV (pc := 42) (a := a23) (As := []) (rest := []) (r := (some (.int p26.1))) (D' := p26.2) O (bb0 hz) (c_X0_size hm c25 e27) mw_X0_size im_X0_size se_X0_size ml_X8_74 (kt_X0 c25) (by decide) rfl rfl rfl (by omega) (by omega) (Nat.le_of_ble_eq_true rfl) dX8_goOverIf_42 rfl rfl ?_
    refine v_istore (pc := 45) (lv' := [(4, .int p26.1), (3, .int p6.1), (0, .ref (bo X + pp 106)), (1, .ref (bo X + pp a10)), (2, .int x2)]) O dX8_goOverIf_45 (by rw [hn]; decide) rfl ?_
    refine v_aload_n (pc := 47) O dX8_goOverIf_47 2 rfl ?_
    refine v_bipush (pc := 48) O dX8_goOverIf_48 bp_12 ?_
    refine v_iconst (pc := 50) O dX8_goOverIf_50 ic_0 ?_
    obtain ⟨p28, e29, h⟩ := bind_some h
    refine v_callV (pc := 51) (a := 106) (As := [.int 12, .int 0]) (rest := []) (r := none) (D' := p28) O (bb0 hz) (c_X8_emit hm e29) mw_X8_emit im_X8_emit se_X8_emit ml_X8_38 kq_106 (by decide) rfl rfl rfl (by omega) (by omega) (Nat.le_of_ble_eq_true rfl) dX8_goOverIf_51 rfl rfl ?_
    refine v_aload_n (pc := 54) O dX8_goOverIf_54 2 rfl ?_
    refine v_getR (pc := 55) (a := 106) O gf_X8_1 fl_X8_15 kq_106 dX8_goOverIf_55 ?_
    refine v_iload_n (pc := 58) O dX8_goOverIf_58 1 rfl ?_
    refine v_aload_n (pc := 59) O dX8_goOverIf_59 2 rfl ?_
    refine v_getR (pc := 60) (a := 106) O gf_X8_1 fl_X8_15 kq_106 dX8_goOverIf_60 ?_
    obtain ⟨a30, e31, h⟩ := bind_some h
    rw [e31]
    obtain ⟨c32, h⟩ := if_none h
    obtain ⟨p33, e34, h⟩ := bind_some h
    refine v_callV (pc := 63) (a := a30) (As := []) (rest := [.int p6.1, .ref (bo X + pp a30)]) (r := (some (.int p33.1))) (D' := p33.2) O (bb0 hz) (c_X0_size hm c32 e34) mw_X0_size im_X0_size se_X0_size ml_X8_74 (kt_X0 c32) (by decide) rfl rfl rfl (by omega) (by omega) (Nat.le_of_ble_eq_true rfl) dX8_goOverIf_63 rfl rfl ?_
    obtain ⟨p35, e36, h⟩ := bind_some h
    refine v_callV (pc := 66) (a := a30) (As := [.int p6.1, .int p33.1]) (rest := []) (r := none) (D' := p35) O (bb0 hz) (c_X0_aim hm c32 e36) mw_X0_aim im_X0_aim se_X0_aim ml_X8_84 (kt_X0 c32) (by decide) rfl rfl rfl (by omega) (by omega) (Nat.le_of_ble_eq_true rfl) dX8_goOverIf_66 rfl rfl ?_
    refine v_aload_n (pc := 69) O dX8_goOverIf_69 2 rfl ?_
    refine v_aload_n (pc := 70) O dX8_goOverIf_70 3 rfl ?_
    refine v_getR (pc := 71) (a := a10) O gf_X7_7 fl_X8_87 c12 dX8_goOverIf_71 ?_
    refine v_iload_n (pc := 74) O dX8_goOverIf_74 4 rfl ?_
    refine v_iconst (pc := 75) O dX8_goOverIf_75 ic_1 ?_
    refine v_iadd (pc := 76) O dX8_goOverIf_76 ?_
    obtain ⟨p37, e38, h⟩ := bind_some h
    refine v_callV (pc := 77) (a := 106) (As := [rv (bo X) (dR p35 a10 7), .int (x2 + (1 : Int32))]) (rest := []) (r := none) (D' := p37) O (bb0 hz) (hR e38) mw_X8_goThrough im_X8_goThrough se_X8_goThrough ml_X8_34 kq_106 (by decide) rfl rfl rfl (by omega) (by omega) (Nat.le_of_ble_eq_true rfl) dX8_goOverIf_77 rfl rfl ?_
    refine v_aload_n (pc := 80) O dX8_goOverIf_80 2 rfl ?_
    refine v_getR (pc := 81) (a := 106) O gf_X8_1 fl_X8_15 kq_106 dX8_goOverIf_81 ?_
    refine v_iload (pc := 84) O dX8_goOverIf_84 0 rfl ?_
    refine v_aload_n (pc := 86) O dX8_goOverIf_86 2 rfl ?_
    refine v_getR (pc := 87) (a := 106) O gf_X8_1 fl_X8_15 kq_106 dX8_goOverIf_87 ?_
    obtain ⟨a39, e40, h⟩ := bind_some h
    rw [e40]
    obtain ⟨c41, h⟩ := if_none h
    obtain ⟨p42, e43, h⟩ := bind_some h
    refine v_callV (pc := 90) (a := a39) (As := []) (rest := [.int p26.1, .ref (bo X + pp a39)]) (r := (some (.int p42.1))) (D' := p42.2) O (bb0 hz) (c_X0_size hm c41 e43) mw_X0_size im_X0_size se_X0_size ml_X8_74 (kt_X0 c41) (by decide) rfl rfl rfl (by omega) (by omega) (Nat.le_of_ble_eq_true rfl) dX8_goOverIf_90 rfl rfl ?_
    obtain ⟨p44, e45, h⟩ := bind_some h
    refine v_callV (pc := 93) (a := a39) (As := [.int p26.1, .int p42.1]) (rest := []) (r := none) (D' := p44) O (bb0 hz) (c_X0_aim hm c41 e45) mw_X0_aim im_X0_aim se_X0_aim ml_X8_84 (kt_X0 c41) (by decide) rfl rfl rfl (by omega) (by omega) (Nat.le_of_ble_eq_true rfl) dX8_goOverIf_93 rfl rfl ?_
    refine v_goto (pc := 96) 114 O dX8_goOverIf_96 (by decide) ?_
    refine v_sub [] rfl ?_
    exact w_X8_goOverIf_b114 O hm hn hz hR p44 h
theorem c_X8_goOverIf {l : Launch} {w : Wx} {n nu c u : Nat} {K : Nat → Nat} {rec : Option Nat → Int32 → Dat → Option (Dat)} {N : Nat} {fr lc : Nat} (hm : wlm w = true) (hR : ∀ {n : Nat} {x1 : Option Nat} {x2 : Int32} {D : Dat} {z : Dat}, rec x1 x2 D = some z → C0 l w yX8_goThrough cX8_goThrough 4 none fr lc [.ref (wb w + pp 106), rv (wb w) x1, .int x2] n (Ax nu K c u) D none z) {x1 : Option Nat} {x2 : Int32} {D : Dat} {z : Dat} (h : f_X8_goOverIf rec N nu K x1 x2 D = some z) : C0 l w yX8_goOverIf cX8_goOverIf 5 none (fr + 3) (lc + 66) [.ref (wb w + pp 106), rv (wb w) x1, .int x2] n (Ax nu K c u) D none z :=
  C0.of (by decide) (by simp [lg_sl, rv_cat, cat_i, cat_l, cat_r, cat_n, fmt_cat]) (fun X e1 e2 e3 hz O => by
  subst e1
  subst e2
  have q : lv_args 0 [.ref (bo X + pp 106), rv (bo X) x1, .int x2] = [(0, .ref (bo X + pp 106)), (1, rv (bo X) x1), (2, .int x2)] := by simp [lv_args, rv_cat, cat_i, cat_l, cat_r, cat_n, fmt_cat]
  show V X _ n _ D 0 (lv_args 0 [.ref (bo X + pp 106), rv (bo X) x1, .int x2]) []
  rw [q]
  exact w_X8_goOverIf O hm e3 hz hR x1 x2 D h)
