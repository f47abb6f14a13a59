theorem ml_X3_66 : Cond.methodLink RX3 66 yX3_burns ∈ tb := tb_of 1564 (by decide +kernel) (by decide +kernel)
theorem ml_X3_69 : Cond.methodLink RX3 69 yX0_operation ∈ tb := tb_of 1568 (by decide +kernel) (by decide +kernel)
theorem ml_X3_74 : Cond.methodLink RX3 74 yX0_argument ∈ tb := tb_of 1569 (by decide +kernel) (by decide +kernel)
theorem pf_X9_2 : PI 9 RX9 TX9 13 tyX9 2 2 (.object "FlowChain$Code") := ⟨gf_X9_2, rfl, rfl⟩
theorem pf_X9_3 : PI 9 RX9 TX9 13 tyX9 3 2 (.array .int) := ⟨gf_X9_3, rfl, rfl⟩
theorem pf_X10_1 : PI 10 RX10 TX10 2 tyX10 1 2 (.object "FlowChain$Program") := ⟨gf_X10_1, rfl, rfl⟩
theorem fl_X10_19 : Cond.fieldLink RX10 19 RX4 (TX4 0).2.1 (TX4 0).2.2.1 ∈ tb := tb_of 446 (by decide +kernel) (by decide +kernel)
theorem cw_X9_argumentsFit : Cond.code yX9_argumentsFit cX9_argumentsFit 2 (some .boolean) ∈ tb := tb_of 1305 (by decide +kernel) (by decide +kernel)
theorem mw_X9_argumentsFit : MW yX9_argumentsFit cX9_argumentsFit 2 (some .boolean) 0 := ⟨cw_X9_argumentsFit, ini_X9, by decide +kernel⟩
theorem im_X9_argumentsFit : Cond.instanceMethod yX9_argumentsFit ∈ tb := tb_of 1304 (by decide +kernel) (by decide +kernel)
theorem se_X9_argumentsFit : Cond.selects (yX9_argumentsFit).cls yX9_argumentsFit yX9_argumentsFit ∈ tb := tb_of 52 (by decide +kernel) (by decide +kernel)
theorem ml_X9_90 : Cond.methodLink RX9 90 yX9_argumentsFit ∈ tb := tb_of 1302 (by decide +kernel) (by decide +kernel)
theorem cw_X9_endFits : Cond.code yX9_endFits cX9_endFits 3 (some .boolean) ∈ tb := tb_of 1328 (by decide +kernel) (by decide +kernel)
theorem mw_X9_endFits : MW yX9_endFits cX9_endFits 3 (some .boolean) 0 := ⟨cw_X9_endFits, ini_X9, by decide +kernel⟩
theorem im_X9_endFits : Cond.instanceMethod yX9_endFits ∈ tb := tb_of 1327 (by decide +kernel) (by decide +kernel)
theorem se_X9_endFits : Cond.selects (yX9_endFits).cls yX9_endFits yX9_endFits ∈ tb := tb_of 55 (by decide +kernel) (by decide +kernel)
theorem ml_X9_94 : Cond.methodLink RX9 94 yX9_endFits ∈ tb := tb_of 1325 (by decide +kernel) (by decide +kernel)
theorem cw_X9_heightsFit : Cond.code yX9_heightsFit cX9_heightsFit 5 (some .boolean) ∈ tb := tb_of 1332 (by decide +kernel) (by decide +kernel)
theorem mw_X9_heightsFit : MW yX9_heightsFit cX9_heightsFit 5 (some .boolean) 0 := ⟨cw_X9_heightsFit, ini_X9, by decide +kernel⟩
theorem im_X9_heightsFit : Cond.instanceMethod yX9_heightsFit ∈ tb := tb_of 1331 (by decide +kernel) (by decide +kernel)
theorem se_X9_heightsFit : Cond.selects (yX9_heightsFit).cls yX9_heightsFit yX9_heightsFit ∈ tb := tb_of 56 (by decide +kernel) (by decide +kernel)
theorem ml_X9_97 : Cond.methodLink RX9 97 yX9_heightsFit ∈ tb := tb_of 1329 (by decide +kernel) (by decide +kernel)
theorem cw_X6_find : Cond.code yX6_find cX6_find 6 none ∈ tb := tb_of 1377 (by decide +kernel) (by decide +kernel)
theorem mw_X6_find : MW yX6_find cX6_find 6 none 2 := ⟨cw_X6_find, ini_X6, by decide +kernel⟩
theorem im_X6_find : Cond.instanceMethod yX6_find ∈ tb := tb_of 1375 (by decide +kernel) (by decide +kernel)
theorem se_X6_find : Cond.selects (yX6_find).cls yX6_find yX6_find ∈ tb := tb_of 1376 (by decide +kernel) (by decide +kernel)
theorem ml_X9_100 : Cond.methodLink RX9 100 yX6_find ∈ tb := tb_of 1374 (by decide +kernel) (by decide +kernel)
theorem cw_X3_step : Cond.code yX3_step cX3_step 4 (some .int) ∈ tb := tb_of 1573 (by decide +kernel) (by decide +kernel)
theorem mw_X3_step : MW yX3_step cX3_step 4 (some .int) 3 := ⟨cw_X3_step, ini_X3, by decide +kernel⟩
theorem im_X3_step : Cond.instanceMethod yX3_step ∈ tb := tb_of 1572 (by decide +kernel) (by decide +kernel)
theorem se_X3_step : Cond.selects (yX3_step).cls yX3_step yX3_step ∈ tb := tb_of 73 (by decide +kernel) (by decide +kernel)
theorem ml_X3_77 : Cond.methodLink RX3 77 yX3_step ∈ tb := tb_of 1570 (by decide +kernel) (by decide +kernel)
theorem cw_X9_findLabels : Cond.code yX9_findLabels cX9_findLabels 3 none ∈ tb := tb_of 1411 (by decide +kernel) (by decide +kernel)
theorem mw_X9_findLabels : MW yX9_findLabels cX9_findLabels 3 none 0 := ⟨cw_X9_findLabels, ini_X9, by decide +kernel⟩
theorem im_X9_findLabels : Cond.instanceMethod yX9_findLabels ∈ tb := tb_of 1410 (by decide +kernel) (by decide +kernel)
theorem se_X9_findLabels : Cond.selects (yX9_findLabels).cls yX9_findLabels yX9_findLabels ∈ tb := tb_of 63 (by decide +kernel) (by decide +kernel)
theorem ml_X9_104 : Cond.methodLink RX9 104 yX9_findLabels ∈ tb := tb_of 1408 (by decide +kernel) (by decide +kernel)
theorem cw_X9_flowsFit : Cond.code yX9_flowsFit cX9_flowsFit 2 (some .boolean) ∈ tb := tb_of 1450 (by decide +kernel) (by decide +kernel)
theorem mw_X9_flowsFit : MW yX9_flowsFit cX9_flowsFit 2 (some .boolean) 0 := ⟨cw_X9_flowsFit, ini_X9, by decide +kernel⟩
theorem im_X9_flowsFit : Cond.instanceMethod yX9_flowsFit ∈ tb := tb_of 1449 (by decide +kernel) (by decide +kernel)
theorem se_X9_flowsFit : Cond.selects (yX9_flowsFit).cls yX9_flowsFit yX9_flowsFit ∈ tb := tb_of 71 (by decide +kernel) (by decide +kernel)
theorem ml_X9_107 : Cond.methodLink RX9 107 yX9_flowsFit ∈ tb := tb_of 1447 (by decide +kernel) (by decide +kernel)
theorem ml_X10_29 : Cond.methodLink RX10 29 yX3_finish ∈ tb := tb_of 1668 (by decide +kernel) (by decide +kernel)
def f_X3_goOver_b47 (N : Nat) (D : Dat) : Option (Dat) :=
  some D
set_option maxHeartbeats 4000000 in
theorem w_X3_goOver_b47 {X : Cx} {n nu c u : Nat} {K : Nat → Nat} {N : Nat} {z : Dat} (O : Ok X cX3_goOver RX3 none 5 110) (hm : wlm (xw X) = true) (hn : xn X = 4) (hz : Z0 X (Ax nu K c u)) (D : Dat) (h : f_X3_goOver_b47 N D = some z) : V X (Q0 X n (Ax nu K c u) none z) n (Ax nu K c u) D 47 [] [] := by
  unfold f_X3_goOver_b47 at h
  obtain rfl := Option.some.inj h
  exact v_ret (pc := 47) O hz dX3_goOver_47
def f_X3_goOver_b4 (N : Nat) : Nat → Option Nat → Int32 → Int32 → Dat → Option (Dat)
  | 0, _, _, _, _ => none
  | g + 1, x1, x2, x3, D => if 600 < x3 then (f_X3_goOver_b47 N D) else ((f_X3_goesOn D).bind (fun p2 => if p2.1 = 0 then (f_X3_goOver_b47 N p2.2) else ((f_X3_burns p2.2).bind (fun p5 => if p5.1 = 0 then (f_X3_goOver_b47 N p5.2) else ((x1).bind (fun a8 => if a8 = 201 ∨ a8 = 204 then ((f_X0_operation a8 x2 p5.2).bind (fun p11 => (f_X0_argument a8 x2 p11.2).bind (fun p13 => (f_X3_step p11.1 p13.1 x2 p13.2).bind (fun p15 => (f_X3_goOver_b4 N g) (some a8) p15.1 (x3 + 1) p15.2)))) else none))))))
set_option maxHeartbeats 4000000 in
theorem w_X3_goOver_b4 {X : Cx} {n nu c u : Nat} {K : Nat → Nat} {N : Nat} {z : Dat} (O : Ok X cX3_goOver RX3 none 5 110) (hm : wlm (xw X) = true) (hn : xn X = 4) (hz : Z0 X (Ax nu K c u)) : ∀ (g : Nat) (x1 : Option Nat) (x2 : Int32) (x3 : Int32) (D : Dat), f_X3_goOver_b4 N g x1 x2 x3 D = some z → V X (Q0 X n (Ax nu K c u) none z) n (Ax nu K c u) D 4 [(0, .ref (bo X + 181)), (1, rv (bo X) x1), (2, .int x2), (3, .int x3)] [] := by
  intro g
  induction g with
  | zero => intro x1 x2 x3 D h; exact absurd h (by simp [f_X3_goOver_b4])
  | succ g ih =>
    intro x1 x2 x3 D h
    rw [f_X3_goOver_b4] at h
    refine v_iload_n (pc := 4) O dX3_goOver_4 3 rfl ?_
    refine v_sipush (pc := 5) O dX3_goOver_5 sp_600 ?_
    refine v_icmpgt (pc := 8) 47 O dX3_goOver_8 (by decide) (fun c1 => ?_) (fun c1 => ?_)
    · have h := (if_pos c1).symm.trans h
      refine v_sub [] rfl ?_
      exact w_X3_goOver_b47 O hm hn hz D h
    · have h := (if_neg c1).symm.trans h
      refine v_aload_n (pc := 11) O dX3_goOver_11 0 rfl ?_
      obtain ⟨p2, e3, h⟩ := bind_some h
      refine v_callV (pc := 12) (a := 181) (As := []) (rest := []) (r := (some (.int p2.1))) (D' := p2.2) O (bb0 hz) (c_X3_goesOn hm e3) mw_X3_goesOn im_X3_goesOn se_X3_goesOn ml_X3_62 kq_181 (by decide) rfl rfl rfl (by decide) (by decide) (Nat.le_of_ble_eq_true rfl) dX3_goOver_12 rfl rfl ?_
      refine v_ifeq (pc := 15) 47 O dX3_goOver_15 (by decide) (fun c4 => ?_) (fun c4 => ?_)
      · have h := (if_pos c4).symm.trans h
        refine v_sub [] rfl ?_
        exact w_X3_goOver_b47 O hm hn hz p2.2 h
      · have h := (if_neg c4).symm.trans h
        refine v_aload_n (pc := 18) O dX3_goOver_18 0 rfl ?_
        obtain ⟨p5, e6, h⟩ := bind_some h
        refine v_callV (pc := 19) (a := 181) (As := []) (rest := []) (r := (some (.int p5.1))) (D' := p5.2) O (bb0 hz) (c_X3_burns hm e6) mw_X3_burns im_X3_burns se_X3_burns ml_X3_66 kq_181 (by decide) rfl rfl rfl (by decide) (by decide) (Nat.le_of_ble_eq_true rfl) dX3_goOver_19 rfl rfl ?_
        refine v_ifeq (pc := 22) 47 O dX3_goOver_22 (by decide) (fun c7 => ?_) (fun c7 => ?_)
        · have h := (if_pos c7).symm.trans h
          refine v_sub [] rfl ?_
          exact w_X3_goOver_b47 O hm hn hz p5.2 h
        · have h := (if_neg c7).symm.trans h
          refine v_aload_n (pc := 25) O dX3_goOver_25 0 rfl ?_
          refine v_aload_nr (pc := 26) O dX3_goOver_26 1 rfl ?_
          refine v_iload_n (pc := 27) O dX3_goOver_27 2 rfl ?_
          obtain ⟨a8, e9, h⟩ := bind_some h
          subst e9
          obtain ⟨c10, h⟩ := if_none h
          obtain ⟨p11, e12, h⟩ := bind_some h
          refine v_callV (pc := 28) (a := a8) (As := [.int x2]) (rest := [.ref (bo X + 181)]) (r := (some (.int p11.1))) (D' := p11.2) O (bb0 hz) (c_X0_operation hm c10 e12) mw_X0_operation im_X0_operation se_X0_operation ml_X3_69 (kt_X0 c10) (by decide) rfl rfl rfl (by decide) (by decide) (Nat.le_of_ble_eq_true rfl) dX3_goOver_28 rfl rfl ?_
          refine v_aload_n (pc := 31) O dX3_goOver_31 1 rfl ?_
          refine v_iload_n (pc := 32) O dX3_goOver_32 2 rfl ?_
          obtain ⟨p13, e14, h⟩ := bind_some h
          refine v_callV (pc := 33) (a := a8) (As := [.int x2]) (rest := [.int p11.1, .ref (bo X + 181)]) (r := (some (.int p13.1))) (D' := p13.2) O (bb0 hz) (c_X0_argument hm c10 e14) mw_X0_argument im_X0_argument se_X0_argument ml_X3_74 (kt_X0 c10) (by decide) rfl rfl rfl (by decide) (by decide) (Nat.le_of_ble_eq_true rfl) dX3_goOver_33 rfl rfl ?_
          refine v_iload_n (pc := 36) O dX3_goOver_36 2 rfl ?_
          obtain ⟨p15, e16, h⟩ := bind_some h
          refine v_callV (pc := 37) (a := 181) (As := [.int p11.1, .int p13.1, .int x2]) (rest := []) (r := (some (.int p15.1))) (D' := p15.2) O (bb0 hz) (c_X3_step hm e16) mw_X3_step im_X3_step se_X3_step ml_X3_77 kq_181 (by decide) rfl rfl rfl (by decide) (by decide) (Nat.le_of_ble_eq_true rfl) dX3_goOver_37 rfl rfl ?_
          refine v_istore_n (pc := 40) (lv' := [(2, .int p15.1), (0, .ref (bo X + 181)), (1, .ref (bo X + a8)), (3, .int x3)]) O dX3_goOver_40 rfl (by rw [hn]; decide) rfl ?_
          refine v_iinc (pc := 41) (lv' := [(3, .int (x3 + 1)), (2, .int p15.1), (0, .ref (bo X + 181)), (1, .ref (bo X + a8))]) O dX3_goOver_41 3 rfl (congrArg (fun q => x3 + q) ic_1) (by rw [hn]; decide) rfl ?_
          refine v_goto (pc := 44) 4 O dX3_goOver_44 (by decide) ?_
          refine v_sub [2, 3, 1, 0] rfl ?_
          exact ih (some a8) p15.1 (x3 + 1) p15.2 h
def f_X3_goOver (N : Nat) (x1 : Option Nat) (D : Dat) : Option (Dat) :=
  f_X3_goOver_b4 N N x1 0 0 D
set_option maxHeartbeats 4000000 in
theorem w_X3_goOver {X : Cx} {n nu c u : Nat} {K : Nat → Nat} {N : Nat} (O : Ok X cX3_goOver RX3 none 5 110) (hm : wlm (xw X) = true) (hn : xn X = 4) (hz : Z0 X (Ax nu K c u)) (x1 : Option Nat) (D : Dat) {z : Dat} (h : f_X3_goOver N x1 D = some z) : V X (Q0 X n (Ax nu K c u) none z) n (Ax nu K c u) D 0 [(0, .ref (bo X + 181)), (1, rv (bo X) x1)] [] := by
  unfold f_X3_goOver at h
  refine v_iconst (pc := 0) O dX3_goOver_0 ic_0 ?_
  refine v_istore_n (pc := 1) (lv' := [(2, .int 0), (0, .ref (bo X + 181)), (1, rv (bo X) x1)]) O dX3_goOver_1 rfl (by rw [hn]; decide) (by simp [rv_cat, Value.category]) ?_
  refine v_iconst (pc := 2) O dX3_goOver_2 ic_0 ?_
  refine v_istore_n (pc := 3) (lv' := [(3, .int 0), (2, .int 0), (0, .ref (bo X + 181)), (1, rv (bo X) x1)]) O dX3_goOver_3 rfl (by rw [hn]; decide) rfl ?_
  refine v_sub [2, 3, 1, 0] rfl ?_
  exact w_X3_goOver_b4 O hm hn hz N x1 0 0 D h
theorem c_X3_goOver {l : Launch} {w : Wx} {n nu c u : Nat} {K : Nat → Nat} {N : Nat} (hm : wlm w = true) {x1 : Option Nat} {D : Dat} {z : Dat} (h : f_X3_goOver N x1 D = some z) : C0 l w yX3_goOver cX3_goOver 4 none 5 110 [.ref (wb w + 181), rv (wb w) x1] n (Ax nu K c u) D none z :=
  C0.of (by decide) (by simp [lg_sl, rv_cat, Value.category]) (fun X e1 e2 e3 hz O => by
  subst e1
  subst e2
  have q : lv_args 0 [.ref (bo X + 181), rv (bo X) x1] = [(0, .ref (bo X + 181)), (1, rv (bo X) x1)] := by simp [lv_args, rv_cat, Value.category]
  show V X _ n _ D 0 (lv_args 0 [.ref (bo X + 181), rv (bo X) x1]) []
  rw [q]
  exact w_X3_goOver O hm e3 hz x1 D h)
def f_X9_accepts_b36 (N : Nat) (nu : Nat) (K : Nat → Nat) (D : Dat) : Option (Int32 × Dat) :=
  some (0, D)
set_option maxHeartbeats 4000000 in
theorem w_X9_accepts_b36 {X : Cx} {n nu c u : Nat} {K : Nat → Nat} {N : Nat} {z : Int32 × Dat} (O : Ok X cX9_accepts RX9 (some .boolean) 6 137) (hm : wlm (xw X) = true) (hn : xn X = 3) (hz : Z0 X (Ax nu K c u)) (D : Dat) (h : f_X9_accepts_b36 N nu K D = some z) : V X (Q0 X n (Ax nu K c u) (some (.int z.1)) z.2) n (Ax nu K c u) D 36 [] [] := by
  unfold f_X9_accepts_b36 at h
  refine v_iconst (pc := 36) O dX9_accepts_36 ic_0 ?_
  obtain rfl := Option.some.inj h
  exact v_zret (pc := 37) O hz narrow_b0 dX9_accepts_37
def f_X9_accepts (N : Nat) (nu : Nat) (K : Nat → Nat) (x1 : Option Nat) (x2 : Nat) (D : Dat) : Option (Int32 × Dat) :=
  (f_X9_argumentsFit N (sI (sR (sR D 107 2 x1) 107 3 (some x2)) 107 10 0)).bind (fun p1 => if p1.1 = 0 then (f_X9_accepts_b36 N nu K p1.2) else ((f_X9_endFits p1.2).bind (fun p4 => if p4.1 = 0 then (f_X9_accepts_b36 N nu K p4.2) else ((f_X9_heightsFit N nu K p4.2).bind (fun p7 => if p7.1 = 0 then (f_X9_accepts_b36 N nu K p7.2) else ((f_X6_find N (dR p7.2 107 2) (dL p7.2 107 5) p7.2).bind (fun p10 => (f_X9_findLabels N nu K p10).bind (fun p12 => (f_X9_flowsFit N nu K (sI p12 107 10 1)).bind (fun p14 => if p14.1 &&& 1 = p14.1 then some (p14.1, p14.2) else none)))))))))
set_option maxHeartbeats 4000000 in
theorem w_X9_accepts {X : Cx} {n nu c u : Nat} {K : Nat → Nat} {N : Nat} (O : Ok X cX9_accepts RX9 (some .boolean) 6 137) (hm : wlm (xw X) = true) (hn : xn X = 3) (hz : Z0 X (Ax nu K c u)) (x1 : Option Nat) (x2 : Nat) (D : Dat) {z : Int32 × Dat} (h : f_X9_accepts N nu K x1 x2 D = some z) : V X (Q0 X n (Ax nu K c u) (some (.int z.1)) z.2) n (Ax nu K c u) D 0 [(0, .ref (bo X + 107)), (1, rv (bo X) x1), (2, .ref (bo X + x2))] [] := by
  unfold f_X9_accepts at h
  refine v_aload_n (pc := 0) O dX9_accepts_0 0 rfl ?_
  refine v_aload_nr (pc := 1) O dX9_accepts_1 1 rfl ?_
  refine v_putR (pc := 2) (a := 107) (r := x1) O pf_X9_2 rfl fl_X9_83 kq_107 dX9_accepts_2 ?_
  refine v_aload_n (pc := 5) O dX9_accepts_5 0 rfl ?_
  refine v_aload_n (pc := 6) O dX9_accepts_6 2 rfl ?_
  refine v_putR (pc := 7) (a := 107) (r := (some x2)) O pf_X9_3 rfl fl_X9_87 kq_107 dX9_accepts_7 ?_
  refine v_aload_n (pc := 10) O dX9_accepts_10 0 rfl ?_
  refine v_iconst (pc := 11) O dX9_accepts_11 ic_0 ?_
  refine v_putZ (pc := 12) (a := 107) O pf_X9_10 fl_X9_44 kq_107 narrow_b0 dX9_accepts_12 ?_
  refine v_aload_n (pc := 15) O dX9_accepts_15 0 rfl ?_
  obtain ⟨p1, e2, h⟩ := bind_some h
  refine v_callV (pc := 16) (a := 107) (As := []) (rest := []) (r := (some (.int p1.1))) (D' := p1.2) O (bb0 hz) (c_X9_argumentsFit hm e2) mw_X9_argumentsFit im_X9_argumentsFit se_X9_argumentsFit ml_X9_90 kq_107 (by decide) rfl rfl rfl (by decide) (by decide) (Nat.le_of_ble_eq_true rfl) dX9_accepts_16 rfl rfl ?_
  refine v_ifeq (pc := 19) 36 O dX9_accepts_19 (by decide) (fun c3 => ?_) (fun c3 => ?_)
  · have h := (if_pos c3).symm.trans h
    refine v_sub [] rfl ?_
    exact w_X9_accepts_b36 O hm hn hz p1.2 h
  · have h := (if_neg c3).symm.trans h
    refine v_aload_n (pc := 22) O dX9_accepts_22 0 rfl ?_
    obtain ⟨p4, e5, h⟩ := bind_some h
    refine v_callV (pc := 23) (a := 107) (As := []) (rest := []) (r := (some (.int p4.1))) (D' := p4.2) O (bb0 hz) (c_X9_endFits hm e5) mw_X9_endFits im_X9_endFits se_X9_endFits ml_X9_94 kq_107 (by decide) rfl rfl rfl (by decide) (by decide) (Nat.le_of_ble_eq_true rfl) dX9_accepts_23 rfl rfl ?_
    refine v_ifeq (pc := 26) 36 O dX9_accepts_26 (by decide) (fun c6 => ?_) (fun c6 => ?_)
    · have h := (if_pos c6).symm.trans h
      refine v_sub [] rfl ?_
      exact w_X9_accepts_b36 O hm hn hz p4.2 h
    · have h := (if_neg c6).symm.trans h
      refine v_aload_n (pc := 29) O dX9_accepts_29 0 rfl ?_
      obtain ⟨p7, e8, h⟩ := bind_some h
      refine v_callV (pc := 30) (a := 107) (As := []) (rest := []) (r := (some (.int p7.1))) (D' := p7.2) O (bb0 hz) (c_X9_heightsFit hm e8) mw_X9_heightsFit im_X9_heightsFit se_X9_heightsFit ml_X9_97 kq_107 (by decide) rfl rfl rfl (by decide) (by decide) (Nat.le_of_ble_eq_true rfl) dX9_accepts_30 rfl rfl ?_
      refine v_ifne (pc := 33) 38 O dX9_accepts_33 (by decide) (fun c9 => ?_) (fun c9 => ?_)
      · have h := (if_neg c9).symm.trans h
        refine v_aload_n (pc := 38) O dX9_accepts_38 0 rfl ?_
        refine v_getK (pc := 39) (a := 107) O hm gf_X9_1 fl_X9_14 kq_107 lk_107_1 dX9_accepts_39 ?_
        refine v_aload_n (pc := 42) O dX9_accepts_42 0 rfl ?_
        refine v_getR (pc := 43) (a := 107) O gf_X9_2 fl_X9_83 kq_107 dX9_accepts_43 ?_
        refine v_aload_n (pc := 46) O dX9_accepts_46 0 rfl ?_
        refine v_getL (pc := 47) (a := 107) O gf_X9_5 fl_X9_48 kq_107 dX9_accepts_47 ?_
        obtain ⟨p10, e11, h⟩ := bind_some h
        refine v_callV (pc := 50) (a := 108) (As := [rv (bo X) (dR p7.2 107 2), .long (dL p7.2 107 5)]) (rest := []) (r := none) (D' := p10) O (bb0 hz) (c_X6_find hm e11) mw_X6_find im_X6_find se_X6_find ml_X9_100 kq_108 (by decide) rfl rfl rfl (by decide) (by decide) (Nat.le_of_ble_eq_true rfl) dX9_accepts_50 rfl rfl ?_
        refine v_aload_n (pc := 53) O dX9_accepts_53 0 rfl ?_
        obtain ⟨p12, e13, h⟩ := bind_some h
        refine v_callV (pc := 54) (a := 107) (As := []) (rest := []) (r := none) (D' := p12) O (bb0 hz) (c_X9_findLabels hm e13) mw_X9_findLabels im_X9_findLabels se_X9_findLabels ml_X9_104 kq_107 (by decide) rfl rfl rfl (by decide) (by decide) (Nat.le_of_ble_eq_true rfl) dX9_accepts_54 rfl rfl ?_
        refine v_aload_n (pc := 57) O dX9_accepts_57 0 rfl ?_
        refine v_iconst (pc := 58) O dX9_accepts_58 ic_1 ?_
        refine v_putZ (pc := 59) (a := 107) O pf_X9_10 fl_X9_44 kq_107 narrow_b1 dX9_accepts_59 ?_
        refine v_aload_n (pc := 62) O dX9_accepts_62 0 rfl ?_
        obtain ⟨p14, e15, h⟩ := bind_some h
        refine v_callV (pc := 63) (a := 107) (As := []) (rest := []) (r := (some (.int p14.1))) (D' := p14.2) O (bb0 hz) (c_X9_flowsFit hm e15) mw_X9_flowsFit im_X9_flowsFit se_X9_flowsFit ml_X9_107 kq_107 (by decide) rfl rfl rfl (by decide) (by decide) (Nat.le_of_ble_eq_true rfl) dX9_accepts_63 rfl rfl ?_
        obtain ⟨c16, h⟩ := if_none h
        obtain rfl := Option.some.inj h
        exact v_zret (pc := 66) O hz (congrArg Value.int c16) dX9_accepts_66
      · have h := (if_pos c9).symm.trans h
        refine v_sub [] rfl ?_
        exact w_X9_accepts_b36 O hm hn hz p7.2 h
theorem c_X9_accepts {l : Launch} {w : Wx} {n nu c u : Nat} {K : Nat → Nat} {N : Nat} (hm : wlm w = true) {x1 : Option Nat} {x2 : Nat} {D : Dat} {z : Int32 × Dat} (h : f_X9_accepts N nu K x1 x2 D = some z) : C0 l w yX9_accepts cX9_accepts 3 (some .boolean) 6 137 [.ref (wb w + 107), rv (wb w) x1, .ref (wb w + x2)] n (Ax nu K c u) D (some (.int z.1)) z.2 :=
  C0.of (by decide) (by simp [lg_sl, rv_cat, Value.category]) (fun X e1 e2 e3 hz O => by
  subst e1
  subst e2
  have q : lv_args 0 [.ref (bo X + 107), rv (bo X) x1, .ref (bo X + x2)] = [(0, .ref (bo X + 107)), (1, rv (bo X) x1), (2, .ref (bo X + x2))] := by simp [lv_args, rv_cat, Value.category]
  show V X _ n _ D 0 (lv_args 0 [.ref (bo X + 107), rv (bo X) x1, .ref (bo X + x2)]) []
  rw [q]
  exact w_X9_accepts O hm e3 hz x1 x2 D h)
def f_X10_goOver (N : Nat) (nu : Nat) (K : Nat → Nat) (x1 : Option Nat) (D : Dat) : Option (Dat) :=
  ((dR (sR D 189 1 x1) 189 1)).bind (fun a1 => if a1 = 191 ∨ a1 = 196 then ((f_X10_goThrough N nu K 50 (dR (sR D 189 1 x1) a1 0) 0 (sR D 189 1 x1)).bind (fun p4 => (f_X3_finish p4).bind (fun p6 => some p6))) else none)
set_option maxHeartbeats 4000000 in
theorem w_X10_goOver {X : Cx} {n nu c u : Nat} {K : Nat → Nat} {N : Nat} (O : Ok X cX10_goOver RX10 none 351 7673) (hm : wlm (xw X) = true) (hn : xn X = 2) (hz : Z0 X (Ax nu K c u)) (x1 : Option Nat) (D : Dat) {z : Dat} (h : f_X10_goOver N nu K x1 D = some z) : V X (Q0 X n (Ax nu K c u) none z) n (Ax nu K c u) D 0 [(0, .ref (bo X + 189)), (1, rv (bo X) x1)] [] := by
  unfold f_X10_goOver at h
  refine v_aload_n (pc := 0) O dX10_goOver_0 0 rfl ?_
  refine v_aload_nr (pc := 1) O dX10_goOver_1 1 rfl ?_
  refine v_putR (pc := 2) (a := 189) (r := x1) O pf_X10_1 rfl fl_X10_15 kq_189 dX10_goOver_2 ?_
  refine v_aload_n (pc := 5) O dX10_goOver_5 0 rfl ?_
  refine v_aload_n (pc := 6) O dX10_goOver_6 0 rfl ?_
  refine v_getR (pc := 7) (a := 189) O gf_X10_1 fl_X10_15 kq_189 dX10_goOver_7 ?_
  obtain ⟨a1, e2, h⟩ := bind_some h
  rw [e2]
  obtain ⟨c3, h⟩ := if_none h
  refine v_getR (pc := 10) (a := a1) O gf_X4_0 fl_X10_19 (kt_X4 c3) dX10_goOver_10 ?_
  refine v_iconst (pc := 13) O dX10_goOver_13 ic_0 ?_
  obtain ⟨p4, e5, h⟩ := bind_some h
  refine v_callV (pc := 14) (a := 189) (As := [rv (bo X) (dR (sR D 189 1 x1) a1 0), .int 0]) (rest := []) (r := none) (D' := p4) O (bb0 hz) (c_X10_goThrough hm 50 e5) mw_X10_goThrough im_X10_goThrough se_X10_goThrough ml_X10_25 kq_189 (by decide) rfl rfl rfl (by decide) (by decide) (Nat.le_of_ble_eq_true rfl) dX10_goOver_14 rfl rfl ?_
  refine v_aload_n (pc := 17) O dX10_goOver_17 0 rfl ?_
  refine v_getK (pc := 18) (a := 189) O hm gf_X10_0 fl_X10_9 kq_189 lk_189_0 dX10_goOver_18 ?_
  obtain ⟨p6, e7, h⟩ := bind_some h
  refine v_callV (pc := 21) (a := 181) (As := []) (rest := []) (r := none) (D' := p6) O (bb0 hz) (c_X3_finish hm e7) mw_X3_finish im_X3_finish se_X3_finish ml_X10_29 kq_181 (by decide) rfl rfl rfl (by decide) (by decide) (Nat.le_of_ble_eq_true rfl) dX10_goOver_21 rfl rfl ?_
  obtain rfl := Option.some.inj h
  exact v_ret (pc := 24) O hz dX10_goOver_24
theorem c_X10_goOver {l : Launch} {w : Wx} {n nu c u : Nat} {K : Nat → Nat} {N : Nat} (hm : wlm w = true) {x1 : Option Nat} {D : Dat} {z : Dat} (h : f_X10_goOver N nu K x1 D = some z) : C0 l w yX10_goOver cX10_goOver 2 none 351 7673 [.ref (wb w + 189), rv (wb w) x1] n (Ax nu K c u) D none z :=
  C0.of (by decide) (by simp [lg_sl, rv_cat, Value.category]) (fun X e1 e2 e3 hz O => by
  subst e1
  subst e2
  have q : lv_args 0 [.ref (bo X + 189), rv (bo X) x1] = [(0, .ref (bo X + 189)), (1, rv (bo X) x1)] := by simp [lv_args, rv_cat, Value.category]
  show V X _ n _ D 0 (lv_args 0 [.ref (bo X + 189), rv (bo X) x1]) []
  rw [q]
  exact w_X10_goOver O hm e3 hz x1 D h)
