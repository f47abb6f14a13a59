theorem cw_X12_flowBack : Cond.code yX12_flowBack cX12_flowBack 7 (some .int) ∈ tb := tb_of 2163 (by decide +kernel) (by decide +kernel)
theorem mw_X12_flowBack : MW yX12_flowBack cX12_flowBack 7 (some .int) 0 := ⟨cw_X12_flowBack, ini_X12, by decide +kernel⟩
theorem im_X12_flowBack : Cond.instanceMethod yX12_flowBack ∈ tb := tb_of 2162 (by decide +kernel) (by decide +kernel)
theorem se_X12_flowBack : Cond.selects (yX12_flowBack).cls yX12_flowBack yX12_flowBack ∈ tb := tb_of 123 (by decide +kernel) (by decide +kernel)
theorem ml_X12_379 : Cond.methodLink RX12 379 yX12_flowBack ∈ tb := tb_of 2160 (by decide +kernel) (by decide +kernel)
theorem cw_X12_flowThrough : Cond.code yX12_flowThrough cX12_flowThrough 4 (some .int) ∈ tb := tb_of 2139 (by decide +kernel) (by decide +kernel)
theorem mw_X12_flowThrough : MW yX12_flowThrough cX12_flowThrough 4 (some .int) 1 := ⟨cw_X12_flowThrough, ini_X12, by decide +kernel⟩
theorem im_X12_flowThrough : Cond.instanceMethod yX12_flowThrough ∈ tb := tb_of 2138 (by decide +kernel) (by decide +kernel)
theorem se_X12_flowThrough : Cond.selects (yX12_flowThrough).cls yX12_flowThrough yX12_flowThrough ∈ tb := tb_of 117 (by decide +kernel) (by decide +kernel)
theorem ml_X12_376 : Cond.methodLink RX12 376 yX12_flowThrough ∈ tb := tb_of 2136 (by decide +kernel) (by decide +kernel)
theorem fl_X12_382 : Cond.fieldLink RX12 382 RX12 (TX12 61).2.1 (TX12 61).2.2.1 ∈ tb := tb_of 1781 (by decide +kernel) (by decide +kernel)
theorem gf_X12_61 : FI 12 RX12 TX12 85 tyX12 61 0 := ⟨rfl, inb_X12, tyX12_ok, nmX12, by decide, by decide, rfl, rfl, rfl⟩
theorem bp_65 : (Int8.ofInt (65)).toInt32 = (65 : Int32) := by decide
theorem fl_X12_120 : Cond.fieldLink RX12 120 RX12 (TX12 62).2.1 (TX12 62).2.2.1 ∈ tb := tb_of 1782 (by decide +kernel) (by decide +kernel)
theorem gf_X12_62 : FI 12 RX12 TX12 85 tyX12 62 3 := ⟨rfl, inb_X12, tyX12_ok, nmX12, by decide, by decide, rfl, rfl, rfl⟩
theorem lk_207_62 : lks 207 62 = some 242 := by decide +kernel
theorem kq_242 {nu c u : Nat} {K : Nat → Nat} : (Ax nu K c u).1 242 = 14 := kd_lt (K := K) (a := 242) (by decide) rfl
theorem lq_242 {nu c u : Nat} {K : Nat → Nat} : (Ax nu K c u).2.1 242 = 65 := rfl
theorem fl_X12_123 : Cond.fieldLink RX12 123 RX12 (TX12 63).2.1 (TX12 63).2.2.1 ∈ tb := tb_of 1783 (by decide +kernel) (by decide +kernel)
theorem gf_X12_63 : FI 12 RX12 TX12 85 tyX12 63 3 := ⟨rfl, inb_X12, tyX12_ok, nmX12, by decide, by decide, rfl, rfl, rfl⟩
theorem lk_207_63 : lks 207 63 = some 243 := by decide +kernel
theorem kq_243 {nu c u : Nat} {K : Nat → Nat} : (Ax nu K c u).1 243 = 14 := kd_lt (K := K) (a := 243) (by decide) rfl
theorem lq_243 {nu c u : Nat} {K : Nat → Nat} : (Ax nu K c u).2.1 243 = 65 := rfl
theorem pf_X12_61 : PI 12 RX12 TX12 85 tyX12 61 0 .int := ⟨gf_X12_61, rfl, rfl⟩
theorem cw_X12_put : Cond.code yX12_put cX12_put 3 (some .int) ∈ tb := tb_of 2183 (by decide +kernel) (by decide +kernel)
theorem mw_X12_put : MW yX12_put cX12_put 3 (some .int) 2 := ⟨cw_X12_put, ini_X12, by decide +kernel⟩
theorem im_X12_put : Cond.instanceMethod yX12_put ∈ tb := tb_of 2182 (by decide +kernel) (by decide +kernel)
theorem se_X12_put : Cond.selects (yX12_put).cls yX12_put yX12_put ∈ tb := tb_of 128 (by decide +kernel) (by decide +kernel)
theorem ml_X12_385 : Cond.methodLink RX12 385 yX12_put ∈ tb := tb_of 2180 (by decide +kernel) (by decide +kernel)
theorem cw_X12_putItems : Cond.code yX12_putItems cX12_putItems 4 none ∈ tb := tb_of 2179 (by decide +kernel) (by decide +kernel)
theorem mw_X12_putItems : MW yX12_putItems cX12_putItems 4 none 1 := ⟨cw_X12_putItems, ini_X12, by decide +kernel⟩
theorem im_X12_putItems : Cond.instanceMethod yX12_putItems ∈ tb := tb_of 2178 (by decide +kernel) (by decide +kernel)
theorem se_X12_putItems : Cond.selects (yX12_putItems).cls yX12_putItems yX12_putItems ∈ tb := tb_of 127 (by decide +kernel) (by decide +kernel)
theorem ml_X12_388 : Cond.methodLink RX12 388 yX12_putItems ∈ tb := tb_of 2176 (by decide +kernel) (by decide +kernel)
theorem bp_13 : (Int8.ofInt (13)).toInt32 = (13 : Int32) := by decide
theorem bp_14 : (Int8.ofInt (14)).toInt32 = (14 : Int32) := by decide
theorem fl_X12_126 : Cond.fieldLink RX12 126 RX12 (TX12 64).2.1 (TX12 64).2.2.1 ∈ tb := tb_of 1784 (by decide +kernel) (by decide +kernel)
theorem gf_X12_64 : FI 12 RX12 TX12 85 tyX12 64 3 := ⟨rfl, inb_X12, tyX12_ok, nmX12, by decide, by decide, rfl, rfl, rfl⟩
theorem lk_207_64 : lks 207 64 = some 244 := by decide +kernel
theorem kq_244 {nu c u : Nat} {K : Nat → Nat} : (Ax nu K c u).1 244 = 14 := kd_lt (K := K) (a := 244) (by decide) rfl
theorem lq_244 {nu c u : Nat} {K : Nat → Nat} : (Ax nu K c u).2.1 244 = 300 := rfl
theorem bp_11 : (Int8.ofInt (11)).toInt32 = (11 : Int32) := by decide
theorem bp_12 : (Int8.ofInt (12)).toInt32 = (12 : Int32) := by decide
def f_X12_flow_b36 (N : Nat) (rec_2 : Int32 → Dat → Option (Dat)) (x1 : Int32) (s0 : Int32) (s1 : Int32) (D : Dat) : Option (Dat) :=
  if s1 < 0 ∨ 26 ≤ (s1).toNatClampNeg then none else (rec_2 (x1 + 1) (sI D 237 (s1).toNatClampNeg s0))
set_option maxHeartbeats 4000000 in
theorem w_X12_flow_b36 {X : Cx} {n nu c u : Nat} {K : Nat → Nat} {N : Nat} {rec_2 : Int32 → Dat → Option (Dat)} {z : Dat} (O : Ok X cX12_flow RX12 none 3 71) (hm : wlm (xw X) = true) (hn : xn X = 2) (hz : Z0 X (Ax nu K c u)) (hrec_2 : ∀ (x1 : Int32) (D : Dat), rec_2 x1 D = some z → V X (Q0 X n (Ax nu K c u) none z) n (Ax nu K c u) D 2 [(0, .ref (bo X + pp 207)), (1, .int x1)] []) (x1 : Int32) (s0 : Int32) (s1 : Int32) (D : Dat) (h : f_X12_flow_b36 N rec_2 x1 s0 s1 D = some z) : V X (Q0 X n (Ax nu K c u) none z) n (Ax nu K c u) D 36 [(0, .ref (bo X + pp 207)), (1, .int x1)] [.int s0, .int s1, .ref (bo X + pp 237)] := by
  unfold f_X12_flow_b36 at h
  obtain ⟨c1, h⟩ := or_none h
  refine v_iast (pc := 36) (a := 237) O kq_237 (inq lq_237 c1) dX12_flow_36 ?_
  refine v_iinc (pc := 37) (lv' := [(1, .int (x1 + 1)), (0, .ref (bo X + pp 207))]) O dX12_flow_37 1 rfl (congrArg (fun q => x1 + q) ic_1) (by rw [hn]; decide) rfl ?_
  refine v_goto (pc := 40) 2 O dX12_flow_40 (by decide) ?_
  refine v_sub [1, 0] rfl ?_
  exact hrec_2 (x1 + 1) (sI D 237 (s1).toNatClampNeg s0) h
def f_X12_flow_b105 (N : Nat) (rec_71 : Int32 → Dat → Option (Dat)) (s0 : Int32) (D : Dat) : Option (Dat) :=
  rec_71 s0 D
set_option maxHeartbeats 4000000 in
theorem w_X12_flow_b105 {X : Cx} {n nu c u : Nat} {K : Nat → Nat} {N : Nat} {rec_71 : Int32 → Dat → Option (Dat)} {z : Dat} (O : Ok X cX12_flow RX12 none 3 71) (hm : wlm (xw X) = true) (hn : xn X = 2) (hz : Z0 X (Ax nu K c u)) (hrec_71 : ∀ (x1 : Int32) (D : Dat), rec_71 x1 D = some z → V X (Q0 X n (Ax nu K c u) none z) n (Ax nu K c u) D 71 [(0, .ref (bo X + pp 207)), (1, .int x1)] []) (s0 : Int32) (D : Dat) (h : f_X12_flow_b105 N rec_71 s0 D = some z) : V X (Q0 X n (Ax nu K c u) none z) n (Ax nu K c u) D 105 [(0, .ref (bo X + pp 207))] [.int s0] := by
  unfold f_X12_flow_b105 at h
  refine v_istore_n (pc := 105) (lv' := [(1, .int s0), (0, .ref (bo X + pp 207))]) O dX12_flow_105 rfl (by rw [hn]; decide) rfl ?_
  refine v_goto (pc := 106) 71 O dX12_flow_106 (by decide) ?_
  refine v_sub [1, 0] rfl ?_
  exact hrec_71 s0 D h
def f_X12_flow_b89 (N : Nat) (rec_71 : Int32 → Dat → Option (Dat)) (x1 : Int32) (D : Dat) : Option (Dat) :=
  if x1 < 0 then ((f_X12_flowBack N D).bind (fun p3 => f_X12_flow_b105 N rec_71 p3.1 p3.2)) else ((f_X12_flowThrough N x1 D).bind (fun p5 => f_X12_flow_b105 N rec_71 p5.1 p5.2))
set_option maxHeartbeats 4000000 in
theorem w_X12_flow_b89 {X : Cx} {n nu c u : Nat} {K : Nat → Nat} {N : Nat} {rec_71 : Int32 → Dat → Option (Dat)} {z : Dat} (O : Ok X cX12_flow RX12 none 3 71) (hm : wlm (xw X) = true) (hn : xn X = 2) (hz : Z0 X (Ax nu K c u)) (hrec_71 : ∀ (x1 : Int32) (D : Dat), rec_71 x1 D = some z → V X (Q0 X n (Ax nu K c u) none z) n (Ax nu K c u) D 71 [(0, .ref (bo X + pp 207)), (1, .int x1)] []) (x1 : Int32) (D : Dat) (h : f_X12_flow_b89 N rec_71 x1 D = some z) : V X (Q0 X n (Ax nu K c u) none z) n (Ax nu K c u) D 89 [(0, .ref (bo X + pp 207)), (1, .int x1)] [] := by
  unfold f_X12_flow_b89 at h
  refine v_iload_n (pc := 89) O dX12_flow_89 1 rfl ?_
  refine v_iflt (pc := 90) 101 O dX12_flow_90 (by decide) (fun c2 => ?_) (fun c2 => ?_)
  · have h := (if_pos c2).symm.trans h
    refine v_aload_n (pc := 101) O dX12_flow_101 0 rfl ?_
    obtain ⟨p3, e4, h⟩ := bind_some h
    refine v_callV (pc := 102) (a := 207) (As := []) (rest := []) (r := (some (.int p3.1))) (D' := p3.2) O (bb0 hz) (c_X12_flowBack hm e4) mw_X12_flowBack im_X12_flowBack se_X12_flowBack ml_X12_379 kq_207 (by decide) rfl rfl rfl (by decide) (by decide) (Nat.le_of_ble_eq_true rfl) dX12_flow_102 rfl rfl ?_
    refine v_sub [0] rfl ?_
    exact w_X12_flow_b105 O hm hn hz hrec_71 p3.1 p3.2 h
  · have h := (if_neg c2).symm.trans h
    refine v_aload_n (pc := 93) O dX12_flow_93 0 rfl ?_
    refine v_iload_n (pc := 94) O dX12_flow_94 1 rfl ?_
    obtain ⟨p5, e6, h⟩ := bind_some h
    refine v_callV (pc := 95) (a := 207) (As := [.int x1]) (rest := []) (r := (some (.int p5.1))) (D' := p5.2) O (bb0 hz) (c_X12_flowThrough hm e6) mw_X12_flowThrough im_X12_flowThrough se_X12_flowThrough ml_X12_376 kq_207 (by decide) rfl rfl rfl (by decide) (by decide) (Nat.le_of_ble_eq_true rfl) dX12_flow_95 rfl rfl ?_
    refine v_goto (pc := 98) 105 O dX12_flow_98 (by decide) ?_
    refine v_sub [0] rfl ?_
    exact w_X12_flow_b105 O hm hn hz hrec_71 p5.1 p5.2 h
def f_X12_flow_b109 (N : Nat) (D : Dat) : Option (Dat) :=
  some D
set_option maxHeartbeats 4000000 in
theorem w_X12_flow_b109 {X : Cx} {n nu c u : Nat} {K : Nat → Nat} {N : Nat} {z : Dat} (O : Ok X cX12_flow RX12 none 3 71) (hm : wlm (xw X) = true) (hn : xn X = 2) (hz : Z0 X (Ax nu K c u)) (D : Dat) (h : f_X12_flow_b109 N D = some z) : V X (Q0 X n (Ax nu K c u) none z) n (Ax nu K c u) D 109 [] [] := by
  unfold f_X12_flow_b109 at h
  obtain rfl := Option.some.inj h
  exact v_ret (pc := 109) O hz dX12_flow_109
def f_X12_flow_b71 (N : Nat) : Nat → Int32 → Dat → Option (Dat)
  | 0, _, _ => none
  | g + 1, x1, D => if 0 ≤ (dI D 207 40) then (f_X12_flow_b109 N D) else (if 0 ≤ x1 then (f_X12_flow_b89 N (f_X12_flow_b71 N g) x1 D) else (if (dI D 207 55) ≤ 0 then (f_X12_flow_b109 N D) else (f_X12_flow_b89 N (f_X12_flow_b71 N g) x1 D)))
set_option maxHeartbeats 4000000 in
theorem w_X12_flow_b71 {X : Cx} {n nu c u : Nat} {K : Nat → Nat} {N : Nat} {z : Dat} (O : Ok X cX12_flow RX12 none 3 71) (hm : wlm (xw X) = true) (hn : xn X = 2) (hz : Z0 X (Ax nu K c u)) : ∀ (g : Nat) (x1 : Int32) (D : Dat), f_X12_flow_b71 N g x1 D = some z → V X (Q0 X n (Ax nu K c u) none z) n (Ax nu K c u) D 71 [(0, .ref (bo X + pp 207)), (1, .int x1)] [] := by
  intro g
  induction g with
  | zero => intro x1 D h; exact absurd h (by simp [f_X12_flow_b71])
  | succ g ih =>
    intro x1 D h
    rw [f_X12_flow_b71] at h
    refine v_aload_n (pc := 71) O dX12_flow_71 0 rfl ?_
    refine v_getI (pc := 72) (a := 207) O gf_X12_40 fl_X12_253 kq_207 dX12_flow_72 ?_
    refine v_ifge (pc := 75) 109 O dX12_flow_75 (by decide) (fun c7 => ?_) (fun c7 => ?_)
    · have h := (if_pos c7).symm.trans h
      refine v_sub [] rfl ?_
      exact w_X12_flow_b109 O hm hn hz D h
    · have h := (if_neg c7).symm.trans h
      refine v_iload_n (pc := 78) O dX12_flow_78 1 rfl ?_
      refine v_ifge (pc := 79) 89 O dX12_flow_79 (by decide) (fun c8 => ?_) (fun c8 => ?_)
      · have h := (if_pos c8).symm.trans h
        refine v_sub [0, 1] rfl ?_
        exact w_X12_flow_b89 O hm hn hz ih x1 D h
      · have h := (if_neg c8).symm.trans h
        refine v_aload_n (pc := 82) O dX12_flow_82 0 rfl ?_
        refine v_getI (pc := 83) (a := 207) O gf_X12_55 fl_X12_351 kq_207 dX12_flow_83 ?_
        refine v_ifle (pc := 86) 109 O dX12_flow_86 (by decide) (fun c9 => ?_) (fun c9 => ?_)
        · have h := (if_pos c9).symm.trans h
          refine v_sub [] rfl ?_
          exact w_X12_flow_b109 O hm hn hz D h
        · have h := (if_neg c9).symm.trans h
          refine v_sub [0, 1] rfl ?_
          exact w_X12_flow_b89 O hm hn hz ih x1 D h
def f_X12_flow_b2 (N : Nat) : Nat → Int32 → Dat → Option (Dat)
  | 0, _, _ => none
  | g + 1, x1, D => if 26 ≤ x1 then (if (dI (sI (sI (sI D 207 54 (dI D 207 6)) 207 55 0) 207 56 0) 207 35) < 0 ∨ 2 ≤ ((dI (sI (sI (sI D 207 54 (dI D 207 6)) 207 55 0) 207 56 0) 207 35)).toNatClampNeg then none else (f_X12_flow_b71 N N (dI (sI (sI (sI D 207 54 (dI D 207 6)) 207 55 0) 207 56 0) 228 (dI (sI (sI (sI D 207 54 (dI D 207 6)) 207 55 0) 207 56 0) 207 35).toNatClampNeg) (sI (sI (sI D 207 54 (dI D 207 6)) 207 55 0) 207 56 0))) else (if x1 < 0 ∨ 26 ≤ (x1).toNatClampNeg then none else (if (dI D 229 (x1).toNatClampNeg) = 2 then (if x1 < 0 ∨ 26 ≤ (x1).toNatClampNeg then none else (f_X12_flow_b36 N (f_X12_flow_b2 N g) x1 (dI D 230 (x1).toNatClampNeg) x1 D)) else (f_X12_flow_b36 N (f_X12_flow_b2 N g) x1 (dI D 207 6) x1 D)))
set_option maxHeartbeats 4000000 in
theorem w_X12_flow_b2 {X : Cx} {n nu c u : Nat} {K : Nat → Nat} {N : Nat} {z : Dat} (O : Ok X cX12_flow RX12 none 3 71) (hm : wlm (xw X) = true) (hn : xn X = 2) (hz : Z0 X (Ax nu K c u)) : ∀ (g : Nat) (x1 : Int32) (D : Dat), f_X12_flow_b2 N g x1 D = some z → V X (Q0 X n (Ax nu K c u) none z) n (Ax nu K c u) D 2 [(0, .ref (bo X + pp 207)), (1, .int x1)] [] := by
  intro g
  induction g with
  | zero => intro x1 D h; exact absurd h (by simp [f_X12_flow_b2])
  | succ g ih =>
    intro x1 D h
    rw [f_X12_flow_b2] at h
    refine v_iload_n (pc := 2) O dX12_flow_2 1 rfl ?_
    refine v_bipush (pc := 3) O dX12_flow_3 bp_26 ?_
    refine v_icmpge (pc := 5) 43 O dX12_flow_5 (by decide) (fun c10 => ?_) (fun c10 => ?_)
    · have h := (if_pos c10).symm.trans h
      refine v_aload_n (pc := 43) O dX12_flow_43 0 rfl ?_
      refine v_aload_n (pc := 44) O dX12_flow_44 0 rfl ?_
      refine v_getI (pc := 45) (a := 207) O gf_X12_6 fl_X12_210 kq_207 dX12_flow_45 ?_
      refine v_putI (pc := 48) (a := 207) O pf_X12_54 fl_X12_354 kq_207 dX12_flow_48 ?_
      refine v_aload_n (pc := 51) O dX12_flow_51 0 rfl ?_
      refine v_iconst (pc := 52) O dX12_flow_52 ic_0 ?_
      refine v_putI (pc := 53) (a := 207) O pf_X12_55 fl_X12_351 kq_207 dX12_flow_53 ?_
      refine v_aload_n (pc := 56) O dX12_flow_56 0 rfl ?_
      refine v_iconst (pc := 57) O dX12_flow_57 ic_0 ?_
      refine v_putI (pc := 58) (a := 207) O pf_X12_56 fl_X12_370 kq_207 dX12_flow_58 ?_
      refine v_aload_n (pc := 61) O dX12_flow_61 0 rfl ?_
      refine v_getK (pc := 62) (a := 207) O hm gf_X12_32 fl_X12_78 kq_207 lk_207_32 dX12_flow_62 ?_
      refine v_aload_n (pc := 65) O dX12_flow_65 0 rfl ?_
      refine v_getI (pc := 66) (a := 207) O gf_X12_35 fl_X12_308 kq_207 dX12_flow_66 ?_
      obtain ⟨c11, h⟩ := or_none h
      refine v_iald (pc := 69) (a := 228) O kq_228 (inq lq_228 c11) dX12_flow_69 ?_
      refine v_istore_n (pc := 70) (lv' := [(1, .int (dI (sI (sI (sI D 207 54 (dI D 207 6)) 207 55 0) 207 56 0) 228 (dI (sI (sI (sI D 207 54 (dI D 207 6)) 207 55 0) 207 56 0) 207 35).toNatClampNeg)), (0, .ref (bo X + pp 207))]) O dX12_flow_70 rfl (by rw [hn]; decide) rfl ?_
      refine v_sub [1, 0] rfl ?_
      exact w_X12_flow_b71 O hm hn hz N (dI (sI (sI (sI D 207 54 (dI D 207 6)) 207 55 0) 207 56 0) 228 (dI (sI (sI (sI D 207 54 (dI D 207 6)) 207 55 0) 207 56 0) 207 35).toNatClampNeg) (sI (sI (sI D 207 54 (dI D 207 6)) 207 55 0) 207 56 0) h
    · have h := (if_neg c10).symm.trans h
      refine v_aload_n (pc := 8) O dX12_flow_8 0 rfl ?_
      refine v_getK (pc := 9) (a := 207) O hm gf_X12_53 fl_X12_105 kq_207 lk_207_53 dX12_flow_9 ?_
      refine v_iload_n (pc := 12) O dX12_flow_12 1 rfl ?_
      refine v_aload_n (pc := 13) O dX12_flow_13 0 rfl ?_
      refine v_getK (pc := 14) (a := 207) O hm gf_X12_42 fl_X12_81 kq_207 lk_207_42 dX12_flow_14 ?_
      refine v_iload_n (pc := 17) O dX12_flow_17 1 rfl ?_
      obtain ⟨c12, h⟩ := or_none h
      refine v_iald (pc := 18) (a := 229) O kq_229 (inq lq_229 c12) dX12_flow_18 ?_
      refine v_iconst (pc := 19) O dX12_flow_19 ic_2 ?_
      refine v_icmpne (pc := 20) 32 O dX12_flow_20 (by decide) (fun c13 => ?_) (fun c13 => ?_)
      · have h := (if_neg c13).symm.trans h
        refine v_aload_n (pc := 32) O dX12_flow_32 0 rfl ?_
        refine v_getI (pc := 33) (a := 207) O gf_X12_6 fl_X12_210 kq_207 dX12_flow_33 ?_
        refine v_sub [0, 1] rfl ?_
        exact w_X12_flow_b36 O hm hn hz ih x1 (dI D 207 6) x1 D h
      · have h := (if_pos c13).symm.trans h
        refine v_aload_n (pc := 23) O dX12_flow_23 0 rfl ?_
        refine v_getK (pc := 24) (a := 207) O hm gf_X12_43 fl_X12_84 kq_207 lk_207_43 dX12_flow_24 ?_
        refine v_iload_n (pc := 27) O dX12_flow_27 1 rfl ?_
        obtain ⟨c14, h⟩ := or_none h
        refine v_iald (pc := 28) (a := 230) O kq_230 (inq lq_230 c14) dX12_flow_28 ?_
        refine v_goto (pc := 29) 36 O dX12_flow_29 (by decide) ?_
        refine v_sub [0, 1] rfl ?_
        exact w_X12_flow_b36 O hm hn hz ih x1 (dI D 230 (x1).toNatClampNeg) x1 D h
def f_X12_flow (N : Nat) (D : Dat) : Option (Dat) :=
  f_X12_flow_b2 N N 0 D
set_option maxHeartbeats 4000000 in
theorem w_X12_flow {X : Cx} {n nu c u : Nat} {K : Nat → Nat} {N : Nat} {z : Dat} (O : Ok X cX12_flow RX12 none 3 71) (hm : wlm (xw X) = true) (hn : xn X = 2) (hz : Z0 X (Ax nu K c u)) (D : Dat) (h : f_X12_flow N D = some z) : V X (Q0 X n (Ax nu K c u) none z) n (Ax nu K c u) D 0 [(0, .ref (bo X + pp 207))] [] := by
  unfold f_X12_flow at h
  refine v_iconst (pc := 0) O dX12_flow_0 ic_0 ?_
  refine v_istore_n (pc := 1) (lv' := [(1, .int 0), (0, .ref (bo X + pp 207))]) O dX12_flow_1 rfl (by rw [hn]; decide) rfl ?_
  refine v_sub [1, 0] rfl ?_
  exact w_X12_flow_b2 O hm hn hz N 0 D h
theorem c_X12_flow {l : Launch} {w : Wx} {n nu c u : Nat} {K : Nat → Nat} {N : Nat} (hm : wlm w = true) {D : Dat} {z : Dat} (h : f_X12_flow N D = some z) : C0 l w yX12_flow cX12_flow 2 none 3 71 [.ref (wb w + pp 207)] n (Ax nu K c u) D none z :=
  C0.of (by decide) (Nat.le_of_ble_eq_true rfl) (fun X e1 e2 e3 hz O => by
  subst e1
  subst e2
  exact w_X12_flow O hm e3 hz  D h)
def f_X12_put_b39 (D : Dat) : Option (Int32 × Dat) :=
  some (((dI D 207 61) - (1 : Int32)), D)
set_option maxHeartbeats 4000000 in
theorem w_X12_put_b39 {X : Cx} {n nu c u : Nat} {K : Nat → Nat} {z : Int32 × Dat} (O : Ok X cX12_put RX12 (some .int) 0 0) (hm : wlm (xw X) = true) (hn : xn X = 3) (hz : Z0 X (Ax nu K c u)) (D : Dat) (h : f_X12_put_b39 D = some z) : V X (Q0 X n (Ax nu K c u) (some (.int z.1)) z.2) n (Ax nu K c u) D 39 [(0, .ref (bo X + pp 207))] [] := by
  unfold f_X12_put_b39 at h
  refine v_aload_n (pc := 39) O dX12_put_39 0 rfl ?_
  refine v_getI (pc := 40) (a := 207) O gf_X12_61 fl_X12_382 kq_207 dX12_put_40 ?_
  refine v_iconst (pc := 43) O dX12_put_43 ic_1 ?_
  refine v_isub (pc := 44) O dX12_put_44 ?_
  obtain rfl := Option.some.inj h
  exact v_iret (pc := 45) O hz dX12_put_45
def f_X12_put (x1 : Int32) (x2 : Int32) (D : Dat) : Option (Int32 × Dat) :=
  if 65 ≤ (dI D 207 61) then (f_X12_put_b39 D) else (if (dI D 207 61) < 0 ∨ 65 ≤ ((dI D 207 61)).toNatClampNeg then none else (if (dI (sI D 242 (dI D 207 61).toNatClampNeg x1) 207 61) < 0 ∨ 65 ≤ ((dI (sI D 242 (dI D 207 61).toNatClampNeg x1) 207 61)).toNatClampNeg then none else (f_X12_put_b39 (sI (sI (sI D 242 (dI D 207 61).toNatClampNeg x1) 243 (dI (sI D 242 (dI D 207 61).toNatClampNeg x1) 207 61).toNatClampNeg x2) 207 61 ((dI (sI (sI D 242 (dI D 207 61).toNatClampNeg x1) 243 (dI (sI D 242 (dI D 207 61).toNatClampNeg x1) 207 61).toNatClampNeg x2) 207 61) + (1 : Int32))))))
set_option maxHeartbeats 4000000 in
theorem w_X12_put {X : Cx} {n nu c u : Nat} {K : Nat → Nat} {z : Int32 × Dat} (O : Ok X cX12_put RX12 (some .int) 0 0) (hm : wlm (xw X) = true) (hn : xn X = 3) (hz : Z0 X (Ax nu K c u)) (x1 : Int32) (x2 : Int32) (D : Dat) (h : f_X12_put x1 x2 D = some z) : V X (Q0 X n (Ax nu K c u) (some (.int z.1)) z.2) n (Ax nu K c u) D 0 [(0, .ref (bo X + pp 207)), (1, .int x1), (2, .int x2)] [] := by
  unfold f_X12_put at h
  refine v_aload_n (pc := 0) O dX12_put_0 0 rfl ?_
  refine v_getI (pc := 1) (a := 207) O gf_X12_61 fl_X12_382 kq_207 dX12_put_1 ?_
  refine v_bipush (pc := 4) O dX12_put_4 bp_65 ?_
  refine v_icmpge (pc := 6) 39 O dX12_put_6 (by decide) (fun c1 => ?_) (fun c1 => ?_)
  · have h := (if_pos c1).symm.trans h
    refine v_sub [0] rfl ?_
    exact w_X12_put_b39 O hm hn hz D h
  · have h := (if_neg c1).symm.trans h
    refine v_aload_n (pc := 9) O dX12_put_9 0 rfl ?_
    refine v_getK (pc := 10) (a := 207) O hm gf_X12_62 fl_X12_120 kq_207 lk_207_62 dX12_put_10 ?_
    refine v_aload_n (pc := 13) O dX12_put_13 0 rfl ?_
    refine v_getI (pc := 14) (a := 207) O gf_X12_61 fl_X12_382 kq_207 dX12_put_14 ?_
    refine v_iload_n (pc := 17) O dX12_put_17 1 rfl ?_
    obtain ⟨c2, h⟩ := or_none h
    refine v_iast (pc := 18) (a := 242) O kq_242 (inq lq_242 c2) dX12_put_18 ?_
    refine v_aload_n (pc := 19) O dX12_put_19 0 rfl ?_
    refine v_getK (pc := 20) (a := 207) O hm gf_X12_63 fl_X12_123 kq_207 lk_207_63 dX12_put_20 ?_
    refine v_aload_n (pc := 23) O dX12_put_23 0 rfl ?_
    refine v_getI (pc := 24) (a := 207) O gf_X12_61 fl_X12_382 kq_207 dX12_put_24 ?_
    refine v_iload_n (pc := 27) O dX12_put_27 2 rfl ?_
    obtain ⟨c3, h⟩ := or_none h
    refine v_iast (pc := 28) (a := 243) O kq_243 (inq lq_243 c3) dX12_put_28 ?_
    refine v_aload_n (pc := 29) O dX12_put_29 0 rfl ?_
    refine v_dup (pc := 30) O dX12_put_30 rfl ?_
    refine v_getI (pc := 31) (a := 207) O gf_X12_61 fl_X12_382 kq_207 dX12_put_31 ?_
    refine v_iconst (pc := 34) O dX12_put_34 ic_1 ?_
    refine v_iadd (pc := 35) O dX12_put_35 ?_
    refine v_putI (pc := 36) (a := 207) O pf_X12_61 fl_X12_382 kq_207 dX12_put_36 ?_
    refine v_sub [0] rfl ?_
    exact w_X12_put_b39 O hm hn hz (sI (sI (sI D 242 (dI D 207 61).toNatClampNeg x1) 243 (dI (sI D 242 (dI D 207 61).toNatClampNeg x1) 207 61).toNatClampNeg x2) 207 61 ((dI (sI (sI D 242 (dI D 207 61).toNatClampNeg x1) 243 (dI (sI D 242 (dI D 207 61).toNatClampNeg x1) 207 61).toNatClampNeg x2) 207 61) + (1 : Int32))) h
theorem c_X12_put {l : Launch} {w : Wx} {n nu c u : Nat} {K : Nat → Nat} (hm : wlm w = true) {x1 : Int32} {x2 : Int32} {D : Dat} {z : Int32 × Dat} (h : f_X12_put x1 x2 D = some z) : C0 l w yX12_put cX12_put 3 (some .int) 0 0 [.ref (wb w + pp 207), .int x1, .int x2] n (Ax nu K c u) D (some (.int z.1)) z.2 :=
  C0.of (by decide) (Nat.le_of_ble_eq_true rfl) (fun X e1 e2 e3 hz O => by
  subst e1
  subst e2
  exact w_X12_put O hm e3 hz x1 x2 D h)
def f_X12_putItems_b2 (N : Nat) : Nat → Int32 → Dat → Option (Dat)
  | 0, _, _ => none
  | g + 1, x2, D => if x2 < 0 ∨ 520 ≤ (x2).toNatClampNeg then none else (if (dI D 225 (x2).toNatClampNeg) < 0 then (some D) else (if x2 < 0 ∨ 520 ≤ (x2).toNatClampNeg then none else (if x2 < 0 ∨ 520 ≤ (x2).toNatClampNeg then none else ((f_X12_put (dI D 225 (x2).toNatClampNeg) (dI D 226 (x2).toNatClampNeg) D).bind (fun p5 => (f_X12_putItems_b2 N g) (x2 + 1) p5.2)))))
set_option maxHeartbeats 4000000 in
theorem w_X12_putItems_b2 {X : Cx} {n nu c u : Nat} {K : Nat → Nat} {N : Nat} {z : Dat} (O : Ok X cX12_putItems RX12 none 1 22) (hm : wlm (xw X) = true) (hn : xn X = 4) (hz : Z0 X (Ax nu K c u)) : ∀ (g : Nat) (x2 : Int32) (D : Dat), f_X12_putItems_b2 N g x2 D = some z → V X (Q0 X n (Ax nu K c u) none z) n (Ax nu K c u) D 2 [(0, .ref (bo X + pp 207)), (2, .int x2)] [] := by
  intro g
  induction g with
  | zero => intro x2 D h; exact absurd h (by simp [f_X12_putItems_b2])
  | succ g ih =>
    intro x2 D h
    rw [f_X12_putItems_b2] at h
    refine v_aload_n (pc := 2) O dX12_putItems_2 0 rfl ?_
    refine v_getK (pc := 3) (a := 207) O hm gf_X12_29 fl_X12_69 kq_207 lk_207_29 dX12_putItems_3 ?_
    refine v_iload_n (pc := 6) O dX12_putItems_6 1 rfl ?_
    obtain ⟨c1, h⟩ := or_none h
    refine v_iald (pc := 7) (a := 225) O kq_225 (inq lq_225 c1) dX12_putItems_7 ?_
    refine v_iflt (pc := 8) 34 O dX12_putItems_8 (by decide) (fun c2 => ?_) (fun c2 => ?_)
    · have h := (if_pos c2).symm.trans h
      obtain rfl := Option.some.inj h
      exact v_ret (pc := 34) O hz dX12_putItems_34
    · have h := (if_neg c2).symm.trans h
      refine v_aload_n (pc := 11) O dX12_putItems_11 0 rfl ?_
      refine v_aload_n (pc := 12) O dX12_putItems_12 0 rfl ?_
      refine v_getK (pc := 13) (a := 207) O hm gf_X12_29 fl_X12_69 kq_207 lk_207_29 dX12_putItems_13 ?_
      refine v_iload_n (pc := 16) O dX12_putItems_16 1 rfl ?_
      obtain ⟨c3, h⟩ := or_none h
      refine v_iald (pc := 17) (a := 225) O kq_225 (inq lq_225 c3) dX12_putItems_17 ?_
      refine v_aload_n (pc := 18) O dX12_putItems_18 0 rfl ?_
      refine v_getK (pc := 19) (a := 207) O hm gf_X12_30 fl_X12_72 kq_207 lk_207_30 dX12_putItems_19 ?_
      refine v_iload_n (pc := 22) O dX12_putItems_22 1 rfl ?_
      obtain ⟨c4, h⟩ := or_none h
      refine v_iald (pc := 23) (a := 226) O kq_226 (inq lq_226 c4) dX12_putItems_23 ?_
      obtain ⟨p5, e6, h⟩ := bind_some h
      refine v_callV (pc := 24) (a := 207) (As := [.int (dI D 225 (x2).toNatClampNeg), .int (dI D 226 (x2).toNatClampNeg)]) (rest := []) (r := (some (.int p5.1))) (D' := p5.2) O (bb0 hz) (c_X12_put hm e6) mw_X12_put im_X12_put se_X12_put ml_X12_385 kq_207 (by decide) rfl rfl rfl (by decide) (by decide) (Nat.le_of_ble_eq_true rfl) dX12_putItems_24 rfl rfl ?_
      refine v_istore_n (pc := 27) (lv' := [(3, .int p5.1), (0, .ref (bo X + pp 207)), (2, .int x2)]) O dX12_putItems_27 rfl (by rw [hn]; decide) rfl ?_
      refine v_iinc (pc := 28) (lv' := [(2, .int (x2 + 1)), (3, .int p5.1), (0, .ref (bo X + pp 207))]) O dX12_putItems_28 2 rfl (congrArg (fun q => x2 + q) ic_1) (by rw [hn]; decide) rfl ?_
      refine v_goto (pc := 31) 2 O dX12_putItems_31 (by decide) ?_
      refine v_sub [2, 0] rfl ?_
      exact ih (x2 + 1) p5.2 h
def f_X12_putItems (N : Nat) (x1 : Int32) (D : Dat) : Option (Dat) :=
  f_X12_putItems_b2 N N x1 D
set_option maxHeartbeats 4000000 in
theorem w_X12_putItems {X : Cx} {n nu c u : Nat} {K : Nat → Nat} {N : Nat} {z : Dat} (O : Ok X cX12_putItems RX12 none 1 22) (hm : wlm (xw X) = true) (hn : xn X = 4) (hz : Z0 X (Ax nu K c u)) (x1 : Int32) (D : Dat) (h : f_X12_putItems N x1 D = some z) : V X (Q0 X n (Ax nu K c u) none z) n (Ax nu K c u) D 0 [(0, .ref (bo X + pp 207)), (1, .int x1)] [] := by
  unfold f_X12_putItems at h
  refine v_iload_n (pc := 0) O dX12_putItems_0 1 rfl ?_
  refine v_istore_n (pc := 1) (lv' := [(2, .int x1), (0, .ref (bo X + pp 207)), (1, .int x1)]) O dX12_putItems_1 rfl (by rw [hn]; decide) rfl ?_
  refine v_sub [1, 0] rfl ?_
  exact w_X12_putItems_b2 O hm hn hz N x1 D h
theorem c_X12_putItems {l : Launch} {w : Wx} {n nu c u : Nat} {K : Nat → Nat} {N : Nat} (hm : wlm w = true) {x1 : Int32} {D : Dat} {z : Dat} (h : f_X12_putItems N x1 D = some z) : C0 l w yX12_putItems cX12_putItems 4 none 1 22 [.ref (wb w + pp 207), .int x1] n (Ax nu K c u) D none z :=
  C0.of (by decide) (Nat.le_of_ble_eq_true rfl) (fun X e1 e2 e3 hz O => by
  subst e1
  subst e2
  exact w_X12_putItems O hm e3 hz x1 D h)
def f_X12_codeThrough_b193 (N : Nat) (x1 : Int32) (D : Dat) : Option (Int32 × Dat) :=
  if x1 < 0 ∨ 128 ≤ (x1).toNatClampNeg then none else ((f_X12_push (dI D 216 (x1).toNatClampNeg) x1 D).bind (fun p2 => if ((dI p2 207 55) - (1 : Int32)) < 0 ∨ 300 ≤ (((dI p2 207 55) - (1 : Int32))).toNatClampNeg then none else (if x1 < 0 ∨ 128 ≤ (x1).toNatClampNeg then none else ((f_X12_putItems N (dI (sI p2 240 ((dI p2 207 55) - (1 : Int32)).toNatClampNeg (dI p2 207 61)) 220 (x1).toNatClampNeg) (sI p2 240 ((dI p2 207 55) - (1 : Int32)).toNatClampNeg (dI p2 207 61))).bind (fun p6 => (f_X12_put 11 0 p6).bind (fun p8 => if ((dI p6 207 55) - (1 : Int32)) < 0 ∨ 300 ≤ (((dI p6 207 55) - (1 : Int32))).toNatClampNeg then none else (if x1 < 0 ∨ 128 ≤ (x1).toNatClampNeg then none else (some ((dI (sI p8.2 244 ((dI p6 207 55) - (1 : Int32)).toNatClampNeg p8.1) 222 (x1).toNatClampNeg), (sI p8.2 244 ((dI p6 207 55) - (1 : Int32)).toNatClampNeg p8.1))))))))))
set_option maxHeartbeats 4000000 in
theorem w_X12_codeThrough_b193 {X : Cx} {n nu c u : Nat} {K : Nat → Nat} {N : Nat} {z : Int32 × Dat} (O : Ok X cX12_codeThrough RX12 (some .int) 2 45) (hm : wlm (xw X) = true) (hn : xn X = 3) (hz : Z0 X (Ax nu K c u)) (x1 : Int32) (D : Dat) (h : f_X12_codeThrough_b193 N x1 D = some z) : V X (Q0 X n (Ax nu K c u) (some (.int z.1)) z.2) n (Ax nu K c u) D 193 [(0, .ref (bo X + pp 207)), (1, .int x1)] [] := by
  unfold f_X12_codeThrough_b193 at h
  refine v_aload_n (pc := 193) O dX12_codeThrough_193 0 rfl ?_
  refine v_aload_n (pc := 194) O dX12_codeThrough_194 0 rfl ?_
  refine v_getK (pc := 195) (a := 207) O hm gf_X12_20 fl_X12_42 kq_207 lk_207_20 dX12_codeThrough_195 ?_
  refine v_iload_n (pc := 198) O dX12_codeThrough_198 1 rfl ?_
  obtain ⟨c1, h⟩ := or_none h
  refine v_iald (pc := 199) (a := 216) O kq_216 (inq lq_216 c1) dX12_codeThrough_199 ?_
  refine v_iload_n (pc := 200) O dX12_codeThrough_200 1 rfl ?_
  obtain ⟨p2, e3, h⟩ := bind_some h
  refine v_callV (pc := 201) (a := 207) (As := [.int (dI D 216 (x1).toNatClampNeg), .int x1]) (rest := []) (r := none) (D' := p2) O (bb0 hz) (c_X12_push hm e3) mw_X12_push im_X12_push se_X12_push ml_X12_367 kq_207 (by decide) rfl rfl rfl (by decide) (by decide) (Nat.le_of_ble_eq_true rfl) dX12_codeThrough_201 rfl rfl ?_
  refine v_aload_n (pc := 204) O dX12_codeThrough_204 0 rfl ?_
  refine v_getK (pc := 205) (a := 207) O hm gf_X12_59 fl_X12_114 kq_207 lk_207_59 dX12_codeThrough_205 ?_
  refine v_aload_n (pc := 208) O dX12_codeThrough_208 0 rfl ?_
  refine v_getI (pc := 209) (a := 207) O gf_X12_55 fl_X12_351 kq_207 dX12_codeThrough_209 ?_
  refine v_iconst (pc := 212) O dX12_codeThrough_212 ic_1 ?_
  refine v_isub (pc := 213) O dX12_codeThrough_213 ?_
  refine v_aload_n (pc := 214) O dX12_codeThrough_214 0 rfl ?_
  refine v_getI (pc := 215) (a := 207) O gf_X12_61 fl_X12_382 kq_207 dX12_codeThrough_215 ?_
  obtain ⟨c4, h⟩ := or_none h
  refine v_iast (pc := 218) (a := 240) O kq_240 (inq lq_240 c4) dX12_codeThrough_218 ?_
  refine v_aload_n (pc := 219) O dX12_codeThrough_219 0 rfl ?_
  refine v_aload_n (pc := 220) O dX12_codeThrough_220 0 rfl ?_
  refine v_getK (pc := 221) (a := 207) O hm gf_X12_24 fl_X12_54 kq_207 lk_207_24 dX12_codeThrough_221 ?_
  refine v_iload_n (pc := 224) O dX12_codeThrough_224 1 rfl ?_
  obtain ⟨c5, h⟩ := or_none h
  refine v_iald (pc := 225) (a := 220) O kq_220 (inq lq_220 c5) dX12_codeThrough_225 ?_
  obtain ⟨p6, e7, h⟩ := bind_some h
  refine v_callV (pc := 226) (a := 207) (As := [.int (dI (sI p2 240 ((dI p2 207 55) - (1 : Int32)).toNatClampNeg (dI p2 207 61)) 220 (x1).toNatClampNeg)]) (rest := []) (r := none) (D' := p6) O (bb0 hz) (c_X12_putItems hm e7) mw_X12_putItems im_X12_putItems se_X12_putItems ml_X12_388 kq_207 (by decide) rfl rfl rfl (by decide) (by decide) (Nat.le_of_ble_eq_true rfl) dX12_codeThrough_226 rfl rfl ?_
  refine v_aload_n (pc := 229) O dX12_codeThrough_229 0 rfl ?_
  refine v_getK (pc := 230) (a := 207) O hm gf_X12_64 fl_X12_126 kq_207 lk_207_64 dX12_codeThrough_230 ?_
  refine v_aload_n (pc := 233) O dX12_codeThrough_233 0 rfl ?_
  refine v_getI (pc := 234) (a := 207) O gf_X12_55 fl_X12_351 kq_207 dX12_codeThrough_234 ?_
  refine v_iconst (pc := 237) O dX12_codeThrough_237 ic_1 ?_
  refine v_isub (pc := 238) O dX12_codeThrough_238 ?_
  refine v_aload_n (pc := 239) O dX12_codeThrough_239 0 rfl ?_
  refine v_bipush (pc := 240) O dX12_codeThrough_240 bp_11 ?_
  refine v_iconst (pc := 242) O dX12_codeThrough_242 ic_0 ?_
  obtain ⟨p8, e9, h⟩ := bind_some h
  refine v_callV (pc := 243) (a := 207) (As := [.int 11, .int 0]) (rest := [.int ((dI p6 207 55) - (1 : Int32)), .ref (bo X + pp 244)]) (r := (some (.int p8.1))) (D' := p8.2) O (bb0 hz) (c_X12_put hm e9) mw_X12_put im_X12_put se_X12_put ml_X12_385 kq_207 (by decide) rfl rfl rfl (by decide) (by decide) (Nat.le_of_ble_eq_true rfl) dX12_codeThrough_243 rfl rfl ?_
  obtain ⟨c10, h⟩ := or_none h
  refine v_iast (pc := 246) (a := 244) O kq_244 (inq lq_244 c10) dX12_codeThrough_246 ?_
  refine v_aload_n (pc := 247) O dX12_codeThrough_247 0 rfl ?_
  refine v_getK (pc := 248) (a := 207) O hm gf_X12_26 fl_X12_60 kq_207 lk_207_26 dX12_codeThrough_248 ?_
  refine v_iload_n (pc := 251) O dX12_codeThrough_251 1 rfl ?_
  obtain ⟨c11, h⟩ := or_none h
  refine v_iald (pc := 252) (a := 222) O kq_222 (inq lq_222 c11) dX12_codeThrough_252 ?_
  obtain rfl := Option.some.inj h
  exact v_iret (pc := 253) O hz dX12_codeThrough_253
def f_X12_codeThrough_b254 (N : Nat) (x1 : Int32) (D : Dat) : Option (Int32 × Dat) :=
  if x1 < 0 ∨ 128 ≤ (x1).toNatClampNeg then none else (some ((dI D 224 (x1).toNatClampNeg), D))
set_option maxHeartbeats 4000000 in
theorem w_X12_codeThrough_b254 {X : Cx} {n nu c u : Nat} {K : Nat → Nat} {N : Nat} {z : Int32 × Dat} (O : Ok X cX12_codeThrough RX12 (some .int) 2 45) (hm : wlm (xw X) = true) (hn : xn X = 3) (hz : Z0 X (Ax nu K c u)) (x1 : Int32) (D : Dat) (h : f_X12_codeThrough_b254 N x1 D = some z) : V X (Q0 X n (Ax nu K c u) (some (.int z.1)) z.2) n (Ax nu K c u) D 254 [(0, .ref (bo X + pp 207)), (1, .int x1)] [] := by
  unfold f_X12_codeThrough_b254 at h
  refine v_aload_n (pc := 254) O dX12_codeThrough_254 0 rfl ?_
  refine v_getK (pc := 255) (a := 207) O hm gf_X12_28 fl_X12_66 kq_207 lk_207_28 dX12_codeThrough_255 ?_
  refine v_iload_n (pc := 258) O dX12_codeThrough_258 1 rfl ?_
  obtain ⟨c12, h⟩ := or_none h
  refine v_iald (pc := 259) (a := 224) O kq_224 (inq lq_224 c12) dX12_codeThrough_259 ?_
  obtain rfl := Option.some.inj h
  exact v_iret (pc := 260) O hz dX12_codeThrough_260
def f_X12_codeThrough (N : Nat) (x1 : Int32) (D : Dat) : Option (Int32 × Dat) :=
  if x1 < 0 ∨ 128 ≤ (x1).toNatClampNeg then none else (if (dI D 216 (x1).toNatClampNeg) = (1 : Int32) then (if x1 < 0 ∨ 128 ≤ (x1).toNatClampNeg then none else ((f_X12_putItems N (dI D 221 (x1).toNatClampNeg) D).bind (fun p16 => if x1 < 0 ∨ 128 ≤ (x1).toNatClampNeg then none else ((f_X12_put 2 (dI p16 218 (x1).toNatClampNeg) p16).bind (fun p19 => f_X12_codeThrough_b254 N x1 p19.2))))) else (if (dI D 216 (x1).toNatClampNeg) = (2 : Int32) then (if x1 < 0 ∨ 128 ≤ (x1).toNatClampNeg then none else ((f_X12_putItems N (dI D 220 (x1).toNatClampNeg) D).bind (fun p23 => if x1 < 0 ∨ 128 ≤ (x1).toNatClampNeg then none else ((f_X12_putItems N (dI p23 221 (x1).toNatClampNeg) p23).bind (fun p26 => if x1 < 0 ∨ 128 ≤ (x1).toNatClampNeg then none else ((f_X12_put 4 (dI p26 218 (x1).toNatClampNeg) p26).bind (fun p29 => f_X12_codeThrough_b254 N x1 p29.2))))))) else (if (dI D 216 (x1).toNatClampNeg) = (5 : Int32) then (if x1 < 0 ∨ 128 ≤ (x1).toNatClampNeg then none else ((f_X12_put 13 (dI D 219 (x1).toNatClampNeg) D).bind (fun p33 => if x1 < 0 ∨ 128 ≤ (x1).toNatClampNeg then none else ((f_X12_put 2 (dI p33.2 218 (x1).toNatClampNeg) p33.2).bind (fun p36 => f_X12_codeThrough_b254 N x1 p36.2))))) else (if (dI D 216 (x1).toNatClampNeg) = (6 : Int32) then (if x1 < 0 ∨ 128 ≤ (x1).toNatClampNeg then none else ((f_X12_putItems N (dI D 220 (x1).toNatClampNeg) D).bind (fun p40 => if x1 < 0 ∨ 128 ≤ (x1).toNatClampNeg then none else ((f_X12_put 14 (dI p40 219 (x1).toNatClampNeg) p40).bind (fun p43 => f_X12_codeThrough_b254 N x1 p43.2))))) else (if (dI D 216 (x1).toNatClampNeg) = (7 : Int32) then ((f_X12_push 7 x1 D).bind (fun p46 => if x1 < 0 ∨ 128 ≤ (x1).toNatClampNeg then none else (if (((26 : Int32) * (dI p46 207 35)) + (dI p46 218 (x1).toNatClampNeg)) < 0 ∨ 52 ≤ ((((26 : Int32) * (dI p46 207 35)) + (dI p46 218 (x1).toNatClampNeg))).toNatClampNeg then none else (some ((dI p46 227 (((26 : Int32) * (dI p46 207 35)) + (dI p46 218 (x1).toNatClampNeg)).toNatClampNeg), p46))))) else (f_X12_codeThrough_b193 N x1 D))))))
set_option maxHeartbeats 4000000 in
theorem w_X12_codeThrough {X : Cx} {n nu c u : Nat} {K : Nat → Nat} {N : Nat} {z : Int32 × Dat} (O : Ok X cX12_codeThrough RX12 (some .int) 2 45) (hm : wlm (xw X) = true) (hn : xn X = 3) (hz : Z0 X (Ax nu K c u)) (x1 : Int32) (D : Dat) (h : f_X12_codeThrough N x1 D = some z) : V X (Q0 X n (Ax nu K c u) (some (.int z.1)) z.2) n (Ax nu K c u) D 0 [(0, .ref (bo X + pp 207)), (1, .int x1)] [] := by
  unfold f_X12_codeThrough at h
  refine v_iconst (pc := 0) O dX12_codeThrough_0 ic_0 ?_
  refine v_istore_n (pc := 1) (lv' := [(2, .int 0), (0, .ref (bo X + pp 207)), (1, .int x1)]) O dX12_codeThrough_1 rfl (by rw [hn]; decide) rfl ?_
  refine v_aload_n (pc := 2) O dX12_codeThrough_2 1 rfl ?_
  refine v_getK (pc := 3) (a := 207) O hm gf_X12_20 fl_X12_42 kq_207 lk_207_20 dX12_codeThrough_3 ?_
  refine v_iload_n (pc := 6) O dX12_codeThrough_6 2 rfl ?_
  obtain ⟨c13, h⟩ := or_none h
  refine v_iald (pc := 7) (a := 216) O kq_216 (inq lq_216 c13) dX12_codeThrough_7 ?_
  by_cases c14 : (dI D 216 (x1).toNatClampNeg) = (1 : Int32)
  · have h := (if_pos c14).symm.trans h
    refine v_tableIn (pc := 8) 52 O dX12_codeThrough_8 (by rw [c14]; decide) (by rw [c14]; decide) (by rw [c14]; rfl) (by decide) ?_
    refine v_aload_n (pc := 52) O dX12_codeThrough_52 1 rfl ?_
    refine v_aload_n (pc := 53) O dX12_codeThrough_53 1 rfl ?_
    refine v_getK (pc := 54) (a := 207) O hm gf_X12_25 fl_X12_57 kq_207 lk_207_25 dX12_codeThrough_54 ?_
    refine v_iload_n (pc := 57) O dX12_codeThrough_57 2 rfl ?_
    obtain ⟨c15, h⟩ := or_none h
    refine v_iald (pc := 58) (a := 221) O kq_221 (inq lq_221 c15) dX12_codeThrough_58 ?_
    obtain ⟨p16, e17, h⟩ := bind_some h
    refine v_callV (pc := 59) (a := 207) (As := [.int (dI D 221 (x1).toNatClampNeg)]) (rest := []) (r := none) (D' := p16) O (bb0 hz) (c_X12_putItems hm e17) mw_X12_putItems im_X12_putItems se_X12_putItems ml_X12_388 kq_207 (by decide) rfl rfl rfl (by decide) (by decide) (Nat.le_of_ble_eq_true rfl) dX12_codeThrough_59 rfl rfl ?_
    refine v_aload_n (pc := 62) O dX12_codeThrough_62 1 rfl ?_
    refine v_iconst (pc := 63) O dX12_codeThrough_63 ic_2 ?_
    refine v_aload_n (pc := 64) O dX12_codeThrough_64 1 rfl ?_
    refine v_getK (pc := 65) (a := 207) O hm gf_X12_22 fl_X12_48 kq_207 lk_207_22 dX12_codeThrough_65 ?_
    refine v_iload_n (pc := 68) O dX12_codeThrough_68 2 rfl ?_
    obtain ⟨c18, h⟩ := or_none h
    refine v_iald (pc := 69) (a := 218) O kq_218 (inq lq_218 c18) dX12_codeThrough_69 ?_
    obtain ⟨p19, e20, h⟩ := bind_some h
    refine v_callV (pc := 70) (a := 207) (As := [.int 2, .int (dI p16 218 (x1).toNatClampNeg)]) (rest := []) (r := (some (.int p19.1))) (D' := p19.2) O (bb0 hz) (c_X12_put hm e20) mw_X12_put im_X12_put se_X12_put ml_X12_385 kq_207 (by decide) rfl rfl rfl (by decide) (by decide) (Nat.le_of_ble_eq_true rfl) dX12_codeThrough_70 rfl rfl ?_
    refine v_istore_n (pc := 73) (lv' := [(2, .int p19.1), (0, .ref (bo X + pp 207)), (1, .int x1)]) O dX12_codeThrough_73 rfl (by rw [hn]; decide) rfl ?_
    refine v_goto (pc := 74) 254 O dX12_codeThrough_74 (by decide) ?_
    refine v_sub [1, 2] rfl ?_
    exact w_X12_codeThrough_b254 O hm hn hz x1 p19.2 h
  · have h := (if_neg c14).symm.trans h
    by_cases c21 : (dI D 216 (x1).toNatClampNeg) = (2 : Int32)
    · have h := (if_pos c21).symm.trans h
      refine v_tableIn (pc := 8) 77 O dX12_codeThrough_8 (by rw [c21]; decide) (by rw [c21]; decide) (by rw [c21]; rfl) (by decide) ?_
      refine v_aload_n (pc := 77) O dX12_codeThrough_77 1 rfl ?_
      refine v_aload_n (pc := 78) O dX12_codeThrough_78 1 rfl ?_
      refine v_getK (pc := 79) (a := 207) O hm gf_X12_24 fl_X12_54 kq_207 lk_207_24 dX12_codeThrough_79 ?_
      refine v_iload_n (pc := 82) O dX12_codeThrough_82 2 rfl ?_
      obtain ⟨c22, h⟩ := or_none h
      refine v_iald (pc := 83) (a := 220) O kq_220 (inq lq_220 c22) dX12_codeThrough_83 ?_
      obtain ⟨p23, e24, h⟩ := bind_some h
      refine v_callV (pc := 84) (a := 207) (As := [.int (dI D 220 (x1).toNatClampNeg)]) (rest := []) (r := none) (D' := p23) O (bb0 hz) (c_X12_putItems hm e24) mw_X12_putItems im_X12_putItems se_X12_putItems ml_X12_388 kq_207 (by decide) rfl rfl rfl (by decide) (by decide) (Nat.le_of_ble_eq_true rfl) dX12_codeThrough_84 rfl rfl ?_
      refine v_aload_n (pc := 87) O dX12_codeThrough_87 1 rfl ?_
      refine v_aload_n (pc := 88) O dX12_codeThrough_88 1 rfl ?_
      refine v_getK (pc := 89) (a := 207) O hm gf_X12_25 fl_X12_57 kq_207 lk_207_25 dX12_codeThrough_89 ?_
      refine v_iload_n (pc := 92) O dX12_codeThrough_92 2 rfl ?_
      obtain ⟨c25, h⟩ := or_none h
      refine v_iald (pc := 93) (a := 221) O kq_221 (inq lq_221 c25) dX12_codeThrough_93 ?_
      obtain ⟨p26, e27, h⟩ := bind_some h
      refine v_callV (pc := 94) (a := 207) (As := [.int (dI p23 221 (x1).toNatClampNeg)]) (rest := []) (r := none) (D' := p26) O (bb0 hz) (c_X12_putItems hm e27) mw_X12_putItems im_X12_putItems se_X12_putItems ml_X12_388 kq_207 (by decide) rfl rfl rfl (by decide) (by decide) (Nat.le_of_ble_eq_true rfl) dX12_codeThrough_94 rfl rfl ?_
      refine v_aload_n (pc := 97) O dX12_codeThrough_97 1 rfl ?_
      refine v_iconst (pc := 98) O dX12_codeThrough_98 ic_4 ?_
      refine v_aload_n (pc := 99) O dX12_codeThrough_99 1 rfl ?_
      refine v_getK (pc := 100) (a := 207) O hm gf_X12_22 fl_X12_48 kq_207 lk_207_22 dX12_codeThrough_100 ?_
      refine v_iload_n (pc := 103) O dX12_codeThrough_103 2 rfl ?_
      obtain ⟨c28, h⟩ := or_none h
      refine v_iald (pc := 104) (a := 218) O kq_218 (inq lq_218 c28) dX12_codeThrough_104 ?_
      obtain ⟨p29, e30, h⟩ := bind_some h
      refine v_callV (pc := 105) (a := 207) (As := [.int 4, .int (dI p26 218 (x1).toNatClampNeg)]) (rest := []) (r := (some (.int p29.1))) (D' := p29.2) O (bb0 hz) (c_X12_put hm e30) mw_X12_put im_X12_put se_X12_put ml_X12_385 kq_207 (by decide) rfl rfl rfl (by decide) (by decide) (Nat.le_of_ble_eq_true rfl) dX12_codeThrough_105 rfl rfl ?_
      refine v_istore_n (pc := 108) (lv' := [(2, .int p29.1), (0, .ref (bo X + pp 207)), (1, .int x1)]) O dX12_codeThrough_108 rfl (by rw [hn]; decide) rfl ?_
      refine v_goto (pc := 109) 254 O dX12_codeThrough_109 (by decide) ?_
      refine v_sub [1, 2] rfl ?_
      exact w_X12_codeThrough_b254 O hm hn hz x1 p29.2 h
    · have h := (if_neg c21).symm.trans h
      by_cases c31 : (dI D 216 (x1).toNatClampNeg) = (5 : Int32)
      · have h := (if_pos c31).symm.trans h
        refine v_tableIn (pc := 8) 112 O dX12_codeThrough_8 (by rw [c31]; decide) (by rw [c31]; decide) (by rw [c31]; rfl) (by decide) ?_
        refine v_aload_n (pc := 112) O dX12_codeThrough_112 1 rfl ?_
        refine v_bipush (pc := 113) O dX12_codeThrough_113 bp_13 ?_
        refine v_aload_n (pc := 115) O dX12_codeThrough_115 1 rfl ?_
        refine v_getK (pc := 116) (a := 207) O hm gf_X12_23 fl_X12_51 kq_207 lk_207_23 dX12_codeThrough_116 ?_
        refine v_iload_n (pc := 119) O dX12_codeThrough_119 2 rfl ?_
        obtain ⟨c32, h⟩ := or_none h
        refine v_iald (pc := 120) (a := 219) O kq_219 (inq lq_219 c32) dX12_codeThrough_120 ?_
        obtain ⟨p33, e34, h⟩ := bind_some h
        refine v_callV (pc := 121) (a := 207) (As := [.int 13, .int (dI D 219 (x1).toNatClampNeg)]) (rest := []) (r := (some (.int p33.1))) (D' := p33.2) O (bb0 hz) (c_X12_put hm e34) mw_X12_put im_X12_put se_X12_put ml_X12_385 kq_207 (by decide) rfl rfl rfl (by decide) (by decide) (Nat.le_of_ble_eq_true rfl) dX12_codeThrough_121 rfl rfl ?_
        refine v_istore_n (pc := 124) (lv' := [(2, .int p33.1), (0, .ref (bo X + pp 207)), (1, .int x1)]) O dX12_codeThrough_124 rfl (by rw [hn]; decide) rfl ?_
        refine v_aload_n (pc := 125) O dX12_codeThrough_125 1 rfl ?_
        refine v_iconst (pc := 126) O dX12_codeThrough_126 ic_2 ?_
        refine v_aload_n (pc := 127) O dX12_codeThrough_127 1 rfl ?_
        refine v_getK (pc := 128) (a := 207) O hm gf_X12_22 fl_X12_48 kq_207 lk_207_22 dX12_codeThrough_128 ?_
        refine v_iload_n (pc := 131) O dX12_codeThrough_131 2 rfl ?_
        obtain ⟨c35, h⟩ := or_none h
        refine v_iald (pc := 132) (a := 218) O kq_218 (inq lq_218 c35) dX12_codeThrough_132 ?_
        obtain ⟨p36, e37, h⟩ := bind_some h
        refine v_callV (pc := 133) (a := 207) (As := [.int 2, .int (dI p33.2 218 (x1).toNatClampNeg)]) (rest := []) (r := (some (.int p36.1))) (D' := p36.2) O (bb0 hz) (c_X12_put hm e37) mw_X12_put im_X12_put se_X12_put ml_X12_385 kq_207 (by decide) rfl rfl rfl (by decide) (by decide) (Nat.le_of_ble_eq_true rfl) dX12_codeThrough_133 rfl rfl ?_
        refine v_istore_n (pc := 136) (lv' := [(2, .int p36.1), (0, .ref (bo X + pp 207)), (1, .int x1)]) O dX12_codeThrough_136 rfl (by rw [hn]; decide) rfl ?_
        refine v_goto (pc := 137) 254 O dX12_codeThrough_137 (by decide) ?_
        refine v_sub [1, 2] rfl ?_
        exact w_X12_codeThrough_b254 O hm hn hz x1 p36.2 h
      · have h := (if_neg c31).symm.trans h
        by_cases c38 : (dI D 216 (x1).toNatClampNeg) = (6 : Int32)
        · have h := (if_pos c38).symm.trans h
          refine v_tableIn (pc := 8) 140 O dX12_codeThrough_8 (by rw [c38]; decide) (by rw [c38]; decide) (by rw [c38]; rfl) (by decide) ?_
          refine v_aload_n (pc := 140) O dX12_codeThrough_140 1 rfl ?_
          refine v_aload_n (pc := 141) O dX12_codeThrough_141 1 rfl ?_
          refine v_getK (pc := 142) (a := 207) O hm gf_X12_24 fl_X12_54 kq_207 lk_207_24 dX12_codeThrough_142 ?_
          refine v_iload_n (pc := 145) O dX12_codeThrough_145 2 rfl ?_
          obtain ⟨c39, h⟩ := or_none h
          refine v_iald (pc := 146) (a := 220) O kq_220 (inq lq_220 c39) dX12_codeThrough_146 ?_
          obtain ⟨p40, e41, h⟩ := bind_some h
          refine v_callV (pc := 147) (a := 207) (As := [.int (dI D 220 (x1).toNatClampNeg)]) (rest := []) (r := none) (D' := p40) O (bb0 hz) (c_X12_putItems hm e41) mw_X12_putItems im_X12_putItems se_X12_putItems ml_X12_388 kq_207 (by decide) rfl rfl rfl (by decide) (by decide) (Nat.le_of_ble_eq_true rfl) dX12_codeThrough_147 rfl rfl ?_
          refine v_aload_n (pc := 150) O dX12_codeThrough_150 1 rfl ?_
          refine v_bipush (pc := 151) O dX12_codeThrough_151 bp_14 ?_
          refine v_aload_n (pc := 153) O dX12_codeThrough_153 1 rfl ?_
          refine v_getK (pc := 154) (a := 207) O hm gf_X12_23 fl_X12_51 kq_207 lk_207_23 dX12_codeThrough_154 ?_
          refine v_iload_n (pc := 157) O dX12_codeThrough_157 2 rfl ?_
          obtain ⟨c42, h⟩ := or_none h
          refine v_iald (pc := 158) (a := 219) O kq_219 (inq lq_219 c42) dX12_codeThrough_158 ?_
          obtain ⟨p43, e44, h⟩ := bind_some h
          refine v_callV (pc := 159) (a := 207) (As := [.int 14, .int (dI p40 219 (x1).toNatClampNeg)]) (rest := []) (r := (some (.int p43.1))) (D' := p43.2) O (bb0 hz) (c_X12_put hm e44) mw_X12_put im_X12_put se_X12_put ml_X12_385 kq_207 (by decide) rfl rfl rfl (by decide) (by decide) (Nat.le_of_ble_eq_true rfl) dX12_codeThrough_159 rfl rfl ?_
          refine v_istore_n (pc := 162) (lv' := [(2, .int p43.1), (0, .ref (bo X + pp 207)), (1, .int x1)]) O dX12_codeThrough_162 rfl (by rw [hn]; decide) rfl ?_
          refine v_goto (pc := 163) 254 O dX12_codeThrough_163 (by decide) ?_
          refine v_sub [1, 2] rfl ?_
          exact w_X12_codeThrough_b254 O hm hn hz x1 p43.2 h
        · have h := (if_neg c38).symm.trans h
          by_cases c45 : (dI D 216 (x1).toNatClampNeg) = (7 : Int32)
          · have h := (if_pos c45).symm.trans h
            refine v_tableIn (pc := 8) 166 O dX12_codeThrough_8 (by rw [c45]; decide) (by rw [c45]; decide) (by rw [c45]; rfl) (by decide) ?_
            refine v_aload_n (pc := 166) O dX12_codeThrough_166 1 rfl ?_
            refine v_bipush (pc := 167) O dX12_codeThrough_167 bp_7 ?_
            refine v_iload_n (pc := 169) O dX12_codeThrough_169 2 rfl ?_
            obtain ⟨p46, e47, h⟩ := bind_some h
            refine v_callV (pc := 170) (a := 207) (As := [.int 7, .int x1]) (rest := []) (r := none) (D' := p46) O (bb0 hz) (c_X12_push hm e47) mw_X12_push im_X12_push se_X12_push ml_X12_367 kq_207 (by decide) rfl rfl rfl (by decide) (by decide) (Nat.le_of_ble_eq_true rfl) dX12_codeThrough_170 rfl rfl ?_
            refine v_aload_n (pc := 173) O dX12_codeThrough_173 1 rfl ?_
            refine v_getK (pc := 174) (a := 207) O hm gf_X12_31 fl_X12_75 kq_207 lk_207_31 dX12_codeThrough_174 ?_
            refine v_bipush (pc := 177) O dX12_codeThrough_177 bp_26 ?_
            refine v_aload_n (pc := 179) O dX12_codeThrough_179 1 rfl ?_
            refine v_getI (pc := 180) (a := 207) O gf_X12_35 fl_X12_308 kq_207 dX12_codeThrough_180 ?_
            refine v_imul (pc := 183) O dX12_codeThrough_183 ?_
            refine v_aload_n (pc := 184) O dX12_codeThrough_184 1 rfl ?_
            refine v_getK (pc := 185) (a := 207) O hm gf_X12_22 fl_X12_48 kq_207 lk_207_22 dX12_codeThrough_185 ?_
            refine v_iload_n (pc := 188) O dX12_codeThrough_188 2 rfl ?_
            obtain ⟨c48, h⟩ := or_none h
            refine v_iald (pc := 189) (a := 218) O kq_218 (inq lq_218 c48) dX12_codeThrough_189 ?_
            refine v_iadd (pc := 190) O dX12_codeThrough_190 ?_
            obtain ⟨c49, h⟩ := or_none h
            refine v_iald (pc := 191) (a := 227) O kq_227 (inq lq_227 c49) dX12_codeThrough_191 ?_
            obtain rfl := Option.some.inj h
            exact v_iret (pc := 192) O hz dX12_codeThrough_192
          · have h := (if_neg c45).symm.trans h
            refine v_table (pc := 8) 193 O dX12_codeThrough_8 (fun g1 g2 => by
                have c14i := ne_i (1) rfl c14
                have c21i := ne_i (2) rfl c21
                have c31i := ne_i (5) rfl c31
                have c38i := ne_i (6) rfl c38
                have c45i := ne_i (7) rfl c45
                rcases (show (dI D 216 (x1).toNatClampNeg).toInt = 3 ∨ (dI D 216 (x1).toNatClampNeg).toInt = 4 by omega) with e9 | e9 <;> (rw [e9]; exact ⟨_, rfl, by decide⟩)) (by decide) ?_
            refine v_sub [1, 2] rfl ?_
            exact w_X12_codeThrough_b193 O hm hn hz x1 D h
theorem c_X12_codeThrough {l : Launch} {w : Wx} {n nu c u : Nat} {K : Nat → Nat} {N : Nat} (hm : wlm w = true) {x1 : Int32} {D : Dat} {z : Int32 × Dat} (h : f_X12_codeThrough N x1 D = some z) : C0 l w yX12_codeThrough cX12_codeThrough 3 (some .int) 2 45 [.ref (wb w + pp 207), .int x1] n (Ax nu K c u) D (some (.int z.1)) z.2 :=
  C0.of (by decide) (Nat.le_of_ble_eq_true rfl) (fun X e1 e2 e3 hz O => by
  subst e1
  subst e2
  exact w_X12_codeThrough O hm e3 hz x1 D h)
def f_X12_codeBack_b92 (x2 : Int32) (D : Dat) : Option (Int32 × Dat) :=
  if x2 < 0 ∨ 128 ≤ (x2).toNatClampNeg then none else (some ((dI D 223 (x2).toNatClampNeg), D))
set_option maxHeartbeats 4000000 in
theorem w_X12_codeBack_b92 {X : Cx} {n nu c u : Nat} {K : Nat → Nat} {z : Int32 × Dat} (O : Ok X cX12_codeBack RX12 (some .int) 1 22) (hm : wlm (xw X) = true) (hn : xn X = 5) (hz : Z0 X (Ax nu K c u)) (x2 : Int32) (D : Dat) (h : f_X12_codeBack_b92 x2 D = some z) : V X (Q0 X n (Ax nu K c u) (some (.int z.1)) z.2) n (Ax nu K c u) D 92 [(0, .ref (bo X + pp 207)), (2, .int x2)] [] := by
  unfold f_X12_codeBack_b92 at h
  refine v_aload_n (pc := 92) O dX12_codeBack_92 0 rfl ?_
  refine v_getK (pc := 93) (a := 207) O hm gf_X12_27 fl_X12_63 kq_207 lk_207_27 dX12_codeBack_93 ?_
  refine v_iload_n (pc := 96) O dX12_codeBack_96 1 rfl ?_
  obtain ⟨c1, h⟩ := or_none h
  refine v_iald (pc := 97) (a := 223) O kq_223 (inq lq_223 c1) dX12_codeBack_97 ?_
  obtain rfl := Option.some.inj h
  exact v_iret (pc := 98) O hz dX12_codeBack_98
def f_X12_codeBack_b139 (x2 : Int32) (D : Dat) : Option (Int32 × Dat) :=
  if x2 < 0 ∨ 128 ≤ (x2).toNatClampNeg then none else (some ((dI (sI D 207 55 ((dI D 207 55) - (1 : Int32))) 224 (x2).toNatClampNeg), (sI D 207 55 ((dI D 207 55) - (1 : Int32)))))
set_option maxHeartbeats 4000000 in
theorem w_X12_codeBack_b139 {X : Cx} {n nu c u : Nat} {K : Nat → Nat} {z : Int32 × Dat} (O : Ok X cX12_codeBack RX12 (some .int) 1 22) (hm : wlm (xw X) = true) (hn : xn X = 5) (hz : Z0 X (Ax nu K c u)) (x2 : Int32) (D : Dat) (h : f_X12_codeBack_b139 x2 D = some z) : V X (Q0 X n (Ax nu K c u) (some (.int z.1)) z.2) n (Ax nu K c u) D 139 [(0, .ref (bo X + pp 207)), (2, .int x2)] [] := by
  unfold f_X12_codeBack_b139 at h
  refine v_aload_n (pc := 139) O dX12_codeBack_139 0 rfl ?_
  refine v_dup (pc := 140) O dX12_codeBack_140 rfl ?_
  refine v_getI (pc := 141) (a := 207) O gf_X12_55 fl_X12_351 kq_207 dX12_codeBack_141 ?_
  refine v_iconst (pc := 144) O dX12_codeBack_144 ic_1 ?_
  refine v_isub (pc := 145) O dX12_codeBack_145 ?_
  refine v_putI (pc := 146) (a := 207) O pf_X12_55 fl_X12_351 kq_207 dX12_codeBack_146 ?_
  refine v_aload_n (pc := 149) O dX12_codeBack_149 0 rfl ?_
  refine v_getK (pc := 150) (a := 207) O hm gf_X12_28 fl_X12_66 kq_207 lk_207_28 dX12_codeBack_150 ?_
  refine v_iload_n (pc := 153) O dX12_codeBack_153 1 rfl ?_
  obtain ⟨c2, h⟩ := or_none h
  refine v_iald (pc := 154) (a := 224) O kq_224 (inq lq_224 c2) dX12_codeBack_154 ?_
  obtain rfl := Option.some.inj h
  exact v_iret (pc := 155) O hz dX12_codeBack_155
def f_X12_codeBack_b123 (x1 : Int32) (x2 : Int32) (x3 : Int32) (D : Dat) : Option (Int32 × Dat) :=
  if x1 = 7 then (f_X12_codeBack_b139 x2 D) else (if x3 < 0 ∨ 65 ≤ (x3).toNatClampNeg then none else (f_X12_codeBack_b139 x2 (sI D 243 (x3).toNatClampNeg (dI D 207 61))))
set_option maxHeartbeats 4000000 in
theorem w_X12_codeBack_b123 {X : Cx} {n nu c u : Nat} {K : Nat → Nat} {z : Int32 × Dat} (O : Ok X cX12_codeBack RX12 (some .int) 1 22) (hm : wlm (xw X) = true) (hn : xn X = 5) (hz : Z0 X (Ax nu K c u)) (x1 : Int32) (x2 : Int32) (x3 : Int32) (D : Dat) (h : f_X12_codeBack_b123 x1 x2 x3 D = some z) : V X (Q0 X n (Ax nu K c u) (some (.int z.1)) z.2) n (Ax nu K c u) D 123 [(0, .ref (bo X + pp 207)), (1, .int x1), (2, .int x2), (3, .int x3)] [] := by
  unfold f_X12_codeBack_b123 at h
  refine v_iload_n (pc := 123) O dX12_codeBack_123 1 rfl ?_
  refine v_bipush (pc := 124) O dX12_codeBack_124 bp_7 ?_
  refine v_icmpeq (pc := 126) 139 O dX12_codeBack_126 (by decide) (fun c3 => ?_) (fun c3 => ?_)
  · have h := (if_pos c3).symm.trans h
    refine v_sub [0, 2] rfl ?_
    exact w_X12_codeBack_b139 O hm hn hz x2 D h
  · have h := (if_neg c3).symm.trans h
    refine v_aload_n (pc := 129) O dX12_codeBack_129 0 rfl ?_
    refine v_getK (pc := 130) (a := 207) O hm gf_X12_63 fl_X12_123 kq_207 lk_207_63 dX12_codeBack_130 ?_
    refine v_iload_n (pc := 133) O dX12_codeBack_133 3 rfl ?_
    refine v_aload_n (pc := 134) O dX12_codeBack_134 0 rfl ?_
    refine v_getI (pc := 135) (a := 207) O gf_X12_61 fl_X12_382 kq_207 dX12_codeBack_135 ?_
    obtain ⟨c4, h⟩ := or_none h
    refine v_iast (pc := 138) (a := 243) O kq_243 (inq lq_243 c4) dX12_codeBack_138 ?_
    refine v_sub [0, 2] rfl ?_
    exact w_X12_codeBack_b139 O hm hn hz x2 (sI D 243 (x3).toNatClampNeg (dI D 207 61)) h
def f_X12_codeBack_b99 (x1 : Int32) (x2 : Int32) (x3 : Int32) (D : Dat) : Option (Int32 × Dat) :=
  if x1 = 4 then (if ((dI D 207 55) - (1 : Int32)) < 0 ∨ 300 ≤ (((dI D 207 55) - (1 : Int32))).toNatClampNeg then none else ((f_X12_put 12 (dI D 240 ((dI D 207 55) - (1 : Int32)).toNatClampNeg) D).bind (fun p7 => f_X12_codeBack_b123 x1 x2 x3 p7.2))) else (f_X12_codeBack_b123 x1 x2 x3 D)
set_option maxHeartbeats 4000000 in
theorem w_X12_codeBack_b99 {X : Cx} {n nu c u : Nat} {K : Nat → Nat} {z : Int32 × Dat} (O : Ok X cX12_codeBack RX12 (some .int) 1 22) (hm : wlm (xw X) = true) (hn : xn X = 5) (hz : Z0 X (Ax nu K c u)) (x1 : Int32) (x2 : Int32) (x3 : Int32) (D : Dat) (h : f_X12_codeBack_b99 x1 x2 x3 D = some z) : V X (Q0 X n (Ax nu K c u) (some (.int z.1)) z.2) n (Ax nu K c u) D 99 [(0, .ref (bo X + pp 207)), (1, .int x1), (2, .int x2), (3, .int x3)] [] := by
  unfold f_X12_codeBack_b99 at h
  refine v_iload_n (pc := 99) O dX12_codeBack_99 1 rfl ?_
  refine v_iconst (pc := 100) O dX12_codeBack_100 ic_4 ?_
  refine v_icmpne (pc := 101) 123 O dX12_codeBack_101 (by decide) (fun c5 => ?_) (fun c5 => ?_)
  · have h := (if_neg c5).symm.trans h
    refine v_sub [0, 1, 2, 3] rfl ?_
    exact w_X12_codeBack_b123 O hm hn hz x1 x2 x3 D h
  · have h := (if_pos c5).symm.trans h
    refine v_aload_n (pc := 104) O dX12_codeBack_104 0 rfl ?_
    refine v_bipush (pc := 105) O dX12_codeBack_105 bp_12 ?_
    refine v_aload_n (pc := 107) O dX12_codeBack_107 0 rfl ?_
    refine v_getK (pc := 108) (a := 207) O hm gf_X12_59 fl_X12_114 kq_207 lk_207_59 dX12_codeBack_108 ?_
    refine v_aload_n (pc := 111) O dX12_codeBack_111 0 rfl ?_
    refine v_getI (pc := 112) (a := 207) O gf_X12_55 fl_X12_351 kq_207 dX12_codeBack_112 ?_
    refine v_iconst (pc := 115) O dX12_codeBack_115 ic_1 ?_
    refine v_isub (pc := 116) O dX12_codeBack_116 ?_
    obtain ⟨c6, h⟩ := or_none h
    refine v_iald (pc := 117) (a := 240) O kq_240 (inq lq_240 c6) dX12_codeBack_117 ?_
    obtain ⟨p7, e8, h⟩ := bind_some h
    refine v_callV (pc := 118) (a := 207) (As := [.int 12, .int (dI D 240 ((dI D 207 55) - (1 : Int32)).toNatClampNeg)]) (rest := []) (r := (some (.int p7.1))) (D' := p7.2) O (bb0 hz) (c_X12_put hm e8) mw_X12_put im_X12_put se_X12_put ml_X12_385 kq_207 (by decide) rfl rfl rfl (by decide) (by decide) (Nat.le_of_ble_eq_true rfl) dX12_codeBack_118 rfl rfl ?_
    refine v_istore (pc := 121) (lv' := [(4, .int p7.1), (0, .ref (bo X + pp 207)), (1, .int x1), (2, .int x2), (3, .int x3)]) O dX12_codeBack_121 (by rw [hn]; decide) rfl ?_
    refine v_sub [1, 2, 3, 4] rfl ?_
    exact w_X12_codeBack_b123 O hm hn hz x1 x2 x3 p7.2 h
def f_X12_codeBack (D : Dat) : Option (Int32 × Dat) :=
  if ((dI D 207 55) - (1 : Int32)) < 0 ∨ 300 ≤ (((dI D 207 55) - (1 : Int32))).toNatClampNeg then none else (if ((dI D 207 55) - (1 : Int32)) < 0 ∨ 300 ≤ (((dI D 207 55) - (1 : Int32))).toNatClampNeg then none else (if ((dI D 207 55) - (1 : Int32)) < 0 ∨ 300 ≤ (((dI D 207 55) - (1 : Int32))).toNatClampNeg then none else (if (dI D 238 ((dI D 207 55) - (1 : Int32)).toNatClampNeg) = 3 then (if (dI D 239 ((dI D 207 55) - (1 : Int32)).toNatClampNeg) < 0 ∨ 128 ≤ ((dI D 239 ((dI D 207 55) - (1 : Int32)).toNatClampNeg)).toNatClampNeg then none else (if (dI D 219 (dI D 239 ((dI D 207 55) - (1 : Int32)).toNatClampNeg).toNatClampNeg) = 1 then ((f_X12_put 12 0 D).bind (fun p15 => if ((dI D 207 55) - (1 : Int32)) < 0 ∨ 300 ≤ (((dI D 207 55) - (1 : Int32))).toNatClampNeg then none else (if (dI D 244 ((dI D 207 55) - (1 : Int32)).toNatClampNeg) < 0 ∨ 65 ≤ ((dI D 244 ((dI D 207 55) - (1 : Int32)).toNatClampNeg)).toNatClampNeg then none else (if ((dI (sI (sI p15.2 244 ((dI D 207 55) - (1 : Int32)).toNatClampNeg p15.1) 243 (dI D 244 ((dI D 207 55) - (1 : Int32)).toNatClampNeg).toNatClampNeg (dI (sI p15.2 244 ((dI D 207 55) - (1 : Int32)).toNatClampNeg p15.1) 207 61)) 207 55) - (1 : Int32)) < 0 ∨ 300 ≤ (((dI (sI (sI p15.2 244 ((dI D 207 55) - (1 : Int32)).toNatClampNeg p15.1) 243 (dI D 244 ((dI D 207 55) - (1 : Int32)).toNatClampNeg).toNatClampNeg (dI (sI p15.2 244 ((dI D 207 55) - (1 : Int32)).toNatClampNeg p15.1) 207 61)) 207 55) - (1 : Int32))).toNatClampNeg then none else (f_X12_codeBack_b92 (dI D 239 ((dI D 207 55) - (1 : Int32)).toNatClampNeg) (sI (sI (sI p15.2 244 ((dI D 207 55) - (1 : Int32)).toNatClampNeg p15.1) 243 (dI D 244 ((dI D 207 55) - (1 : Int32)).toNatClampNeg).toNatClampNeg (dI (sI p15.2 244 ((dI D 207 55) - (1 : Int32)).toNatClampNeg p15.1) 207 61)) 238 ((dI (sI (sI p15.2 244 ((dI D 207 55) - (1 : Int32)).toNatClampNeg p15.1) 243 (dI D 244 ((dI D 207 55) - (1 : Int32)).toNatClampNeg).toNatClampNeg (dI (sI p15.2 244 ((dI D 207 55) - (1 : Int32)).toNatClampNeg p15.1) 207 61)) 207 55) - (1 : Int32)).toNatClampNeg 8)))))) else (f_X12_codeBack_b99 (dI D 238 ((dI D 207 55) - (1 : Int32)).toNatClampNeg) (dI D 239 ((dI D 207 55) - (1 : Int32)).toNatClampNeg) (dI D 244 ((dI D 207 55) - (1 : Int32)).toNatClampNeg) D))) else (f_X12_codeBack_b99 (dI D 238 ((dI D 207 55) - (1 : Int32)).toNatClampNeg) (dI D 239 ((dI D 207 55) - (1 : Int32)).toNatClampNeg) (dI D 244 ((dI D 207 55) - (1 : Int32)).toNatClampNeg) D))))
set_option maxHeartbeats 4000000 in
theorem w_X12_codeBack {X : Cx} {n nu c u : Nat} {K : Nat → Nat} {z : Int32 × Dat} (O : Ok X cX12_codeBack RX12 (some .int) 1 22) (hm : wlm (xw X) = true) (hn : xn X = 5) (hz : Z0 X (Ax nu K c u)) (D : Dat) (h : f_X12_codeBack D = some z) : V X (Q0 X n (Ax nu K c u) (some (.int z.1)) z.2) n (Ax nu K c u) D 0 [(0, .ref (bo X + pp 207))] [] := by
  unfold f_X12_codeBack at h
  refine v_aload_n (pc := 0) O dX12_codeBack_0 0 rfl ?_
  refine v_getK (pc := 1) (a := 207) O hm gf_X12_57 fl_X12_108 kq_207 lk_207_57 dX12_codeBack_1 ?_
  refine v_aload_n (pc := 4) O dX12_codeBack_4 0 rfl ?_
  refine v_getI (pc := 5) (a := 207) O gf_X12_55 fl_X12_351 kq_207 dX12_codeBack_5 ?_
  refine v_iconst (pc := 8) O dX12_codeBack_8 ic_1 ?_
  refine v_isub (pc := 9) O dX12_codeBack_9 ?_
  obtain ⟨c9, h⟩ := or_none h
  refine v_iald (pc := 10) (a := 238) O kq_238 (inq lq_238 c9) dX12_codeBack_10 ?_
  refine v_istore_n (pc := 11) (lv' := [(1, .int (dI D 238 ((dI D 207 55) - (1 : Int32)).toNatClampNeg)), (0, .ref (bo X + pp 207))]) O dX12_codeBack_11 rfl (by rw [hn]; decide) rfl ?_
  refine v_aload_n (pc := 12) O dX12_codeBack_12 1 rfl ?_
  refine v_getK (pc := 13) (a := 207) O hm gf_X12_58 fl_X12_111 kq_207 lk_207_58 dX12_codeBack_13 ?_
  refine v_aload_n (pc := 16) O dX12_codeBack_16 1 rfl ?_
  refine v_getI (pc := 17) (a := 207) O gf_X12_55 fl_X12_351 kq_207 dX12_codeBack_17 ?_
  refine v_iconst (pc := 20) O dX12_codeBack_20 ic_1 ?_
  refine v_isub (pc := 21) O dX12_codeBack_21 ?_
  obtain ⟨c10, h⟩ := or_none h
  refine v_iald (pc := 22) (a := 239) O kq_239 (inq lq_239 c10) dX12_codeBack_22 ?_
  refine v_istore_n (pc := 23) (lv' := [(2, .int (dI D 239 ((dI D 207 55) - (1 : Int32)).toNatClampNeg)), (1, .int (dI D 238 ((dI D 207 55) - (1 : Int32)).toNatClampNeg)), (0, .ref (bo X + pp 207))]) O dX12_codeBack_23 rfl (by rw [hn]; decide) rfl ?_
  refine v_aload_n (pc := 24) O dX12_codeBack_24 2 rfl ?_
  refine v_getK (pc := 25) (a := 207) O hm gf_X12_64 fl_X12_126 kq_207 lk_207_64 dX12_codeBack_25 ?_
  refine v_aload_n (pc := 28) O dX12_codeBack_28 2 rfl ?_
  refine v_getI (pc := 29) (a := 207) O gf_X12_55 fl_X12_351 kq_207 dX12_codeBack_29 ?_
  refine v_iconst (pc := 32) O dX12_codeBack_32 ic_1 ?_
  refine v_isub (pc := 33) O dX12_codeBack_33 ?_
  obtain ⟨c11, h⟩ := or_none h
  refine v_iald (pc := 34) (a := 244) O kq_244 (inq lq_244 c11) dX12_codeBack_34 ?_
  refine v_istore_n (pc := 35) (lv' := [(3, .int (dI D 244 ((dI D 207 55) - (1 : Int32)).toNatClampNeg)), (2, .int (dI D 239 ((dI D 207 55) - (1 : Int32)).toNatClampNeg)), (1, .int (dI D 238 ((dI D 207 55) - (1 : Int32)).toNatClampNeg)), (0, .ref (bo X + pp 207))]) O dX12_codeBack_35 rfl (by rw [hn]; decide) rfl ?_
  refine v_iload_n (pc := 36) O dX12_codeBack_36 2 rfl ?_
  refine v_iconst (pc := 37) O dX12_codeBack_37 ic_3 ?_
  refine v_icmpne (pc := 38) 99 O dX12_codeBack_38 (by decide) (fun c12 => ?_) (fun c12 => ?_)
  · have h := (if_neg c12).symm.trans h
    refine v_sub [3, 2, 1, 0] rfl ?_
    exact w_X12_codeBack_b99 O hm hn hz (dI D 238 ((dI D 207 55) - (1 : Int32)).toNatClampNeg) (dI D 239 ((dI D 207 55) - (1 : Int32)).toNatClampNeg) (dI D 244 ((dI D 207 55) - (1 : Int32)).toNatClampNeg) D h
  · have h := (if_pos c12).symm.trans h
    refine v_aload_n (pc := 41) O dX12_codeBack_41 3 rfl ?_
    refine v_getK (pc := 42) (a := 207) O hm gf_X12_23 fl_X12_51 kq_207 lk_207_23 dX12_codeBack_42 ?_
    refine v_iload_n (pc := 45) O dX12_codeBack_45 1 rfl ?_
    obtain ⟨c13, h⟩ := or_none h
    refine v_iald (pc := 46) (a := 219) O kq_219 (inq lq_219 c13) dX12_codeBack_46 ?_
    refine v_iconst (pc := 47) O dX12_codeBack_47 ic_1 ?_
    refine v_icmpne (pc := 48) 99 O dX12_codeBack_48 (by decide) (fun c14 => ?_) (fun c14 => ?_)
    · have h := (if_neg c14).symm.trans h
      refine v_sub [3, 2, 1, 0] rfl ?_
      exact w_X12_codeBack_b99 O hm hn hz (dI D 238 ((dI D 207 55) - (1 : Int32)).toNatClampNeg) (dI D 239 ((dI D 207 55) - (1 : Int32)).toNatClampNeg) (dI D 244 ((dI D 207 55) - (1 : Int32)).toNatClampNeg) D h
    · have h := (if_pos c14).symm.trans h
      refine v_aload_n (pc := 51) O dX12_codeBack_51 3 rfl ?_
      refine v_getK (pc := 52) (a := 207) O hm gf_X12_64 fl_X12_126 kq_207 lk_207_64 dX12_codeBack_52 ?_
      refine v_aload_n (pc := 55) O dX12_codeBack_55 3 rfl ?_
      refine v_getI (pc := 56) (a := 207) O gf_X12_55 fl_X12_351 kq_207 dX12_codeBack_56 ?_
      refine v_iconst (pc := 59) O dX12_codeBack_59 ic_1 ?_
      refine v_isub (pc := 60) O dX12_codeBack_60 ?_
      refine v_aload_n (pc := 61) O dX12_codeBack_61 3 rfl ?_
      refine v_bipush (pc := 62) O dX12_codeBack_62 bp_12 ?_
      refine v_iconst (pc := 64) O dX12_codeBack_64 ic_0 ?_
      obtain ⟨p15, e16, h⟩ := bind_some h
      refine v_callV (pc := 65) (a := 207) (As := [.int 12, .int 0]) (rest := [.int ((dI D 207 55) - (1 : Int32)), .ref (bo X + pp 244)]) (r := (some (.int p15.1))) (D' := p15.2) O (bb0 hz) (c_X12_put hm e16) mw_X12_put im_X12_put se_X12_put ml_X12_385 kq_207 (by decide) rfl rfl rfl (by decide) (by decide) (Nat.le_of_ble_eq_true rfl) dX12_codeBack_65 rfl rfl ?_
      obtain ⟨c17, h⟩ := or_none h
      refine v_iast (pc := 68) (a := 244) O kq_244 (inq lq_244 c17) dX12_codeBack_68 ?_
      refine v_aload_n (pc := 69) O dX12_codeBack_69 3 rfl ?_
      refine v_getK (pc := 70) (a := 207) O hm gf_X12_63 fl_X12_123 kq_207 lk_207_63 dX12_codeBack_70 ?_
      refine v_iload_n (pc := 73) O dX12_codeBack_73 0 rfl ?_
      refine v_aload_n (pc := 74) O dX12_codeBack_74 3 rfl ?_
      refine v_getI (pc := 75) (a := 207) O gf_X12_61 fl_X12_382 kq_207 dX12_codeBack_75 ?_
      obtain ⟨c18, h⟩ := or_none h
      refine v_iast (pc := 78) (a := 243) O kq_243 (inq lq_243 c18) dX12_codeBack_78 ?_
      refine v_aload_n (pc := 79) O dX12_codeBack_79 3 rfl ?_
      refine v_getK (pc := 80) (a := 207) O hm gf_X12_57 fl_X12_108 kq_207 lk_207_57 dX12_codeBack_80 ?_
      refine v_aload_n (pc := 83) O dX12_codeBack_83 3 rfl ?_
      refine v_getI (pc := 84) (a := 207) O gf_X12_55 fl_X12_351 kq_207 dX12_codeBack_84 ?_
      refine v_iconst (pc := 87) O dX12_codeBack_87 ic_1 ?_
      refine v_isub (pc := 88) O dX12_codeBack_88 ?_
      refine v_bipush (pc := 89) O dX12_codeBack_89 bp_8 ?_
      obtain ⟨c19, h⟩ := or_none h
      refine v_iast (pc := 91) (a := 238) O kq_238 (inq lq_238 c19) dX12_codeBack_91 ?_
      refine v_sub [3, 1] rfl ?_
      exact w_X12_codeBack_b92 O hm hn hz (dI D 239 ((dI D 207 55) - (1 : Int32)).toNatClampNeg) (sI (sI (sI p15.2 244 ((dI D 207 55) - (1 : Int32)).toNatClampNeg p15.1) 243 (dI D 244 ((dI D 207 55) - (1 : Int32)).toNatClampNeg).toNatClampNeg (dI (sI p15.2 244 ((dI D 207 55) - (1 : Int32)).toNatClampNeg p15.1) 207 61)) 238 ((dI (sI (sI p15.2 244 ((dI D 207 55) - (1 : Int32)).toNatClampNeg p15.1) 243 (dI D 244 ((dI D 207 55) - (1 : Int32)).toNatClampNeg).toNatClampNeg (dI (sI p15.2 244 ((dI D 207 55) - (1 : Int32)).toNatClampNeg p15.1) 207 61)) 207 55) - (1 : Int32)).toNatClampNeg 8) h
theorem c_X12_codeBack {l : Launch} {w : Wx} {n nu c u : Nat} {K : Nat → Nat} (hm : wlm w = true) {D : Dat} {z : Int32 × Dat} (h : f_X12_codeBack D = some z) : C0 l w yX12_codeBack cX12_codeBack 5 (some .int) 1 22 [.ref (wb w + pp 207)] n (Ax nu K c u) D (some (.int z.1)) z.2 :=
  C0.of (by decide) (Nat.le_of_ble_eq_true rfl) (fun X e1 e2 e3 hz O => by
  subst e1
  subst e2
  exact w_X12_codeBack O hm e3 hz  D h)
