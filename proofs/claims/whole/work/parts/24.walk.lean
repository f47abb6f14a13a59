theorem cw_X12_worth : Cond.code yX12_worth cX12_worth 3 (some .int) ∈ tb := tb_of 2339 (by decide +kernel) (by decide +kernel)
theorem mw_X12_worth : MW yX12_worth cX12_worth 3 (some .int) 1 := ⟨cw_X12_worth, ini_X12, by decide +kernel⟩
theorem im_X12_worth : Cond.instanceMethod yX12_worth ∈ tb := tb_of 2338 (by decide +kernel) (by decide +kernel)
theorem se_X12_worth : Cond.selects (yX12_worth).cls yX12_worth yX12_worth ∈ tb := tb_of 157 (by decide +kernel) (by decide +kernel)
theorem ml_X12_499 : Cond.methodLink RX12 499 yX12_worth ∈ tb := tb_of 2336 (by decide +kernel) (by decide +kernel)
theorem sp_234 : (Int16.ofInt (234)).toInt32 = (234 : Int32) := by decide
theorem kq_1 {nu c u : Nat} {K : Nat → Nat} : (Ax nu K c u).1 1 = 2 := kd_lt (K := K) (a := 1) (by decide) rfl
theorem fl_X2_9 : Cond.fieldLink RX2 9 RX2 (TX2 0).2.1 (TX2 0).2.2.1 ∈ tb := tb_of 211 (by decide +kernel) (by decide +kernel)
theorem inb_X2 : ∀ w ∈ u_ws RX2 TX2 4, w ∈ tb := by decide +kernel
theorem gf_X2_0 : FI 2 RX2 TX2 4 tyX2 0 0 := ⟨rfl, inb_X2, tyX2_ok, nmX2, by decide, by decide, rfl, rfl, rfl⟩
theorem fl_X2_19 : Cond.fieldLink RX2 19 RX2 (TX2 2).2.1 (TX2 2).2.2.1 ∈ tb := tb_of 213 (by decide +kernel) (by decide +kernel)
theorem gf_X2_2 : FI 2 RX2 TX2 4 tyX2 2 0 := ⟨rfl, inb_X2, tyX2_ok, nmX2, by decide, by decide, rfl, rfl, rfl⟩
theorem fl_X2_23 : Cond.fieldLink RX2 23 RX2 (TX2 3).2.1 (TX2 3).2.2.1 ∈ tb := tb_of 214 (by decide +kernel) (by decide +kernel)
theorem gf_X2_3 : FI 2 RX2 TX2 4 tyX2 3 0 := ⟨rfl, inb_X2, tyX2_ok, nmX2, by decide, by decide, rfl, rfl, rfl⟩
theorem ini_X2 : Cond.initialized RX2 ∈ tb := tb_of 161 (by decide +kernel) (by decide +kernel)
theorem cw_X2_has : Cond.code yX2_has cX2_has 2 (some .boolean) ∈ tb := tb_of 578 (by decide +kernel) (by decide +kernel)
theorem mw_X2_has : MW yX2_has cX2_has 2 (some .boolean) 1 := ⟨cw_X2_has, ini_X2, by decide +kernel⟩
theorem im_X2_has : Cond.instanceMethod yX2_has ∈ tb := tb_of 576 (by decide +kernel) (by decide +kernel)
theorem se_X2_has : Cond.selects (yX2_has).cls yX2_has yX2_has ∈ tb := tb_of 577 (by decide +kernel) (by decide +kernel)
theorem ml_X2_26 : Cond.methodLink RX2 26 yX2_has ∈ tb := tb_of 667 (by decide +kernel) (by decide +kernel)
theorem fl_X2_15 : Cond.fieldLink RX2 15 RX2 (TX2 1).2.1 (TX2 1).2.2.1 ∈ tb := tb_of 212 (by decide +kernel) (by decide +kernel)
theorem gf_X2_1 : FI 2 RX2 TX2 4 tyX2 1 3 := ⟨rfl, inb_X2, tyX2_ok, nmX2, by decide, by decide, rfl, rfl, rfl⟩
theorem lk_1_1 : lks 1 1 = some 2 := by decide +kernel
theorem kq_2 {nu c u : Nat} {K : Nat → Nat} : (Ax nu K c u).1 2 = 14 := kd_lt (K := K) (a := 2) (by decide) rfl
theorem lq_2 {nu c u : Nat} {K : Nat → Nat} : (Ax nu K c u).2.1 2 = nu := rfl
theorem cw_X2_leads : Cond.code yX2_leads cX2_leads 3 (some .boolean) ∈ tb := tb_of 671 (by decide +kernel) (by decide +kernel)
theorem mw_X2_leads : MW yX2_leads cX2_leads 3 (some .boolean) 2 := ⟨cw_X2_leads, ini_X2, by decide +kernel⟩
theorem im_X2_leads : Cond.instanceMethod yX2_leads ∈ tb := tb_of 669 (by decide +kernel) (by decide +kernel)
theorem se_X2_leads : Cond.selects (yX2_leads).cls yX2_leads yX2_leads ∈ tb := tb_of 670 (by decide +kernel) (by decide +kernel)
theorem ml_X2_30 : Cond.methodLink RX2 30 yX2_leads ∈ tb := tb_of 668 (by decide +kernel) (by decide +kernel)
theorem ini_J6 : Cond.initialized RJ6 ∈ tb := tb_of 179 (by decide +kernel) (by decide +kernel)
theorem cw_J6_bitCount_0f7a4 : Cond.code yJ6_bitCount_0f7a4 cJ6_bitCount_0f7a4 1 (some .int) ∈ tb := tb_of 678 (by decide +kernel) (by decide +kernel)
theorem mw_J6_bitCount_0f7a4 : MW yJ6_bitCount_0f7a4 cJ6_bitCount_0f7a4 1 (some .int) 1 := ⟨cw_J6_bitCount_0f7a4, ini_J6, by decide +kernel⟩
theorem sm_J6_bitCount_0f7a4 : Cond.static yJ6_bitCount_0f7a4 ∈ tb := tb_of 677 (by decide +kernel) (by decide +kernel)
theorem ml_X2_34 : Cond.methodLink RX2 34 yJ6_bitCount_0f7a4 ∈ tb := tb_of 676 (by decide +kernel) (by decide +kernel)
def f_X12_worth_b55 (N : Nat) (s0 : Int32) (D : Dat) : Option (Int32 × Dat) :=
  some (s0, D)
set_option maxHeartbeats 4000000 in
theorem w_X12_worth_b55 {X : Cx} {n nu c u : Nat} {K : Nat → Nat} {N : Nat} {z : Int32 × Dat} (O : Ok X cX12_worth RX12 (some .int) 3 68) (hm : wlm (xw X) = true) (hn : xn X = 3) (hz : Z0 X (Ax nu K c u)) (s0 : Int32) (D : Dat) (h : f_X12_worth_b55 N s0 D = some z) : V X (Q0 X n (Ax nu K c u) (some (.int z.1)) z.2) n (Ax nu K c u) D 55 [] [.int s0] := by
  unfold f_X12_worth_b55 at h
  obtain rfl := Option.some.inj h
  exact v_iret (pc := 55) O hz dX12_worth_55
def f_X12_worth_b40 (N : Nat) (D : Dat) : Option (Int32 × Dat) :=
  if 0 ≤ (dI D 207 84) then (f_X12_worth_b55 N 0 D) else ((f_X12_pop D).bind (fun p2 => f_X12_worth_b55 N p2.1 p2.2))
set_option maxHeartbeats 4000000 in
theorem w_X12_worth_b40 {X : Cx} {n nu c u : Nat} {K : Nat → Nat} {N : Nat} {z : Int32 × Dat} (O : Ok X cX12_worth RX12 (some .int) 3 68) (hm : wlm (xw X) = true) (hn : xn X = 3) (hz : Z0 X (Ax nu K c u)) (D : Dat) (h : f_X12_worth_b40 N D = some z) : V X (Q0 X n (Ax nu K c u) (some (.int z.1)) z.2) n (Ax nu K c u) D 40 [(0, .ref (bo X + pp 207))] [] := by
  unfold f_X12_worth_b40 at h
  refine v_aload_n (pc := 40) O dX12_worth_40 0 rfl ?_
  refine v_getI (pc := 41) (a := 207) O gf_X12_84 fl_X12_475 kq_207 dX12_worth_41 ?_
  refine v_ifge (pc := 44) 54 O dX12_worth_44 (by decide) (fun c1 => ?_) (fun c1 => ?_)
  · have h := (if_pos c1).symm.trans h
    refine v_iconst (pc := 54) O dX12_worth_54 ic_0 ?_
    refine v_sub [] rfl ?_
    exact w_X12_worth_b55 O hm hn hz 0 D h
  · have h := (if_neg c1).symm.trans h
    refine v_aload_n (pc := 47) O dX12_worth_47 0 rfl ?_
    obtain ⟨p2, e3, h⟩ := bind_some h
    refine v_callV (pc := 48) (a := 207) (As := []) (rest := []) (r := (some (.int p2.1))) (D' := p2.2) O (bb0 hz) (c_X12_pop hm e3) mw_X12_pop im_X12_pop se_X12_pop ml_X12_478 kq_207 (by decide) rfl rfl rfl (by decide) (by decide) (Nat.le_of_ble_eq_true rfl) dX12_worth_48 rfl rfl ?_
    refine v_goto (pc := 51) 55 O dX12_worth_51 (by decide) ?_
    refine v_sub [] rfl ?_
    exact w_X12_worth_b55 O hm hn hz p2.1 p2.2 h
def f_X12_worth_b2 (N : Nat) : Nat → Int32 → Dat → Option (Int32 × Dat)
  | 0, _, _ => none
  | g + 1, x2, D => if x2 < 0 ∨ 520 ≤ (x2).toNatClampNeg then none else (if (dI D 225 (x2).toNatClampNeg) < 0 then (f_X12_worth_b40 N D) else (if 0 ≤ (dI D 207 84) then (f_X12_worth_b40 N D) else (if x2 < 0 ∨ 520 ≤ (x2).toNatClampNeg then none else (if x2 < 0 ∨ 520 ≤ (x2).toNatClampNeg then none else ((f_X12_perform (dI D 225 (x2).toNatClampNeg) (dI D 226 (x2).toNatClampNeg) D).bind (fun p9 => (f_X12_worth_b2 N g) (x2 + 1) p9))))))
set_option maxHeartbeats 4000000 in
theorem w_X12_worth_b2 {X : Cx} {n nu c u : Nat} {K : Nat → Nat} {N : Nat} {z : Int32 × Dat} (O : Ok X cX12_worth RX12 (some .int) 3 68) (hm : wlm (xw X) = true) (hn : xn X = 3) (hz : Z0 X (Ax nu K c u)) : ∀ (g : Nat) (x2 : Int32) (D : Dat), f_X12_worth_b2 N g x2 D = some z → V X (Q0 X n (Ax nu K c u) (some (.int z.1)) z.2) n (Ax nu K c u) D 2 [(0, .ref (bo X + pp 207)), (2, .int x2)] [] := by
  intro g
  induction g with
  | zero => intro x2 D h; exact absurd h (by simp [f_X12_worth_b2])
  | succ g ih =>
    intro x2 D h
    rw [f_X12_worth_b2] at h
    refine v_aload_n (pc := 2) O dX12_worth_2 0 rfl ?_
    refine v_getK (pc := 3) (a := 207) O hm gf_X12_29 fl_X12_69 kq_207 lk_207_29 dX12_worth_3 ?_
    refine v_iload_n (pc := 6) O dX12_worth_6 1 rfl ?_
    obtain ⟨c4, h⟩ := or_none h
    refine v_iald (pc := 7) (a := 225) O kq_225 (inq lq_225 c4) dX12_worth_7 ?_
    refine v_iflt (pc := 8) 40 O dX12_worth_8 (by decide) (fun c5 => ?_) (fun c5 => ?_)
    · have h := (if_pos c5).symm.trans h
      refine v_sub [0] rfl ?_
      exact w_X12_worth_b40 O hm hn hz D h
    · have h := (if_neg c5).symm.trans h
      refine v_aload_n (pc := 11) O dX12_worth_11 0 rfl ?_
      refine v_getI (pc := 12) (a := 207) O gf_X12_84 fl_X12_475 kq_207 dX12_worth_12 ?_
      refine v_ifge (pc := 15) 40 O dX12_worth_15 (by decide) (fun c6 => ?_) (fun c6 => ?_)
      · have h := (if_pos c6).symm.trans h
        refine v_sub [0] rfl ?_
        exact w_X12_worth_b40 O hm hn hz D h
      · have h := (if_neg c6).symm.trans h
        refine v_aload_n (pc := 18) O dX12_worth_18 0 rfl ?_
        refine v_aload_n (pc := 19) O dX12_worth_19 0 rfl ?_
        refine v_getK (pc := 20) (a := 207) O hm gf_X12_29 fl_X12_69 kq_207 lk_207_29 dX12_worth_20 ?_
        refine v_iload_n (pc := 23) O dX12_worth_23 1 rfl ?_
        obtain ⟨c7, h⟩ := or_none h
        refine v_iald (pc := 24) (a := 225) O kq_225 (inq lq_225 c7) dX12_worth_24 ?_
        refine v_aload_n (pc := 25) O dX12_worth_25 0 rfl ?_
        refine v_getK (pc := 26) (a := 207) O hm gf_X12_30 fl_X12_72 kq_207 lk_207_30 dX12_worth_26 ?_
        refine v_iload_n (pc := 29) O dX12_worth_29 1 rfl ?_
        obtain ⟨c8, h⟩ := or_none h
        refine v_iald (pc := 30) (a := 226) O kq_226 (inq lq_226 c8) dX12_worth_30 ?_
        obtain ⟨p9, e10, h⟩ := bind_some h
        refine v_callV (pc := 31) (a := 207) (As := [.int (dI D 225 (x2).toNatClampNeg), .int (dI D 226 (x2).toNatClampNeg)]) (rest := []) (r := none) (D' := p9) O (bb0 hz) (c_X12_perform hm e10) mw_X12_perform im_X12_perform se_X12_perform ml_X12_496 kq_207 (by decide) rfl rfl rfl (by decide) (by decide) (Nat.le_of_ble_eq_true rfl) dX12_worth_31 rfl rfl ?_
        refine v_iinc (pc := 34) (lv' := [(2, .int (x2 + 1)), (0, .ref (bo X + pp 207))]) O dX12_worth_34 1 rfl (congrArg (fun q => x2 + q) ic_1) (by rw [hn]; decide) rfl ?_
        refine v_goto (pc := 37) 2 O dX12_worth_37 (by decide) ?_
        refine v_sub [1, 0] rfl ?_
        exact ih (x2 + 1) p9 h
def f_X12_worth (N : Nat) (x1 : Int32) (D : Dat) : Option (Int32 × Dat) :=
  f_X12_worth_b2 N N x1 D
set_option maxHeartbeats 4000000 in
theorem w_X12_worth {X : Cx} {n nu c u : Nat} {K : Nat → Nat} {N : Nat} {z : Int32 × Dat} (O : Ok X cX12_worth RX12 (some .int) 3 68) (hm : wlm (xw X) = true) (hn : xn X = 3) (hz : Z0 X (Ax nu K c u)) (x1 : Int32) (D : Dat) (h : f_X12_worth N x1 D = some z) : V X (Q0 X n (Ax nu K c u) (some (.int z.1)) z.2) n (Ax nu K c u) D 0 [(0, .ref (bo X + pp 207)), (1, .int x1)] [] := by
  unfold f_X12_worth at h
  refine v_iload_n (pc := 0) O dX12_worth_0 1 rfl ?_
  refine v_istore_n (pc := 1) (lv' := [(2, .int x1), (0, .ref (bo X + pp 207)), (1, .int x1)]) O dX12_worth_1 rfl (by rw [hn]; decide) rfl ?_
  refine v_sub [1, 0] rfl ?_
  exact w_X12_worth_b2 O hm hn hz N x1 D h
theorem c_X12_worth {l : Launch} {w : Wx} {n nu c u : Nat} {K : Nat → Nat} {N : Nat} (hm : wlm w = true) {x1 : Int32} {D : Dat} {z : Int32 × Dat} (h : f_X12_worth N x1 D = some z) : C0 l w yX12_worth cX12_worth 3 (some .int) 3 68 [.ref (wb w + pp 207), .int x1] n (Ax nu K c u) D (some (.int z.1)) z.2 :=
  C0.of (by decide) (Nat.le_of_ble_eq_true rfl) (fun X e1 e2 e3 hz O => by
  subst e1
  subst e2
  exact w_X12_worth O hm e3 hz x1 D h)
def f_X12_round (N : Nat) (x1 : Int32) (D : Dat) : Option (Int32 × Dat) :=
  if x1 < 0 ∨ 128 ≤ (x1).toNatClampNeg then none else ((f_X12_worth N (dI D 220 (x1).toNatClampNeg) D).bind (fun p2 => if p2.1 = 0 then (if x1 < 0 ∨ 128 ≤ (x1).toNatClampNeg then none else (some ((dI p2.2 224 (x1).toNatClampNeg), p2.2))) else ((f_X12_push 4 x1 p2.2).bind (fun p5 => if x1 < 0 ∨ 128 ≤ (x1).toNatClampNeg then none else (some ((dI p5 222 (x1).toNatClampNeg), p5))))))
set_option maxHeartbeats 4000000 in
theorem w_X12_round {X : Cx} {n nu c u : Nat} {K : Nat → Nat} {N : Nat} {z : Int32 × Dat} (O : Ok X cX12_round RX12 (some .int) 4 90) (hm : wlm (xw X) = true) (hn : xn X = 2) (hz : Z0 X (Ax nu K c u)) (x1 : Int32) (D : Dat) (h : f_X12_round N x1 D = some z) : V X (Q0 X n (Ax nu K c u) (some (.int z.1)) z.2) n (Ax nu K c u) D 0 [(0, .ref (bo X + pp 207)), (1, .int x1)] [] := by
  unfold f_X12_round at h
  refine v_aload_n (pc := 0) O dX12_round_0 0 rfl ?_
  refine v_aload_n (pc := 1) O dX12_round_1 0 rfl ?_
  refine v_getK (pc := 2) (a := 207) O hm gf_X12_24 fl_X12_54 kq_207 lk_207_24 dX12_round_2 ?_
  refine v_iload_n (pc := 5) O dX12_round_5 1 rfl ?_
  obtain ⟨c1, h⟩ := or_none h
  refine v_iald (pc := 6) (a := 220) O kq_220 (inq lq_220 c1) dX12_round_6 ?_
  obtain ⟨p2, e3, h⟩ := bind_some h
  refine v_callV (pc := 7) (a := 207) (As := [.int (dI D 220 (x1).toNatClampNeg)]) (rest := []) (r := (some (.int p2.1))) (D' := p2.2) O (bb0 hz) (c_X12_worth hm e3) mw_X12_worth im_X12_worth se_X12_worth ml_X12_499 kq_207 (by decide) rfl rfl rfl (by decide) (by decide) (Nat.le_of_ble_eq_true rfl) dX12_round_7 rfl rfl ?_
  refine v_ifne (pc := 10) 20 O dX12_round_10 (by decide) (fun c4 => ?_) (fun c4 => ?_)
  · have h := (if_neg c4).symm.trans h
    refine v_aload_n (pc := 20) O dX12_round_20 0 rfl ?_
    refine v_iconst (pc := 21) O dX12_round_21 ic_4 ?_
    refine v_iload_n (pc := 22) O dX12_round_22 1 rfl ?_
    obtain ⟨p5, e6, h⟩ := bind_some h
    refine v_callV (pc := 23) (a := 207) (As := [.int 4, .int x1]) (rest := []) (r := none) (D' := p5) O (bb0 hz) (c_X12_push hm e6) mw_X12_push im_X12_push se_X12_push ml_X12_367 kq_207 (by decide) rfl rfl rfl (by decide) (by decide) (Nat.le_of_ble_eq_true rfl) dX12_round_23 rfl rfl ?_
    refine v_aload_n (pc := 26) O dX12_round_26 0 rfl ?_
    refine v_getK (pc := 27) (a := 207) O hm gf_X12_26 fl_X12_60 kq_207 lk_207_26 dX12_round_27 ?_
    refine v_iload_n (pc := 30) O dX12_round_30 1 rfl ?_
    obtain ⟨c7, h⟩ := or_none h
    refine v_iald (pc := 31) (a := 222) O kq_222 (inq lq_222 c7) dX12_round_31 ?_
    obtain rfl := Option.some.inj h
    exact v_iret (pc := 32) O hz dX12_round_32
  · have h := (if_pos c4).symm.trans h
    refine v_aload_n (pc := 13) O dX12_round_13 0 rfl ?_
    refine v_getK (pc := 14) (a := 207) O hm gf_X12_28 fl_X12_66 kq_207 lk_207_28 dX12_round_14 ?_
    refine v_iload_n (pc := 17) O dX12_round_17 1 rfl ?_
    obtain ⟨c8, h⟩ := or_none h
    refine v_iald (pc := 18) (a := 224) O kq_224 (inq lq_224 c8) dX12_round_18 ?_
    obtain rfl := Option.some.inj h
    exact v_iret (pc := 19) O hz dX12_round_19
theorem c_X12_round {l : Launch} {w : Wx} {n nu c u : Nat} {K : Nat → Nat} {N : Nat} (hm : wlm w = true) {x1 : Int32} {D : Dat} {z : Int32 × Dat} (h : f_X12_round N x1 D = some z) : C0 l w yX12_round cX12_round 2 (some .int) 4 90 [.ref (wb w + pp 207), .int x1] n (Ax nu K c u) D (some (.int z.1)) z.2 :=
  C0.of (by decide) (Nat.le_of_ble_eq_true rfl) (fun X e1 e2 e3 hz O => by
  subst e1
  subst e2
  exact w_X12_round O hm e3 hz x1 D h)
def f_X12_output_b21 (D : Dat) : Option (Int32 × Dat) :=
  (f_X12_fail 1 D).bind (fun p1 => some (p1.1, p1.2))
set_option maxHeartbeats 4000000 in
theorem w_X12_output_b21 {X : Cx} {n nu c u : Nat} {K : Nat → Nat} {z : Int32 × Dat} (O : Ok X cX12_output RX12 (some .int) 1 22) (hm : wlm (xw X) = true) (hn : xn X = 3) (hz : Z0 X (Ax nu K c u)) (D : Dat) (h : f_X12_output_b21 D = some z) : V X (Q0 X n (Ax nu K c u) (some (.int z.1)) z.2) n (Ax nu K c u) D 21 [(0, .ref (bo X + pp 207))] [] := by
  unfold f_X12_output_b21 at h
  refine v_aload_n (pc := 21) O dX12_output_21 0 rfl ?_
  refine v_iconst (pc := 22) O dX12_output_22 ic_1 ?_
  obtain ⟨p1, e2, h⟩ := bind_some h
  refine v_callV (pc := 23) (a := 207) (As := [.int 1]) (rest := []) (r := (some (.int p1.1))) (D' := p1.2) O (bb0 hz) (c_X12_fail hm e2) mw_X12_fail im_X12_fail se_X12_fail ml_X12_190 kq_207 (by decide) rfl rfl rfl (by decide) (by decide) (Nat.le_of_ble_eq_true rfl) dX12_output_23 rfl rfl ?_
  obtain rfl := Option.some.inj h
  exact v_iret (pc := 26) O hz dX12_output_26
def f_X12_output (x1 : Int32) (x2 : Int32) (D : Dat) : Option (Int32 × Dat) :=
  (f_X12_out x1 (dI (sI D 207 0 0) 207 1) (sI D 207 0 0)).bind (fun p3 => if p3.1 = 0 then (if 0 ≤ x2 then (if x1 < 0 ∨ 6 ≤ (x1).toNatClampNeg then none else (if x2 < (dI p3.2 258 (x1).toNatClampNeg) then (if (((20 : Int32) * x1) + x2) < 0 ∨ 120 ≤ ((((20 : Int32) * x1) + x2)).toNatClampNeg then none else (some ((dI p3.2 257 (((20 : Int32) * x1) + x2).toNatClampNeg), p3.2))) else ((f_X12_fail 2 p3.2).bind (fun p10 => some (p10.1, p10.2))))) else (f_X12_output_b21 p3.2)) else (f_X12_output_b21 p3.2))
set_option maxHeartbeats 4000000 in
theorem w_X12_output {X : Cx} {n nu c u : Nat} {K : Nat → Nat} {z : Int32 × Dat} (O : Ok X cX12_output RX12 (some .int) 1 22) (hm : wlm (xw X) = true) (hn : xn X = 3) (hz : Z0 X (Ax nu K c u)) (x1 : Int32) (x2 : Int32) (D : Dat) (h : f_X12_output x1 x2 D = some z) : V X (Q0 X n (Ax nu K c u) (some (.int z.1)) z.2) n (Ax nu K c u) D 0 [(0, .ref (bo X + pp 207)), (1, .int x1), (2, .int x2)] [] := by
  unfold f_X12_output at h
  refine v_aload_n (pc := 0) O dX12_output_0 0 rfl ?_
  refine v_iconst (pc := 1) O dX12_output_1 ic_0 ?_
  refine v_putI (pc := 2) (a := 207) O pf_X12_0 fl_X12_183 kq_207 dX12_output_2 ?_
  refine v_aload_n (pc := 5) O dX12_output_5 0 rfl ?_
  refine v_iload_n (pc := 6) O dX12_output_6 1 rfl ?_
  refine v_aload_n (pc := 7) O dX12_output_7 0 rfl ?_
  refine v_getI (pc := 8) (a := 207) O gf_X12_1 fl_X12_180 kq_207 dX12_output_8 ?_
  obtain ⟨p3, e4, h⟩ := bind_some h
  refine v_callV (pc := 11) (a := 207) (As := [.int x1, .int (dI (sI D 207 0 0) 207 1)]) (rest := []) (r := (some (.int p3.1))) (D' := p3.2) O (bb0 hz) (c_X12_out hm e4) mw_X12_out im_X12_out se_X12_out ml_X12_186 kq_207 (by decide) rfl rfl rfl (by decide) (by decide) (Nat.le_of_ble_eq_true rfl) dX12_output_11 rfl rfl ?_
  refine v_ifne (pc := 14) 21 O dX12_output_14 (by decide) (fun c5 => ?_) (fun c5 => ?_)
  · have h := (if_neg c5).symm.trans h
    refine v_sub [0] rfl ?_
    exact w_X12_output_b21 O hm hn hz p3.2 h
  · have h := (if_pos c5).symm.trans h
    refine v_iload_n (pc := 17) O dX12_output_17 2 rfl ?_
    refine v_ifge (pc := 18) 27 O dX12_output_18 (by decide) (fun c6 => ?_) (fun c6 => ?_)
    · have h := (if_pos c6).symm.trans h
      refine v_iload_n (pc := 27) O dX12_output_27 2 rfl ?_
      refine v_aload_n (pc := 28) O dX12_output_28 0 rfl ?_
      refine v_getK (pc := 29) (a := 207) O hm gf_X12_78 fl_X12_168 kq_207 lk_207_78 dX12_output_29 ?_
      refine v_iload_n (pc := 32) O dX12_output_32 1 rfl ?_
      obtain ⟨c7, h⟩ := or_none h
      refine v_iald (pc := 33) (a := 258) O kq_258 (inq lq_258 c7) dX12_output_33 ?_
      refine v_icmplt (pc := 34) 43 O dX12_output_34 (by decide) (fun c8 => ?_) (fun c8 => ?_)
      · have h := (if_pos c8).symm.trans h
        refine v_aload_n (pc := 43) O dX12_output_43 0 rfl ?_
        refine v_getK (pc := 44) (a := 207) O hm gf_X12_77 fl_X12_165 kq_207 lk_207_77 dX12_output_44 ?_
        refine v_bipush (pc := 47) O dX12_output_47 bp_20 ?_
        refine v_iload_n (pc := 49) O dX12_output_49 1 rfl ?_
        refine v_imul (pc := 50) O dX12_output_50 ?_
        refine v_iload_n (pc := 51) O dX12_output_51 2 rfl ?_
        refine v_iadd (pc := 52) O dX12_output_52 ?_
        obtain ⟨c9, h⟩ := or_none h
        refine v_iald (pc := 53) (a := 257) O kq_257 (inq lq_257 c9) dX12_output_53 ?_
        obtain rfl := Option.some.inj h
        exact v_iret (pc := 54) O hz dX12_output_54
      · have h := (if_neg c8).symm.trans h
        refine v_aload_n (pc := 37) O dX12_output_37 0 rfl ?_
        refine v_iconst (pc := 38) O dX12_output_38 ic_2 ?_
        obtain ⟨p10, e11, h⟩ := bind_some h
        refine v_callV (pc := 39) (a := 207) (As := [.int 2]) (rest := []) (r := (some (.int p10.1))) (D' := p10.2) O (bb0 hz) (c_X12_fail hm e11) mw_X12_fail im_X12_fail se_X12_fail ml_X12_190 kq_207 (by decide) rfl rfl rfl (by decide) (by decide) (Nat.le_of_ble_eq_true rfl) dX12_output_39 rfl rfl ?_
        obtain rfl := Option.some.inj h
        exact v_iret (pc := 42) O hz dX12_output_42
    · have h := (if_neg c6).symm.trans h
      refine v_sub [0] rfl ?_
      exact w_X12_output_b21 O hm hn hz p3.2 h
theorem c_X12_output {l : Launch} {w : Wx} {n nu c u : Nat} {K : Nat → Nat} (hm : wlm w = true) {x1 : Int32} {x2 : Int32} {D : Dat} {z : Int32 × Dat} (h : f_X12_output x1 x2 D = some z) : C0 l w yX12_output cX12_output 3 (some .int) 1 22 [.ref (wb w + pp 207), .int x1, .int x2] n (Ax nu K c u) D (some (.int z.1)) z.2 :=
  C0.of (by decide) (Nat.le_of_ble_eq_true rfl) (fun X e1 e2 e3 hz O => by
  subst e1
  subst e2
  exact w_X12_output O hm e3 hz x1 x2 D h)
def f_X12_value_b46 (s0 : Int32) (D : Dat) : Option (Int32 × Dat) :=
  some (s0, D)
set_option maxHeartbeats 4000000 in
theorem w_X12_value_b46 {X : Cx} {n nu c u : Nat} {K : Nat → Nat} {z : Int32 × Dat} (O : Ok X cX12_value RX12 (some .int) 1 22) (hm : wlm (xw X) = true) (hn : xn X = 2) (hz : Z0 X (Ax nu K c u)) (s0 : Int32) (D : Dat) (h : f_X12_value_b46 s0 D = some z) : V X (Q0 X n (Ax nu K c u) (some (.int z.1)) z.2) n (Ax nu K c u) D 46 [] [.int s0] := by
  unfold f_X12_value_b46 at h
  obtain rfl := Option.some.inj h
  exact v_iret (pc := 46) O hz dX12_value_46
def f_X12_value (x1 : Int32) (D : Dat) : Option (Int32 × Dat) :=
  (f_X12_out x1 234 (sI D 207 0 0)).bind (fun p1 => if p1.1 = 0 then (if 26 ≤ x1 then (if (x1 - (26 : Int32)) < 0 ∨ 208 ≤ ((x1 - (26 : Int32))).toNatClampNeg then none else (f_X12_value_b46 (dI p1.2 260 (x1 - (26 : Int32)).toNatClampNeg) p1.2)) else (if x1 < 0 ∨ 26 ≤ (x1).toNatClampNeg then none else (f_X12_value_b46 (dI p1.2 259 (x1).toNatClampNeg) p1.2))) else ((f_X12_fail 1 p1.2).bind (fun p7 => some (p7.1, p7.2))))
set_option maxHeartbeats 4000000 in
theorem w_X12_value {X : Cx} {n nu c u : Nat} {K : Nat → Nat} {z : Int32 × Dat} (O : Ok X cX12_value RX12 (some .int) 1 22) (hm : wlm (xw X) = true) (hn : xn X = 2) (hz : Z0 X (Ax nu K c u)) (x1 : Int32) (D : Dat) (h : f_X12_value x1 D = some z) : V X (Q0 X n (Ax nu K c u) (some (.int z.1)) z.2) n (Ax nu K c u) D 0 [(0, .ref (bo X + pp 207)), (1, .int x1)] [] := by
  unfold f_X12_value at h
  refine v_aload_n (pc := 0) O dX12_value_0 0 rfl ?_
  refine v_iconst (pc := 1) O dX12_value_1 ic_0 ?_
  refine v_putI (pc := 2) (a := 207) O pf_X12_0 fl_X12_183 kq_207 dX12_value_2 ?_
  refine v_aload_n (pc := 5) O dX12_value_5 0 rfl ?_
  refine v_iload_n (pc := 6) O dX12_value_6 1 rfl ?_
  refine v_sipush (pc := 7) O dX12_value_7 sp_234 ?_
  obtain ⟨p1, e2, h⟩ := bind_some h
  refine v_callV (pc := 10) (a := 207) (As := [.int x1, .int 234]) (rest := []) (r := (some (.int p1.1))) (D' := p1.2) O (bb0 hz) (c_X12_out hm e2) mw_X12_out im_X12_out se_X12_out ml_X12_186 kq_207 (by decide) rfl rfl rfl (by decide) (by decide) (Nat.le_of_ble_eq_true rfl) dX12_value_10 rfl rfl ?_
  refine v_ifeq (pc := 13) 22 O dX12_value_13 (by decide) (fun c3 => ?_) (fun c3 => ?_)
  · have h := (if_pos c3).symm.trans h
    refine v_iload_n (pc := 22) O dX12_value_22 1 rfl ?_
    refine v_bipush (pc := 23) O dX12_value_23 bp_26 ?_
    refine v_icmpge (pc := 25) 37 O dX12_value_25 (by decide) (fun c4 => ?_) (fun c4 => ?_)
    · have h := (if_pos c4).symm.trans h
      refine v_aload_n (pc := 37) O dX12_value_37 0 rfl ?_
      refine v_getK (pc := 38) (a := 207) O hm gf_X12_80 fl_X12_174 kq_207 lk_207_80 dX12_value_38 ?_
      refine v_iload_n (pc := 41) O dX12_value_41 1 rfl ?_
      refine v_bipush (pc := 42) O dX12_value_42 bp_26 ?_
      refine v_isub (pc := 44) O dX12_value_44 ?_
      obtain ⟨c5, h⟩ := or_none h
      refine v_iald (pc := 45) (a := 260) O kq_260 (inq lq_260 c5) dX12_value_45 ?_
      refine v_sub [] rfl ?_
      exact w_X12_value_b46 O hm hn hz (dI p1.2 260 (x1 - (26 : Int32)).toNatClampNeg) p1.2 h
    · have h := (if_neg c4).symm.trans h
      refine v_aload_n (pc := 28) O dX12_value_28 0 rfl ?_
      refine v_getK (pc := 29) (a := 207) O hm gf_X12_79 fl_X12_171 kq_207 lk_207_79 dX12_value_29 ?_
      refine v_iload_n (pc := 32) O dX12_value_32 1 rfl ?_
      obtain ⟨c6, h⟩ := or_none h
      refine v_iald (pc := 33) (a := 259) O kq_259 (inq lq_259 c6) dX12_value_33 ?_
      refine v_goto (pc := 34) 46 O dX12_value_34 (by decide) ?_
      refine v_sub [] rfl ?_
      exact w_X12_value_b46 O hm hn hz (dI p1.2 259 (x1).toNatClampNeg) p1.2 h
  · have h := (if_neg c3).symm.trans h
    refine v_aload_n (pc := 16) O dX12_value_16 0 rfl ?_
    refine v_iconst (pc := 17) O dX12_value_17 ic_1 ?_
    obtain ⟨p7, e8, h⟩ := bind_some h
    refine v_callV (pc := 18) (a := 207) (As := [.int 1]) (rest := []) (r := (some (.int p7.1))) (D' := p7.2) O (bb0 hz) (c_X12_fail hm e8) mw_X12_fail im_X12_fail se_X12_fail ml_X12_190 kq_207 (by decide) rfl rfl rfl (by decide) (by decide) (Nat.le_of_ble_eq_true rfl) dX12_value_18 rfl rfl ?_
    obtain rfl := Option.some.inj h
    exact v_iret (pc := 21) O hz dX12_value_21
theorem c_X12_value {l : Launch} {w : Wx} {n nu c u : Nat} {K : Nat → Nat} (hm : wlm w = true) {x1 : Int32} {D : Dat} {z : Int32 × Dat} (h : f_X12_value x1 D = some z) : C0 l w yX12_value cX12_value 2 (some .int) 1 22 [.ref (wb w + pp 207), .int x1] n (Ax nu K c u) D (some (.int z.1)) z.2 :=
  C0.of (by decide) (Nat.le_of_ble_eq_true rfl) (fun X e1 e2 e3 hz O => by
  subst e1
  subst e2
  exact w_X12_value O hm e3 hz x1 D h)
def f_X12_instruction_b42 (s0 : Int32) (D : Dat) : Option (Int32 × Dat) :=
  some (s0, D)
set_option maxHeartbeats 4000000 in
theorem w_X12_instruction_b42 {X : Cx} {n nu c u : Nat} {K : Nat → Nat} {z : Int32 × Dat} (O : Ok X cX12_instruction RX12 (some .int) 1 22) (hm : wlm (xw X) = true) (hn : xn X = 3) (hz : Z0 X (Ax nu K c u)) (s0 : Int32) (D : Dat) (h : f_X12_instruction_b42 s0 D = some z) : V X (Q0 X n (Ax nu K c u) (some (.int z.1)) z.2) n (Ax nu K c u) D 42 [] [.int s0] := by
  unfold f_X12_instruction_b42 at h
  obtain rfl := Option.some.inj h
  exact v_iret (pc := 42) O hz dX12_instruction_42
def f_X12_instruction (x1 : Int32) (x2 : Int32) (D : Dat) : Option (Int32 × Dat) :=
  (f_X12_out x1 (dI (sI D 207 0 0) 207 13) (sI D 207 0 0)).bind (fun p1 => if p1.1 = 0 then (if x2 = 0 then (if x1 < 0 ∨ 64 ≤ (x1).toNatClampNeg then none else (f_X12_instruction_b42 (dI p1.2 212 (x1).toNatClampNeg) p1.2)) else (if x1 < 0 ∨ 64 ≤ (x1).toNatClampNeg then none else (f_X12_instruction_b42 (dI p1.2 213 (x1).toNatClampNeg) p1.2))) else ((f_X12_fail 1 p1.2).bind (fun p7 => some (p7.1, p7.2))))
set_option maxHeartbeats 4000000 in
theorem w_X12_instruction {X : Cx} {n nu c u : Nat} {K : Nat → Nat} {z : Int32 × Dat} (O : Ok X cX12_instruction RX12 (some .int) 1 22) (hm : wlm (xw X) = true) (hn : xn X = 3) (hz : Z0 X (Ax nu K c u)) (x1 : Int32) (x2 : Int32) (D : Dat) (h : f_X12_instruction x1 x2 D = some z) : V X (Q0 X n (Ax nu K c u) (some (.int z.1)) z.2) n (Ax nu K c u) D 0 [(0, .ref (bo X + pp 207)), (1, .int x1), (2, .int x2)] [] := by
  unfold f_X12_instruction at h
  refine v_aload_n (pc := 0) O dX12_instruction_0 0 rfl ?_
  refine v_iconst (pc := 1) O dX12_instruction_1 ic_0 ?_
  refine v_putI (pc := 2) (a := 207) O pf_X12_0 fl_X12_183 kq_207 dX12_instruction_2 ?_
  refine v_aload_n (pc := 5) O dX12_instruction_5 0 rfl ?_
  refine v_iload_n (pc := 6) O dX12_instruction_6 1 rfl ?_
  refine v_aload_n (pc := 7) O dX12_instruction_7 0 rfl ?_
  refine v_getI (pc := 8) (a := 207) O gf_X12_13 fl_X12_406 kq_207 dX12_instruction_8 ?_
  obtain ⟨p1, e2, h⟩ := bind_some h
  refine v_callV (pc := 11) (a := 207) (As := [.int x1, .int (dI (sI D 207 0 0) 207 13)]) (rest := []) (r := (some (.int p1.1))) (D' := p1.2) O (bb0 hz) (c_X12_out hm e2) mw_X12_out im_X12_out se_X12_out ml_X12_186 kq_207 (by decide) rfl rfl rfl (by decide) (by decide) (Nat.le_of_ble_eq_true rfl) dX12_instruction_11 rfl rfl ?_
  refine v_ifeq (pc := 14) 23 O dX12_instruction_14 (by decide) (fun c3 => ?_) (fun c3 => ?_)
  · have h := (if_pos c3).symm.trans h
    refine v_iload_n (pc := 23) O dX12_instruction_23 2 rfl ?_
    refine v_ifeq (pc := 24) 36 O dX12_instruction_24 (by decide) (fun c4 => ?_) (fun c4 => ?_)
    · have h := (if_pos c4).symm.trans h
      refine v_aload_n (pc := 36) O dX12_instruction_36 0 rfl ?_
      refine v_getK (pc := 37) (a := 207) O hm gf_X12_11 fl_X12_30 kq_207 lk_207_11 dX12_instruction_37 ?_
      refine v_iload_n (pc := 40) O dX12_instruction_40 1 rfl ?_
      obtain ⟨c5, h⟩ := or_none h
      refine v_iald (pc := 41) (a := 212) O kq_212 (inq lq_212 c5) dX12_instruction_41 ?_
      refine v_sub [] rfl ?_
      exact w_X12_instruction_b42 O hm hn hz (dI p1.2 212 (x1).toNatClampNeg) p1.2 h
    · have h := (if_neg c4).symm.trans h
      refine v_aload_n (pc := 27) O dX12_instruction_27 0 rfl ?_
      refine v_getK (pc := 28) (a := 207) O hm gf_X12_12 fl_X12_33 kq_207 lk_207_12 dX12_instruction_28 ?_
      refine v_iload_n (pc := 31) O dX12_instruction_31 1 rfl ?_
      obtain ⟨c6, h⟩ := or_none h
      refine v_iald (pc := 32) (a := 213) O kq_213 (inq lq_213 c6) dX12_instruction_32 ?_
      refine v_goto (pc := 33) 42 O dX12_instruction_33 (by decide) ?_
      refine v_sub [] rfl ?_
      exact w_X12_instruction_b42 O hm hn hz (dI p1.2 213 (x1).toNatClampNeg) p1.2 h
  · have h := (if_neg c3).symm.trans h
    refine v_aload_n (pc := 17) O dX12_instruction_17 0 rfl ?_
    refine v_iconst (pc := 18) O dX12_instruction_18 ic_1 ?_
    obtain ⟨p7, e8, h⟩ := bind_some h
    refine v_callV (pc := 19) (a := 207) (As := [.int 1]) (rest := []) (r := (some (.int p7.1))) (D' := p7.2) O (bb0 hz) (c_X12_fail hm e8) mw_X12_fail im_X12_fail se_X12_fail ml_X12_190 kq_207 (by decide) rfl rfl rfl (by decide) (by decide) (Nat.le_of_ble_eq_true rfl) dX12_instruction_19 rfl rfl ?_
    obtain rfl := Option.some.inj h
    exact v_iret (pc := 22) O hz dX12_instruction_22
theorem c_X12_instruction {l : Launch} {w : Wx} {n nu c u : Nat} {K : Nat → Nat} (hm : wlm w = true) {x1 : Int32} {x2 : Int32} {D : Dat} {z : Int32 × Dat} (h : f_X12_instruction x1 x2 D = some z) : C0 l w yX12_instruction cX12_instruction 3 (some .int) 1 22 [.ref (wb w + pp 207), .int x1, .int x2] n (Ax nu K c u) D (some (.int z.1)) z.2 :=
  C0.of (by decide) (Nat.le_of_ble_eq_true rfl) (fun X e1 e2 e3 hz O => by
  subst e1
  subst e2
  exact w_X12_instruction O hm e3 hz x1 x2 D h)
def f_X12_count_b73 (s0 : Int32) (D : Dat) : Option (Int32 × Dat) :=
  some (s0, D)
set_option maxHeartbeats 4000000 in
theorem w_X12_count_b73 {X : Cx} {n nu c u : Nat} {K : Nat → Nat} {z : Int32 × Dat} (O : Ok X cX12_count RX12 (some .int) 1 21) (hm : wlm (xw X) = true) (hn : xn X = 2) (hz : Z0 X (Ax nu K c u)) (s0 : Int32) (D : Dat) (h : f_X12_count_b73 s0 D = some z) : V X (Q0 X n (Ax nu K c u) (some (.int z.1)) z.2) n (Ax nu K c u) D 73 [] [.int s0] := by
  unfold f_X12_count_b73 at h
  obtain rfl := Option.some.inj h
  exact v_iret (pc := 73) O hz dX12_count_73
def f_X12_count_b96 (s0 : Int32) (D : Dat) : Option (Int32 × Dat) :=
  some (s0, D)
set_option maxHeartbeats 4000000 in
theorem w_X12_count_b96 {X : Cx} {n nu c u : Nat} {K : Nat → Nat} {z : Int32 × Dat} (O : Ok X cX12_count RX12 (some .int) 1 21) (hm : wlm (xw X) = true) (hn : xn X = 2) (hz : Z0 X (Ax nu K c u)) (s0 : Int32) (D : Dat) (h : f_X12_count_b96 s0 D = some z) : V X (Q0 X n (Ax nu K c u) (some (.int z.1)) z.2) n (Ax nu K c u) D 96 [] [.int s0] := by
  unfold f_X12_count_b96 at h
  obtain rfl := Option.some.inj h
  exact v_iret (pc := 96) O hz dX12_count_96
def f_X12_count_b109 (s0 : Int32) (D : Dat) : Option (Int32 × Dat) :=
  some (s0, D)
set_option maxHeartbeats 4000000 in
theorem w_X12_count_b109 {X : Cx} {n nu c u : Nat} {K : Nat → Nat} {z : Int32 × Dat} (O : Ok X cX12_count RX12 (some .int) 1 21) (hm : wlm (xw X) = true) (hn : xn X = 2) (hz : Z0 X (Ax nu K c u)) (s0 : Int32) (D : Dat) (h : f_X12_count_b109 s0 D = some z) : V X (Q0 X n (Ax nu K c u) (some (.int z.1)) z.2) n (Ax nu K c u) D 109 [] [.int s0] := by
  unfold f_X12_count_b109 at h
  obtain rfl := Option.some.inj h
  exact v_iret (pc := 109) O hz dX12_count_109
def f_X12_count (x1 : Int32) (D : Dat) : Option (Int32 × Dat) :=
  (if x1 = (0 : Int32) then (some ((dI (sI D 207 0 0) 207 1), (sI D 207 0 0))) else (if x1 = (1 : Int32) then (if (dI (sI D 207 0 0) 207 5) = 0 then (f_X12_count_b73 0 (sI D 207 0 0)) else (f_X12_count_b73 1 (sI D 207 0 0))) else (if x1 = (2 : Int32) then (some ((dI (sI D 207 0 0) 207 10), (sI D 207 0 0))) else (if x1 = (3 : Int32) then (some ((dI (sI D 207 0 0) 207 13), (sI D 207 0 0))) else (if x1 = (4 : Int32) then (if (dI (sI D 207 0 0) 207 16) = 0 then (f_X12_count_b96 0 (sI D 207 0 0)) else (f_X12_count_b96 1 (sI D 207 0 0))) else (if x1 = (5 : Int32) then (if (dI (sI D 207 0 0) 207 18) = 0 then (f_X12_count_b109 0 (sI D 207 0 0)) else (f_X12_count_b109 1 (sI D 207 0 0))) else (if x1 = (6 : Int32) then (some ((dI (sI D 207 0 0) 207 83), (sI D 207 0 0))) else (if x1 = (7 : Int32) then (some ((dI (sI D 207 0 0) 207 7), (sI D 207 0 0))) else (if x1 = (8 : Int32) then (some ((dI (sI D 207 0 0) 207 8), (sI D 207 0 0))) else ((f_X12_fail 1 (sI D 207 0 0)).bind (fun p13 => some (p13.1, p13.2))))))))))))
set_option maxHeartbeats 4000000 in
theorem w_X12_count {X : Cx} {n nu c u : Nat} {K : Nat → Nat} {z : Int32 × Dat} (O : Ok X cX12_count RX12 (some .int) 1 21) (hm : wlm (xw X) = true) (hn : xn X = 2) (hz : Z0 X (Ax nu K c u)) (x1 : Int32) (D : Dat) (h : f_X12_count x1 D = some z) : V X (Q0 X n (Ax nu K c u) (some (.int z.1)) z.2) n (Ax nu K c u) D 0 [(0, .ref (bo X + pp 207)), (1, .int x1)] [] := by
  unfold f_X12_count at h
  refine v_aload_n (pc := 0) O dX12_count_0 0 rfl ?_
  refine v_iconst (pc := 1) O dX12_count_1 ic_0 ?_
  refine v_putI (pc := 2) (a := 207) O pf_X12_0 fl_X12_183 kq_207 dX12_count_2 ?_
  refine v_iload_n (pc := 5) O dX12_count_5 1 rfl ?_
  by_cases c1 : x1 = (0 : Int32)
  · have h := (if_pos c1).symm.trans h
    refine v_tableIn (pc := 6) 56 O dX12_count_6 (by rw [c1]; decide) (by rw [c1]; decide) (by rw [c1]; rfl) (by decide) ?_
    refine v_aload_n (pc := 56) O dX12_count_56 0 rfl ?_
    refine v_getI (pc := 57) (a := 207) O gf_X12_1 fl_X12_180 kq_207 dX12_count_57 ?_
    obtain rfl := Option.some.inj h
    exact v_iret (pc := 60) O hz dX12_count_60
  · have h := (if_neg c1).symm.trans h
    by_cases c2 : x1 = (1 : Int32)
    · have h := (if_pos c2).symm.trans h
      refine v_tableIn (pc := 6) 61 O dX12_count_6 (by rw [c2]; decide) (by rw [c2]; decide) (by rw [c2]; rfl) (by decide) ?_
      refine v_aload_n (pc := 61) O dX12_count_61 0 rfl ?_
      refine v_getI (pc := 62) (a := 207) O gf_X12_5 fl_X12_194 kq_207 dX12_count_62 ?_
      refine v_ifeq (pc := 65) 72 O dX12_count_65 (by decide) (fun c3 => ?_) (fun c3 => ?_)
      · have h := (if_pos c3).symm.trans h
        refine v_iconst (pc := 72) O dX12_count_72 ic_0 ?_
        refine v_sub [] rfl ?_
        exact w_X12_count_b73 O hm hn hz 0 (sI D 207 0 0) h
      · have h := (if_neg c3).symm.trans h
        refine v_iconst (pc := 68) O dX12_count_68 ic_1 ?_
        refine v_goto (pc := 69) 73 O dX12_count_69 (by decide) ?_
        refine v_sub [] rfl ?_
        exact w_X12_count_b73 O hm hn hz 1 (sI D 207 0 0) h
    · have h := (if_neg c2).symm.trans h
      by_cases c4 : x1 = (2 : Int32)
      · have h := (if_pos c4).symm.trans h
        refine v_tableIn (pc := 6) 74 O dX12_count_6 (by rw [c4]; decide) (by rw [c4]; decide) (by rw [c4]; rfl) (by decide) ?_
        refine v_aload_n (pc := 74) O dX12_count_74 0 rfl ?_
        refine v_getI (pc := 75) (a := 207) O gf_X12_10 fl_X12_219 kq_207 dX12_count_75 ?_
        obtain rfl := Option.some.inj h
        exact v_iret (pc := 78) O hz dX12_count_78
      · have h := (if_neg c4).symm.trans h
        by_cases c5 : x1 = (3 : Int32)
        · have h := (if_pos c5).symm.trans h
          refine v_tableIn (pc := 6) 79 O dX12_count_6 (by rw [c5]; decide) (by rw [c5]; decide) (by rw [c5]; rfl) (by decide) ?_
          refine v_aload_n (pc := 79) O dX12_count_79 0 rfl ?_
          refine v_getI (pc := 80) (a := 207) O gf_X12_13 fl_X12_406 kq_207 dX12_count_80 ?_
          obtain rfl := Option.some.inj h
          exact v_iret (pc := 83) O hz dX12_count_83
        · have h := (if_neg c5).symm.trans h
          by_cases c6 : x1 = (4 : Int32)
          · have h := (if_pos c6).symm.trans h
            refine v_tableIn (pc := 6) 84 O dX12_count_6 (by rw [c6]; decide) (by rw [c6]; decide) (by rw [c6]; rfl) (by decide) ?_
            refine v_aload_n (pc := 84) O dX12_count_84 0 rfl ?_
            refine v_getI (pc := 85) (a := 207) O gf_X12_16 fl_X12_409 kq_207 dX12_count_85 ?_
            refine v_ifeq (pc := 88) 95 O dX12_count_88 (by decide) (fun c7 => ?_) (fun c7 => ?_)
            · have h := (if_pos c7).symm.trans h
              refine v_iconst (pc := 95) O dX12_count_95 ic_0 ?_
              refine v_sub [] rfl ?_
              exact w_X12_count_b96 O hm hn hz 0 (sI D 207 0 0) h
            · have h := (if_neg c7).symm.trans h
              refine v_iconst (pc := 91) O dX12_count_91 ic_1 ?_
              refine v_goto (pc := 92) 96 O dX12_count_92 (by decide) ?_
              refine v_sub [] rfl ?_
              exact w_X12_count_b96 O hm hn hz 1 (sI D 207 0 0) h
          · have h := (if_neg c6).symm.trans h
            by_cases c8 : x1 = (5 : Int32)
            · have h := (if_pos c8).symm.trans h
              refine v_tableIn (pc := 6) 97 O dX12_count_6 (by rw [c8]; decide) (by rw [c8]; decide) (by rw [c8]; rfl) (by decide) ?_
              refine v_aload_n (pc := 97) O dX12_count_97 0 rfl ?_
              refine v_getI (pc := 98) (a := 207) O gf_X12_18 fl_X12_332 kq_207 dX12_count_98 ?_
              refine v_ifeq (pc := 101) 108 O dX12_count_101 (by decide) (fun c9 => ?_) (fun c9 => ?_)
              · have h := (if_pos c9).symm.trans h
                refine v_iconst (pc := 108) O dX12_count_108 ic_0 ?_
                refine v_sub [] rfl ?_
                exact w_X12_count_b109 O hm hn hz 0 (sI D 207 0 0) h
              · have h := (if_neg c9).symm.trans h
                refine v_iconst (pc := 104) O dX12_count_104 ic_1 ?_
                refine v_goto (pc := 105) 109 O dX12_count_105 (by decide) ?_
                refine v_sub [] rfl ?_
                exact w_X12_count_b109 O hm hn hz 1 (sI D 207 0 0) h
            · have h := (if_neg c8).symm.trans h
              by_cases c10 : x1 = (6 : Int32)
              · have h := (if_pos c10).symm.trans h
                refine v_tableIn (pc := 6) 110 O dX12_count_6 (by rw [c10]; decide) (by rw [c10]; decide) (by rw [c10]; rfl) (by decide) ?_
                refine v_aload_n (pc := 110) O dX12_count_110 0 rfl ?_
                refine v_getI (pc := 111) (a := 207) O gf_X12_83 fl_X12_472 kq_207 dX12_count_111 ?_
                obtain rfl := Option.some.inj h
                exact v_iret (pc := 114) O hz dX12_count_114
              · have h := (if_neg c10).symm.trans h
                by_cases c11 : x1 = (7 : Int32)
                · have h := (if_pos c11).symm.trans h
                  refine v_tableIn (pc := 6) 115 O dX12_count_6 (by rw [c11]; decide) (by rw [c11]; decide) (by rw [c11]; rfl) (by decide) ?_
                  refine v_aload_n (pc := 115) O dX12_count_115 0 rfl ?_
                  refine v_getI (pc := 116) (a := 207) O gf_X12_7 fl_X12_20 kq_207 dX12_count_116 ?_
                  obtain rfl := Option.some.inj h
                  exact v_iret (pc := 119) O hz dX12_count_119
                · have h := (if_neg c11).symm.trans h
                  by_cases c12 : x1 = (8 : Int32)
                  · have h := (if_pos c12).symm.trans h
                    refine v_tableIn (pc := 6) 120 O dX12_count_6 (by rw [c12]; decide) (by rw [c12]; decide) (by rw [c12]; rfl) (by decide) ?_
                    refine v_aload_n (pc := 120) O dX12_count_120 0 rfl ?_
                    refine v_getI (pc := 121) (a := 207) O gf_X12_8 fl_X12_24 kq_207 dX12_count_121 ?_
                    obtain rfl := Option.some.inj h
                    exact v_iret (pc := 124) O hz dX12_count_124
                  · have h := (if_neg c12).symm.trans h
                    refine v_tableOut (pc := 6) 125 O dX12_count_6 (by have c1i := ne_i (0) rfl c1; have c2i := ne_i (1) rfl c2; have c4i := ne_i (2) rfl c4; have c5i := ne_i (3) rfl c5; have c6i := ne_i (4) rfl c6; have c8i := ne_i (5) rfl c8; have c10i := ne_i (6) rfl c10; have c11i := ne_i (7) rfl c11; have c12i := ne_i (8) rfl c12; omega) (by decide) ?_
                    refine v_aload_n (pc := 125) O dX12_count_125 0 rfl ?_
                    refine v_iconst (pc := 126) O dX12_count_126 ic_1 ?_
                    obtain ⟨p13, e14, h⟩ := bind_some h
                    refine v_callV (pc := 127) (a := 207) (As := [.int 1]) (rest := []) (r := (some (.int p13.1))) (D' := p13.2) O (bb0 hz) (c_X12_fail hm e14) mw_X12_fail im_X12_fail se_X12_fail ml_X12_190 kq_207 (by decide) rfl rfl rfl (by decide) (by decide) (Nat.le_of_ble_eq_true rfl) dX12_count_127 rfl rfl ?_
                    obtain rfl := Option.some.inj h
                    exact v_iret (pc := 130) O hz dX12_count_130
theorem c_X12_count {l : Launch} {w : Wx} {n nu c u : Nat} {K : Nat → Nat} (hm : wlm w = true) {x1 : Int32} {D : Dat} {z : Int32 × Dat} (h : f_X12_count x1 D = some z) : C0 l w yX12_count cX12_count 2 (some .int) 1 21 [.ref (wb w + pp 207), .int x1] n (Ax nu K c u) D (some (.int z.1)) z.2 :=
  C0.of (by decide) (Nat.le_of_ble_eq_true rfl) (fun X e1 e2 e3 hz O => by
  subst e1
  subst e2
  exact w_X12_count O hm e3 hz x1 D h)
def f_X2_size (D : Dat) : Option (Int32 × Dat) :=
  some ((dI D 1 0), D)
set_option maxHeartbeats 4000000 in
theorem w_X2_size {X : Cx} {n nu c u : Nat} {K : Nat → Nat} {z : Int32 × Dat} (O : Ok X cX2_size RX2 (some .int) 0 0) (hm : wlm (xw X) = true) (hn : xn X = 1) (hz : Z0 X (Ax nu K c u)) (D : Dat) (h : f_X2_size D = some z) : V X (Q0 X n (Ax nu K c u) (some (.int z.1)) z.2) n (Ax nu K c u) D 0 [(0, .ref (bo X + pp 1))] [] := by
  unfold f_X2_size at h
  refine v_aload_n (pc := 0) O dX2_size_0 0 rfl ?_
  refine v_getI (pc := 1) (a := 1) O gf_X2_0 fl_X2_9 kq_1 dX2_size_1 ?_
  obtain rfl := Option.some.inj h
  exact v_iret (pc := 4) O hz dX2_size_4
theorem c_X2_size {l : Launch} {w : Wx} {n nu c u : Nat} {K : Nat → Nat} (hm : wlm w = true) {D : Dat} {z : Int32 × Dat} (h : f_X2_size D = some z) : C0 l w yX2_size cX2_size 1 (some .int) 0 0 [.ref (wb w + pp 1)] n (Ax nu K c u) D (some (.int z.1)) z.2 :=
  C0.of (by decide) (Nat.le_of_ble_eq_true rfl) (fun X e1 e2 e3 hz O => by
  subst e1
  subst e2
  exact w_X2_size O hm e3 hz  D h)
def f_X2_has_b17 (s0 : Int32) (D : Dat) : Option (Int32 × Dat) :=
  if s0 &&& 1 = s0 then some (s0, D) else none
set_option maxHeartbeats 4000000 in
theorem w_X2_has_b17 {X : Cx} {n nu c u : Nat} {K : Nat → Nat} {z : Int32 × Dat} (O : Ok X cX2_has RX2 (some .boolean) 0 0) (hm : wlm (xw X) = true) (hn : xn X = 2) (hz : Z0 X (Ax nu K c u)) (s0 : Int32) (D : Dat) (h : f_X2_has_b17 s0 D = some z) : V X (Q0 X n (Ax nu K c u) (some (.int z.1)) z.2) n (Ax nu K c u) D 17 [] [.int s0] := by
  unfold f_X2_has_b17 at h
  obtain ⟨c1, h⟩ := if_none h
  obtain rfl := Option.some.inj h
  exact v_zret (pc := 17) O hz (congrArg Value.int c1) dX2_has_17
def f_X2_has_b16 (D : Dat) : Option (Int32 × Dat) :=
  f_X2_has_b17 0 D
set_option maxHeartbeats 4000000 in
theorem w_X2_has_b16 {X : Cx} {n nu c u : Nat} {K : Nat → Nat} {z : Int32 × Dat} (O : Ok X cX2_has RX2 (some .boolean) 0 0) (hm : wlm (xw X) = true) (hn : xn X = 2) (hz : Z0 X (Ax nu K c u)) (D : Dat) (h : f_X2_has_b16 D = some z) : V X (Q0 X n (Ax nu K c u) (some (.int z.1)) z.2) n (Ax nu K c u) D 16 [] [] := by
  unfold f_X2_has_b16 at h
  refine v_iconst (pc := 16) O dX2_has_16 ic_0 ?_
  refine v_sub [] rfl ?_
  exact w_X2_has_b17 O hm hn hz 0 D h
def f_X2_has (x1 : Int32) (D : Dat) : Option (Int32 × Dat) :=
  if x1 < 0 then (f_X2_has_b16 D) else (if (dI D 1 0) ≤ x1 then (f_X2_has_b16 D) else (f_X2_has_b17 1 D))
set_option maxHeartbeats 4000000 in
theorem w_X2_has {X : Cx} {n nu c u : Nat} {K : Nat → Nat} {z : Int32 × Dat} (O : Ok X cX2_has RX2 (some .boolean) 0 0) (hm : wlm (xw X) = true) (hn : xn X = 2) (hz : Z0 X (Ax nu K c u)) (x1 : Int32) (D : Dat) (h : f_X2_has x1 D = some z) : V X (Q0 X n (Ax nu K c u) (some (.int z.1)) z.2) n (Ax nu K c u) D 0 [(0, .ref (bo X + pp 1)), (1, .int x1)] [] := by
  unfold f_X2_has at h
  refine v_iload_n (pc := 0) O dX2_has_0 1 rfl ?_
  refine v_iflt (pc := 1) 16 O dX2_has_1 (by decide) (fun c2 => ?_) (fun c2 => ?_)
  · have h := (if_pos c2).symm.trans h
    refine v_sub [] rfl ?_
    exact w_X2_has_b16 O hm hn hz D h
  · have h := (if_neg c2).symm.trans h
    refine v_iload_n (pc := 4) O dX2_has_4 1 rfl ?_
    refine v_aload_n (pc := 5) O dX2_has_5 0 rfl ?_
    refine v_getI (pc := 6) (a := 1) O gf_X2_0 fl_X2_9 kq_1 dX2_has_6 ?_
    refine v_icmpge (pc := 9) 16 O dX2_has_9 (by decide) (fun c3 => ?_) (fun c3 => ?_)
    · have h := (if_pos c3).symm.trans h
      refine v_sub [] rfl ?_
      exact w_X2_has_b16 O hm hn hz D h
    · have h := (if_neg c3).symm.trans h
      refine v_iconst (pc := 12) O dX2_has_12 ic_1 ?_
      refine v_goto (pc := 13) 17 O dX2_has_13 (by decide) ?_
      refine v_sub [] rfl ?_
      exact w_X2_has_b17 O hm hn hz 1 D h
theorem c_X2_has {l : Launch} {w : Wx} {n nu c u : Nat} {K : Nat → Nat} (hm : wlm w = true) {x1 : Int32} {D : Dat} {z : Int32 × Dat} (h : f_X2_has x1 D = some z) : C0 l w yX2_has cX2_has 2 (some .boolean) 0 0 [.ref (wb w + pp 1), .int x1] n (Ax nu K c u) D (some (.int z.1)) z.2 :=
  C0.of (by decide) (Nat.le_of_ble_eq_true rfl) (fun X e1 e2 e3 hz O => by
  subst e1
  subst e2
  exact w_X2_has O hm e3 hz x1 D h)
def f_X2_isSealed (D : Dat) : Option (Int32 × Dat) :=
  if (dI D 1 2) &&& 1 = (dI D 1 2) then some ((dI D 1 2), D) else none
set_option maxHeartbeats 4000000 in
theorem w_X2_isSealed {X : Cx} {n nu c u : Nat} {K : Nat → Nat} {z : Int32 × Dat} (O : Ok X cX2_isSealed RX2 (some .boolean) 0 0) (hm : wlm (xw X) = true) (hn : xn X = 1) (hz : Z0 X (Ax nu K c u)) (D : Dat) (h : f_X2_isSealed D = some z) : V X (Q0 X n (Ax nu K c u) (some (.int z.1)) z.2) n (Ax nu K c u) D 0 [(0, .ref (bo X + pp 1))] [] := by
  unfold f_X2_isSealed at h
  refine v_aload_n (pc := 0) O dX2_isSealed_0 0 rfl ?_
  refine v_getI (pc := 1) (a := 1) O gf_X2_2 fl_X2_19 kq_1 dX2_isSealed_1 ?_
  obtain ⟨c1, h⟩ := if_none h
  obtain rfl := Option.some.inj h
  exact v_zret (pc := 4) O hz (congrArg Value.int c1) dX2_isSealed_4
theorem c_X2_isSealed {l : Launch} {w : Wx} {n nu c u : Nat} {K : Nat → Nat} (hm : wlm w = true) {D : Dat} {z : Int32 × Dat} (h : f_X2_isSealed D = some z) : C0 l w yX2_isSealed cX2_isSealed 1 (some .boolean) 0 0 [.ref (wb w + pp 1)] n (Ax nu K c u) D (some (.int z.1)) z.2 :=
  C0.of (by decide) (Nat.le_of_ble_eq_true rfl) (fun X e1 e2 e3 hz O => by
  subst e1
  subst e2
  exact w_X2_isSealed O hm e3 hz  D h)
def f_X2_bottom (D : Dat) : Option (Int32 × Dat) :=
  some ((dI D 1 3), D)
set_option maxHeartbeats 4000000 in
theorem w_X2_bottom {X : Cx} {n nu c u : Nat} {K : Nat → Nat} {z : Int32 × Dat} (O : Ok X cX2_bottom RX2 (some .int) 0 0) (hm : wlm (xw X) = true) (hn : xn X = 1) (hz : Z0 X (Ax nu K c u)) (D : Dat) (h : f_X2_bottom D = some z) : V X (Q0 X n (Ax nu K c u) (some (.int z.1)) z.2) n (Ax nu K c u) D 0 [(0, .ref (bo X + pp 1))] [] := by
  unfold f_X2_bottom at h
  refine v_aload_n (pc := 0) O dX2_bottom_0 0 rfl ?_
  refine v_getI (pc := 1) (a := 1) O gf_X2_3 fl_X2_23 kq_1 dX2_bottom_1 ?_
  obtain rfl := Option.some.inj h
  exact v_iret (pc := 4) O hz dX2_bottom_4
theorem c_X2_bottom {l : Launch} {w : Wx} {n nu c u : Nat} {K : Nat → Nat} (hm : wlm w = true) {D : Dat} {z : Int32 × Dat} (h : f_X2_bottom D = some z) : C0 l w yX2_bottom cX2_bottom 1 (some .int) 0 0 [.ref (wb w + pp 1)] n (Ax nu K c u) D (some (.int z.1)) z.2 :=
  C0.of (by decide) (Nat.le_of_ble_eq_true rfl) (fun X e1 e2 e3 hz O => by
  subst e1
  subst e2
  exact w_X2_bottom O hm e3 hz  D h)
def f_X2_leads_b35 (nu : Nat) (K : Nat → Nat) (s0 : Int32) (D : Dat) : Option (Int32 × Dat) :=
  if s0 &&& 1 = s0 then some (s0, D) else none
set_option maxHeartbeats 4000000 in
theorem w_X2_leads_b35 {X : Cx} {n nu c u : Nat} {K : Nat → Nat} {z : Int32 × Dat} (O : Ok X cX2_leads RX2 (some .boolean) 1 21) (hm : wlm (xw X) = true) (hn : xn X = 3) (hz : Z0 X (Ax nu K c u)) (s0 : Int32) (D : Dat) (h : f_X2_leads_b35 nu K s0 D = some z) : V X (Q0 X n (Ax nu K c u) (some (.int z.1)) z.2) n (Ax nu K c u) D 35 [] [.int s0] := by
  unfold f_X2_leads_b35 at h
  obtain ⟨c1, h⟩ := if_none h
  obtain rfl := Option.some.inj h
  exact v_zret (pc := 35) O hz (congrArg Value.int c1) dX2_leads_35
def f_X2_leads_b34 (nu : Nat) (K : Nat → Nat) (D : Dat) : Option (Int32 × Dat) :=
  f_X2_leads_b35 nu K 0 D
set_option maxHeartbeats 4000000 in
theorem w_X2_leads_b34 {X : Cx} {n nu c u : Nat} {K : Nat → Nat} {z : Int32 × Dat} (O : Ok X cX2_leads RX2 (some .boolean) 1 21) (hm : wlm (xw X) = true) (hn : xn X = 3) (hz : Z0 X (Ax nu K c u)) (D : Dat) (h : f_X2_leads_b34 nu K D = some z) : V X (Q0 X n (Ax nu K c u) (some (.int z.1)) z.2) n (Ax nu K c u) D 34 [] [] := by
  unfold f_X2_leads_b34 at h
  refine v_iconst (pc := 34) O dX2_leads_34 ic_0 ?_
  refine v_sub [] rfl ?_
  exact w_X2_leads_b35 O hm hn hz 0 D h
def f_X2_leads (nu : Nat) (K : Nat → Nat) (x1 : Int32) (x2 : Int32) (D : Dat) : Option (Int32 × Dat) :=
  (f_X2_has x1 D).bind (fun p2 => if p2.1 = 0 then (f_X2_leads_b34 nu K p2.2) else ((f_X2_has x2 p2.2).bind (fun p5 => if p5.1 = 0 then (f_X2_leads_b34 nu K p5.2) else (if x1 < 0 ∨ nu ≤ (x1).toNatClampNeg then none else (if (((dI p5.2 2 (x1).toNatClampNeg) >>> (x2 &&& 31)) &&& (1 : Int32)) = 1 then (f_X2_leads_b35 nu K 1 p5.2) else (f_X2_leads_b34 nu K p5.2))))))
set_option maxHeartbeats 4000000 in
theorem w_X2_leads {X : Cx} {n nu c u : Nat} {K : Nat → Nat} {z : Int32 × Dat} (O : Ok X cX2_leads RX2 (some .boolean) 1 21) (hm : wlm (xw X) = true) (hn : xn X = 3) (hz : Z0 X (Ax nu K c u)) (x1 : Int32) (x2 : Int32) (D : Dat) (h : f_X2_leads nu K x1 x2 D = some z) : V X (Q0 X n (Ax nu K c u) (some (.int z.1)) z.2) n (Ax nu K c u) D 0 [(0, .ref (bo X + pp 1)), (1, .int x1), (2, .int x2)] [] := by
  unfold f_X2_leads at h
  refine v_aload_n (pc := 0) O dX2_leads_0 0 rfl ?_
  refine v_iload_n (pc := 1) O dX2_leads_1 1 rfl ?_
  obtain ⟨p2, e3, h⟩ := bind_some h
  refine v_callV (pc := 2) (a := 1) (As := [.int x1]) (rest := []) (r := (some (.int p2.1))) (D' := p2.2) O (bb0 hz) (c_X2_has hm e3) mw_X2_has im_X2_has se_X2_has ml_X2_26 kq_1 (by decide) rfl rfl rfl (by decide) (by decide) (Nat.le_of_ble_eq_true rfl) dX2_leads_2 rfl rfl ?_
  refine v_ifeq (pc := 5) 34 O dX2_leads_5 (by decide) (fun c4 => ?_) (fun c4 => ?_)
  · have h := (if_pos c4).symm.trans h
    refine v_sub [] rfl ?_
    exact w_X2_leads_b34 O hm hn hz p2.2 h
  · have h := (if_neg c4).symm.trans h
    refine v_aload_n (pc := 8) O dX2_leads_8 0 rfl ?_
    refine v_iload_n (pc := 9) O dX2_leads_9 2 rfl ?_
    obtain ⟨p5, e6, h⟩ := bind_some h
    refine v_callV (pc := 10) (a := 1) (As := [.int x2]) (rest := []) (r := (some (.int p5.1))) (D' := p5.2) O (bb0 hz) (c_X2_has hm e6) mw_X2_has im_X2_has se_X2_has ml_X2_26 kq_1 (by decide) rfl rfl rfl (by decide) (by decide) (Nat.le_of_ble_eq_true rfl) dX2_leads_10 rfl rfl ?_
    refine v_ifeq (pc := 13) 34 O dX2_leads_13 (by decide) (fun c7 => ?_) (fun c7 => ?_)
    · have h := (if_pos c7).symm.trans h
      refine v_sub [] rfl ?_
      exact w_X2_leads_b34 O hm hn hz p5.2 h
    · have h := (if_neg c7).symm.trans h
      refine v_aload_n (pc := 16) O dX2_leads_16 0 rfl ?_
      refine v_getK (pc := 17) (a := 1) O hm gf_X2_1 fl_X2_15 kq_1 lk_1_1 dX2_leads_17 ?_
      refine v_iload_n (pc := 20) O dX2_leads_20 1 rfl ?_
      obtain ⟨c8, h⟩ := or_none h
      refine v_iald (pc := 21) (a := 2) O kq_2 (inq lq_2 c8) dX2_leads_21 ?_
      refine v_iload_n (pc := 22) O dX2_leads_22 2 rfl ?_
      refine v_ishr (pc := 23) O dX2_leads_23 ?_
      refine v_iconst (pc := 24) O dX2_leads_24 ic_1 ?_
      refine v_iand (pc := 25) O dX2_leads_25 ?_
      refine v_iconst (pc := 26) O dX2_leads_26 ic_1 ?_
      refine v_icmpne (pc := 27) 34 O dX2_leads_27 (by decide) (fun c9 => ?_) (fun c9 => ?_)
      · have h := (if_neg c9).symm.trans h
        refine v_sub [] rfl ?_
        exact w_X2_leads_b34 O hm hn hz p5.2 h
      · have h := (if_pos c9).symm.trans h
        refine v_iconst (pc := 30) O dX2_leads_30 ic_1 ?_
        refine v_goto (pc := 31) 35 O dX2_leads_31 (by decide) ?_
        refine v_sub [] rfl ?_
        exact w_X2_leads_b35 O hm hn hz 1 p5.2 h
theorem c_X2_leads {l : Launch} {w : Wx} {n nu c u : Nat} {K : Nat → Nat} (hm : wlm w = true) {x1 : Int32} {x2 : Int32} {D : Dat} {z : Int32 × Dat} (h : f_X2_leads nu K x1 x2 D = some z) : C0 l w yX2_leads cX2_leads 3 (some .boolean) 1 21 [.ref (wb w + pp 1), .int x1, .int x2] n (Ax nu K c u) D (some (.int z.1)) z.2 :=
  C0.of (by decide) (Nat.le_of_ble_eq_true rfl) (fun X e1 e2 e3 hz O => by
  subst e1
  subst e2
  exact w_X2_leads O hm e3 hz x1 x2 D h)
def f_X2_put_b16 (N : Nat) (nu : Nat) (K : Nat → Nat) (D : Dat) : Option (Dat) :=
  some D
set_option maxHeartbeats 4000000 in
theorem w_X2_put_b16 {X : Cx} {n nu c u : Nat} {K : Nat → Nat} {N : Nat} {z : Dat} (O : Ok X cX2_put RX2 none 2 43) (hm : wlm (xw X) = true) (hn : xn X = 5) (hz : Z0 X (Ax nu K c u)) (D : Dat) (h : f_X2_put_b16 N nu K D = some z) : V X (Q0 X n (Ax nu K c u) none z) n (Ax nu K c u) D 16 [] [] := by
  unfold f_X2_put_b16 at h
  obtain rfl := Option.some.inj h
  exact v_ret (pc := 16) O hz dX2_put_16
def f_X2_put_b57 (N : Nat) (nu : Nat) (K : Nat → Nat) (rec_27 : Int32 → Int32 → Int32 → Dat → Option (Dat)) (x1 : Int32) (x3 : Int32) (x4 : Int32) (D : Dat) : Option (Dat) :=
  rec_27 x1 x3 (x4 + 1) D
set_option maxHeartbeats 4000000 in
theorem w_X2_put_b57 {X : Cx} {n nu c u : Nat} {K : Nat → Nat} {N : Nat} {rec_27 : Int32 → Int32 → Int32 → Dat → Option (Dat)} {z : Dat} (O : Ok X cX2_put RX2 none 2 43) (hm : wlm (xw X) = true) (hn : xn X = 5) (hz : Z0 X (Ax nu K c u)) (hrec_27 : ∀ (x1 : Int32) (x3 : Int32) (x4 : Int32) (D : Dat), rec_27 x1 x3 x4 D = some z → V X (Q0 X n (Ax nu K c u) none z) n (Ax nu K c u) D 27 [(0, .ref (bo X + pp 1)), (1, .int x1), (3, .int x3), (4, .int x4)] []) (x1 : Int32) (x3 : Int32) (x4 : Int32) (D : Dat) (h : f_X2_put_b57 N nu K rec_27 x1 x3 x4 D = some z) : V X (Q0 X n (Ax nu K c u) none z) n (Ax nu K c u) D 57 [(0, .ref (bo X + pp 1)), (1, .int x1), (3, .int x3), (4, .int x4)] [] := by
  unfold f_X2_put_b57 at h
  refine v_iinc (pc := 57) (lv' := [(4, .int (x4 + 1)), (0, .ref (bo X + pp 1)), (1, .int x1), (3, .int x3)]) O dX2_put_57 3 rfl (congrArg (fun q => x4 + q) ic_1) (by rw [hn]; decide) rfl ?_
  refine v_goto (pc := 60) 27 O dX2_put_60 (by decide) ?_
  refine v_sub [1, 2, 3, 0] rfl ?_
  exact hrec_27 x1 x3 (x4 + 1) D h
def f_X2_put_b27 (N : Nat) (nu : Nat) (K : Nat → Nat) : Nat → Int32 → Int32 → Int32 → Dat → Option (Dat)
  | 0, _, _, _, _ => none
  | g + 1, x1, x3, x4, D => if (dI D 1 0) ≤ x4 then (some D) else ((f_X2_leads nu K x4 x1 D).bind (fun p2 => if p2.1 = 0 then (f_X2_put_b57 N nu K (f_X2_put_b27 N nu K g) x1 x3 x4 p2.2) else (if x4 < 0 ∨ nu ≤ (x4).toNatClampNeg then none else (if x4 < 0 ∨ nu ≤ (x4).toNatClampNeg then none else (f_X2_put_b57 N nu K (f_X2_put_b27 N nu K g) x1 x3 x4 (sI p2.2 2 (x4).toNatClampNeg ((dI p2.2 2 (x4).toNatClampNeg) ||| x3)))))))
set_option maxHeartbeats 4000000 in
theorem w_X2_put_b27 {X : Cx} {n nu c u : Nat} {K : Nat → Nat} {N : Nat} {z : Dat} (O : Ok X cX2_put RX2 none 2 43) (hm : wlm (xw X) = true) (hn : xn X = 5) (hz : Z0 X (Ax nu K c u)) : ∀ (g : Nat) (x1 : Int32) (x3 : Int32) (x4 : Int32) (D : Dat), f_X2_put_b27 N nu K g x1 x3 x4 D = some z → V X (Q0 X n (Ax nu K c u) none z) n (Ax nu K c u) D 27 [(0, .ref (bo X + pp 1)), (1, .int x1), (3, .int x3), (4, .int x4)] [] := by
  intro g
  induction g with
  | zero => intro x1 x3 x4 D h; exact absurd h (by simp [f_X2_put_b27])
  | succ g ih =>
    intro x1 x3 x4 D h
    rw [f_X2_put_b27] at h
    refine v_iload (pc := 27) O dX2_put_27 3 rfl ?_
    refine v_aload_n (pc := 29) O dX2_put_29 0 rfl ?_
    refine v_getI (pc := 30) (a := 1) O gf_X2_0 fl_X2_9 kq_1 dX2_put_30 ?_
    refine v_icmpge (pc := 33) 63 O dX2_put_33 (by decide) (fun c1 => ?_) (fun c1 => ?_)
    · have h := (if_pos c1).symm.trans h
      obtain rfl := Option.some.inj h
      exact v_ret (pc := 63) O hz dX2_put_63
    · have h := (if_neg c1).symm.trans h
      refine v_aload_n (pc := 36) O dX2_put_36 0 rfl ?_
      refine v_iload (pc := 37) O dX2_put_37 3 rfl ?_
      refine v_iload_n (pc := 39) O dX2_put_39 1 rfl ?_
      obtain ⟨p2, e3, h⟩ := bind_some h
      refine v_callV (pc := 40) (a := 1) (As := [.int x4, .int x1]) (rest := []) (r := (some (.int p2.1))) (D' := p2.2) O (bb0 hz) (c_X2_leads hm e3) mw_X2_leads im_X2_leads se_X2_leads ml_X2_30 kq_1 (by decide) rfl rfl rfl (by decide) (by decide) (Nat.le_of_ble_eq_true rfl) dX2_put_40 rfl rfl ?_
      refine v_ifeq (pc := 43) 57 O dX2_put_43 (by decide) (fun c4 => ?_) (fun c4 => ?_)
      · have h := (if_pos c4).symm.trans h
        refine v_sub [0, 1, 2, 3] rfl ?_
        exact w_X2_put_b57 O hm hn hz ih x1 x3 x4 p2.2 h
      · have h := (if_neg c4).symm.trans h
        refine v_aload_n (pc := 46) O dX2_put_46 0 rfl ?_
        refine v_getK (pc := 47) (a := 1) O hm gf_X2_1 fl_X2_15 kq_1 lk_1_1 dX2_put_47 ?_
        refine v_iload (pc := 50) O dX2_put_50 3 rfl ?_
        refine v_dup2 (pc := 52) O dX2_put_52 rfl rfl ?_
        obtain ⟨c5, h⟩ := or_none h
        refine v_iald (pc := 53) (a := 2) O kq_2 (inq lq_2 c5) dX2_put_53 ?_
        refine v_iload_n (pc := 54) O dX2_put_54 2 rfl ?_
        refine v_ior (pc := 55) O dX2_put_55 ?_
        obtain ⟨c6, h⟩ := or_none h
        refine v_iast (pc := 56) (a := 2) O kq_2 (inq lq_2 c6) dX2_put_56 ?_
        refine v_sub [0, 1, 2, 3] rfl ?_
        exact w_X2_put_b57 O hm hn hz ih x1 x3 x4 (sI p2.2 2 (x4).toNatClampNeg ((dI p2.2 2 (x4).toNatClampNeg) ||| x3)) h
def f_X2_put (N : Nat) (nu : Nat) (K : Nat → Nat) (x1 : Int32) (x2 : Int32) (D : Dat) : Option (Dat) :=
  (f_X2_has x1 D).bind (fun p7 => if p7.1 = 0 then (f_X2_put_b16 N nu K p7.2) else ((f_X2_has x2 p7.2).bind (fun p10 => if p10.1 = 0 then (f_X2_put_b16 N nu K p10.2) else (if x2 < 0 ∨ nu ≤ (x2).toNatClampNeg then none else (f_X2_put_b27 N nu K N x1 (dI p10.2 2 (x2).toNatClampNeg) 0 p10.2)))))
set_option maxHeartbeats 4000000 in
theorem w_X2_put {X : Cx} {n nu c u : Nat} {K : Nat → Nat} {N : Nat} {z : Dat} (O : Ok X cX2_put RX2 none 2 43) (hm : wlm (xw X) = true) (hn : xn X = 5) (hz : Z0 X (Ax nu K c u)) (x1 : Int32) (x2 : Int32) (D : Dat) (h : f_X2_put N nu K x1 x2 D = some z) : V X (Q0 X n (Ax nu K c u) none z) n (Ax nu K c u) D 0 [(0, .ref (bo X + pp 1)), (1, .int x1), (2, .int x2)] [] := by
  unfold f_X2_put at h
  refine v_aload_n (pc := 0) O dX2_put_0 0 rfl ?_
  refine v_iload_n (pc := 1) O dX2_put_1 1 rfl ?_
  obtain ⟨p7, e8, h⟩ := bind_some h
  refine v_callV (pc := 2) (a := 1) (As := [.int x1]) (rest := []) (r := (some (.int p7.1))) (D' := p7.2) O (bb0 hz) (c_X2_has hm e8) mw_X2_has im_X2_has se_X2_has ml_X2_26 kq_1 (by decide) rfl rfl rfl (by decide) (by decide) (Nat.le_of_ble_eq_true rfl) dX2_put_2 rfl rfl ?_
  refine v_ifeq (pc := 5) 16 O dX2_put_5 (by decide) (fun c9 => ?_) (fun c9 => ?_)
  · have h := (if_pos c9).symm.trans h
    refine v_sub [] rfl ?_
    exact w_X2_put_b16 O hm hn hz p7.2 h
  · have h := (if_neg c9).symm.trans h
    refine v_aload_n (pc := 8) O dX2_put_8 0 rfl ?_
    refine v_iload_n (pc := 9) O dX2_put_9 2 rfl ?_
    obtain ⟨p10, e11, h⟩ := bind_some h
    refine v_callV (pc := 10) (a := 1) (As := [.int x2]) (rest := []) (r := (some (.int p10.1))) (D' := p10.2) O (bb0 hz) (c_X2_has hm e11) mw_X2_has im_X2_has se_X2_has ml_X2_26 kq_1 (by decide) rfl rfl rfl (by decide) (by decide) (Nat.le_of_ble_eq_true rfl) dX2_put_10 rfl rfl ?_
    refine v_ifne (pc := 13) 17 O dX2_put_13 (by decide) (fun c12 => ?_) (fun c12 => ?_)
    · have h := (if_neg c12).symm.trans h
      refine v_aload_n (pc := 17) O dX2_put_17 0 rfl ?_
      refine v_getK (pc := 18) (a := 1) O hm gf_X2_1 fl_X2_15 kq_1 lk_1_1 dX2_put_18 ?_
      refine v_iload_n (pc := 21) O dX2_put_21 2 rfl ?_
      obtain ⟨c13, h⟩ := or_none h
      refine v_iald (pc := 22) (a := 2) O kq_2 (inq lq_2 c13) dX2_put_22 ?_
      refine v_istore_n (pc := 23) (lv' := [(3, .int (dI p10.2 2 (x2).toNatClampNeg)), (0, .ref (bo X + pp 1)), (1, .int x1), (2, .int x2)]) O dX2_put_23 rfl (by rw [hn]; decide) rfl ?_
      refine v_iconst (pc := 24) O dX2_put_24 ic_0 ?_
      refine v_istore (pc := 25) (lv' := [(4, .int 0), (3, .int (dI p10.2 2 (x2).toNatClampNeg)), (0, .ref (bo X + pp 1)), (1, .int x1), (2, .int x2)]) O dX2_put_25 (by rw [hn]; decide) rfl ?_
      refine v_sub [2, 3, 1, 0] rfl ?_
      exact w_X2_put_b27 O hm hn hz N x1 (dI p10.2 2 (x2).toNatClampNeg) 0 p10.2 h
    · have h := (if_pos c12).symm.trans h
      refine v_sub [] rfl ?_
      exact w_X2_put_b16 O hm hn hz p10.2 h
theorem c_X2_put {l : Launch} {w : Wx} {n nu c u : Nat} {K : Nat → Nat} {N : Nat} (hm : wlm w = true) {x1 : Int32} {x2 : Int32} {D : Dat} {z : Dat} (h : f_X2_put N nu K x1 x2 D = some z) : C0 l w yX2_put cX2_put 5 none 2 43 [.ref (wb w + pp 1), .int x1, .int x2] n (Ax nu K c u) D none z :=
  C0.of (by decide) (Nat.le_of_ble_eq_true rfl) (fun X e1 e2 e3 hz O => by
  subst e1
  subst e2
  exact w_X2_put O hm e3 hz x1 x2 D h)
def f_X2_pairs_b4 (N : Nat) (nu : Nat) (K : Nat → Nat) : Nat → Int32 → Int32 → Dat → Option (Int32 × Dat)
  | 0, _, _, _ => none
  | g + 1, x1, x2, D => if (dI D 1 0) ≤ x2 then (some (x1, D)) else (if x2 < 0 ∨ nu ≤ (x2).toNatClampNeg then none else ((f_J6_bitCount_0f7a4 (dI D 2 (x2).toNatClampNeg) D).bind (fun p3 => (f_X2_pairs_b4 N nu K g) (x1 + p3.1) (x2 + 1) p3.2)))
set_option maxHeartbeats 4000000 in
theorem w_X2_pairs_b4 {X : Cx} {n nu c u : Nat} {K : Nat → Nat} {N : Nat} {z : Int32 × Dat} (O : Ok X cX2_pairs RX2 (some .int) 1 20) (hm : wlm (xw X) = true) (hn : xn X = 3) (hz : Z0 X (Ax nu K c u)) : ∀ (g : Nat) (x1 : Int32) (x2 : Int32) (D : Dat), f_X2_pairs_b4 N nu K g x1 x2 D = some z → V X (Q0 X n (Ax nu K c u) (some (.int z.1)) z.2) n (Ax nu K c u) D 4 [(0, .ref (bo X + pp 1)), (1, .int x1), (2, .int x2)] [] := by
  intro g
  induction g with
  | zero => intro x1 x2 D h; exact absurd h (by simp [f_X2_pairs_b4])
  | succ g ih =>
    intro x1 x2 D h
    rw [f_X2_pairs_b4] at h
    refine v_iload_n (pc := 4) O dX2_pairs_4 2 rfl ?_
    refine v_aload_n (pc := 5) O dX2_pairs_5 0 rfl ?_
    refine v_getI (pc := 6) (a := 1) O gf_X2_0 fl_X2_9 kq_1 dX2_pairs_6 ?_
    refine v_icmpge (pc := 9) 30 O dX2_pairs_9 (by decide) (fun c1 => ?_) (fun c1 => ?_)
    · have h := (if_pos c1).symm.trans h
      refine v_iload_n (pc := 30) O dX2_pairs_30 1 rfl ?_
      obtain rfl := Option.some.inj h
      exact v_iret (pc := 31) O hz dX2_pairs_31
    · have h := (if_neg c1).symm.trans h
      refine v_iload_n (pc := 12) O dX2_pairs_12 1 rfl ?_
      refine v_aload_n (pc := 13) O dX2_pairs_13 0 rfl ?_
      refine v_getK (pc := 14) (a := 1) O hm gf_X2_1 fl_X2_15 kq_1 lk_1_1 dX2_pairs_14 ?_
      refine v_iload_n (pc := 17) O dX2_pairs_17 2 rfl ?_
      obtain ⟨c2, h⟩ := or_none h
      refine v_iald (pc := 18) (a := 2) O kq_2 (inq lq_2 c2) dX2_pairs_18 ?_
      obtain ⟨p3, e4, h⟩ := bind_some h
      refine v_callS (pc := 19) (As := [.int (dI D 2 (x2).toNatClampNeg)]) (rest := [.int x1]) (r := (some (.int p3.1))) (D' := p3.2) O (bb0 hz) (c_J6_bitCount_0f7a4 hm e4) mw_J6_bitCount_0f7a4 sm_J6_bitCount_0f7a4 ml_X2_34 rfl (by decide) (by decide) (Nat.le_of_ble_eq_true rfl) dX2_pairs_19 rfl rfl ?_
      refine v_iadd (pc := 22) O dX2_pairs_22 ?_
      refine v_istore_n (pc := 23) (lv' := [(1, .int (x1 + p3.1)), (0, .ref (bo X + pp 1)), (2, .int x2)]) O dX2_pairs_23 rfl (by rw [hn]; decide) rfl ?_
      refine v_iinc (pc := 24) (lv' := [(2, .int (x2 + 1)), (1, .int (x1 + p3.1)), (0, .ref (bo X + pp 1))]) O dX2_pairs_24 2 rfl (congrArg (fun q => x2 + q) ic_1) (by rw [hn]; decide) rfl ?_
      refine v_goto (pc := 27) 4 O dX2_pairs_27 (by decide) ?_
      refine v_sub [2, 1, 0] rfl ?_
      exact ih (x1 + p3.1) (x2 + 1) p3.2 h
def f_X2_pairs (N : Nat) (nu : Nat) (K : Nat → Nat) (D : Dat) : Option (Int32 × Dat) :=
  f_X2_pairs_b4 N nu K N 0 0 D
set_option maxHeartbeats 4000000 in
theorem w_X2_pairs {X : Cx} {n nu c u : Nat} {K : Nat → Nat} {N : Nat} {z : Int32 × Dat} (O : Ok X cX2_pairs RX2 (some .int) 1 20) (hm : wlm (xw X) = true) (hn : xn X = 3) (hz : Z0 X (Ax nu K c u)) (D : Dat) (h : f_X2_pairs N nu K D = some z) : V X (Q0 X n (Ax nu K c u) (some (.int z.1)) z.2) n (Ax nu K c u) D 0 [(0, .ref (bo X + pp 1))] [] := by
  unfold f_X2_pairs at h
  refine v_iconst (pc := 0) O dX2_pairs_0 ic_0 ?_
  refine v_istore_n (pc := 1) (lv' := [(1, .int 0), (0, .ref (bo X + pp 1))]) O dX2_pairs_1 rfl (by rw [hn]; decide) rfl ?_
  refine v_iconst (pc := 2) O dX2_pairs_2 ic_0 ?_
  refine v_istore_n (pc := 3) (lv' := [(2, .int 0), (1, .int 0), (0, .ref (bo X + pp 1))]) O dX2_pairs_3 rfl (by rw [hn]; decide) rfl ?_
  refine v_sub [2, 1, 0] rfl ?_
  exact w_X2_pairs_b4 O hm hn hz N 0 0 D h
theorem c_X2_pairs {l : Launch} {w : Wx} {n nu c u : Nat} {K : Nat → Nat} {N : Nat} (hm : wlm w = true) {D : Dat} {z : Int32 × Dat} (h : f_X2_pairs N nu K D = some z) : C0 l w yX2_pairs cX2_pairs 3 (some .int) 1 20 [.ref (wb w + pp 1)] n (Ax nu K c u) D (some (.int z.1)) z.2 :=
  C0.of (by decide) (Nat.le_of_ble_eq_true rfl) (fun X e1 e2 e3 hz O => by
  subst e1
  subst e2
  exact w_X2_pairs O hm e3 hz  D h)
