theorem kq_207 {nu c u : Nat} {K : Nat → Nat} : (Ax nu K c u).1 207 = 12 := kd_lt (by decide) rfl
theorem fl_X12_183 : Cond.fieldLink RX12 183 RX12 (TX12 0).2.1 (TX12 0).2.2.1 ∈ tb := tb_of 1723 (by decide +kernel) (by decide +kernel)
theorem inb_X12 : ∀ w ∈ u_ws RX12 TX12 85, w ∈ tb := by decide +kernel
theorem gf_X12_0 : FI 12 RX12 TX12 85 tyX12 0 0 := ⟨rfl, inb_X12, tyX12_ok, nmX12, by decide, by decide, rfl, rfl, rfl⟩
theorem pf_X12_0 : PI 12 RX12 TX12 85 tyX12 0 0 .int := ⟨gf_X12_0, rfl, rfl⟩
theorem ic_0 : Int32.ofInt (0) = (0 : Int32) := by decide
theorem ic_1 : Int32.ofInt (1) = (1 : Int32) := by decide
theorem fl_X12_180 : Cond.fieldLink RX12 180 RX12 (TX12 1).2.1 (TX12 1).2.2.1 ∈ tb := tb_of 1724 (by decide +kernel) (by decide +kernel)
theorem gf_X12_1 : FI 12 RX12 TX12 85 tyX12 1 0 := ⟨rfl, inb_X12, tyX12_ok, nmX12, by decide, by decide, rfl, rfl, rfl⟩
theorem ini_X12 : Cond.initialized RX12 ∈ tb := tb_of 176 (by decide +kernel) (by decide +kernel)
theorem cw_X12_out : Cond.code yX12_out cX12_out 3 (some .boolean) ∈ tb := tb_of 1991 (by decide +kernel) (by decide +kernel)
theorem mw_X12_out : MW yX12_out cX12_out 3 (some .boolean) 2 := ⟨cw_X12_out, ini_X12, by decide +kernel⟩
theorem im_X12_out : Cond.instanceMethod yX12_out ∈ tb := tb_of 1990 (by decide +kernel) (by decide +kernel)
theorem se_X12_out : Cond.selects (yX12_out).cls yX12_out yX12_out ∈ tb := tb_of 87 (by decide +kernel) (by decide +kernel)
theorem ml_X12_186 : Cond.methodLink RX12 186 yX12_out ∈ tb := tb_of 1988 (by decide +kernel) (by decide +kernel)
theorem fl_X12_194 : Cond.fieldLink RX12 194 RX12 (TX12 5).2.1 (TX12 5).2.2.1 ∈ tb := tb_of 1728 (by decide +kernel) (by decide +kernel)
theorem gf_X12_5 : FI 12 RX12 TX12 85 tyX12 5 0 := ⟨rfl, inb_X12, tyX12_ok, nmX12, by decide, by decide, rfl, rfl, rfl⟩
theorem ic_2 : Int32.ofInt (2) = (2 : Int32) := by decide
theorem cw_X12_fail : Cond.code yX12_fail cX12_fail 2 (some .int) ∈ tb := tb_of 1995 (by decide +kernel) (by decide +kernel)
theorem mw_X12_fail : MW yX12_fail cX12_fail 2 (some .int) 1 := ⟨cw_X12_fail, ini_X12, by decide +kernel⟩
theorem im_X12_fail : Cond.instanceMethod yX12_fail ∈ tb := tb_of 1994 (by decide +kernel) (by decide +kernel)
theorem se_X12_fail : Cond.selects (yX12_fail).cls yX12_fail yX12_fail ∈ tb := tb_of 88 (by decide +kernel) (by decide +kernel)
theorem ml_X12_190 : Cond.methodLink RX12 190 yX12_fail ∈ tb := tb_of 1992 (by decide +kernel) (by decide +kernel)
theorem fl_X12_7 : Cond.fieldLink RX12 7 RX12 (TX12 2).2.1 (TX12 2).2.2.1 ∈ tb := tb_of 1725 (by decide +kernel) (by decide +kernel)
theorem gf_X12_2 : FI 12 RX12 TX12 85 tyX12 2 3 := ⟨rfl, inb_X12, tyX12_ok, nmX12, by decide, by decide, rfl, rfl, rfl⟩
theorem lk_207_2 : lks 207 2 = some 208 := by decide +kernel
theorem kq_208 {nu c u : Nat} {K : Nat → Nat} : (Ax nu K c u).1 208 = 16 := kd_lt (by decide) rfl
theorem lq_208 {nu c u : Nat} {K : Nat → Nat} : (Ax nu K c u).2.1 208 = 36 := rfl
theorem bp_6 : (Int8.ofInt (6)).toInt32 = (6 : Int32) := by decide
theorem fl_X12_13 : Cond.fieldLink RX12 13 RX12 (TX12 3).2.1 (TX12 3).2.2.1 ∈ tb := tb_of 1726 (by decide +kernel) (by decide +kernel)
theorem gf_X12_3 : FI 12 RX12 TX12 85 tyX12 3 3 := ⟨rfl, inb_X12, tyX12_ok, nmX12, by decide, by decide, rfl, rfl, rfl⟩
theorem lk_207_3 : lks 207 3 = some 209 := by decide +kernel
theorem kq_209 {nu c u : Nat} {K : Nat → Nat} : (Ax nu K c u).1 209 = 14 := kd_lt (by decide) rfl
theorem lq_209 {nu c u : Nat} {K : Nat → Nat} : (Ax nu K c u).2.1 209 = 36 := rfl
theorem ic_3 : Int32.ofInt (3) = (3 : Int32) := by decide
theorem bp_42 : (Int8.ofInt (42)).toInt32 = (42 : Int32) := by decide
theorem bp_47 : (Int8.ofInt (47)).toInt32 = (47 : Int32) := by decide
theorem bp_43 : (Int8.ofInt (43)).toInt32 = (43 : Int32) := by decide
theorem bp_45 : (Int8.ofInt (45)).toInt32 = (45 : Int32) := by decide
theorem bp_60 : (Int8.ofInt (60)).toInt32 = (60 : Int32) := by decide
theorem bp_61 : (Int8.ofInt (61)).toInt32 = (61 : Int32) := by decide
theorem kq_1 {nu c u : Nat} {K : Nat → Nat} : (Ax nu K c u).1 1 = 2 := kd_lt (by decide) rfl
theorem fl_X2_9 : Cond.fieldLink RX2 9 RX2 (TX2 0).2.1 (TX2 0).2.2.1 ∈ tb := tb_of 214 (by decide +kernel) (by decide +kernel)
theorem inb_X2 : ∀ w ∈ u_ws RX2 TX2 4, w ∈ tb := by decide +kernel
theorem gf_X2_0 : FI 2 RX2 TX2 4 tyX2 0 0 := ⟨rfl, inb_X2, tyX2_ok, nmX2, by decide, by decide, rfl, rfl, rfl⟩
theorem ini_X2 : Cond.initialized RX2 ∈ tb := tb_of 164 (by decide +kernel) (by decide +kernel)
theorem cw_X2_has : Cond.code yX2_has cX2_has 2 (some .boolean) ∈ tb := tb_of 569 (by decide +kernel) (by decide +kernel)
theorem mw_X2_has : MW yX2_has cX2_has 2 (some .boolean) 1 := ⟨cw_X2_has, ini_X2, by decide +kernel⟩
theorem im_X2_has : Cond.instanceMethod yX2_has ∈ tb := tb_of 567 (by decide +kernel) (by decide +kernel)
theorem se_X2_has : Cond.selects (yX2_has).cls yX2_has yX2_has ∈ tb := tb_of 568 (by decide +kernel) (by decide +kernel)
theorem ml_X2_26 : Cond.methodLink RX2 26 yX2_has ∈ tb := tb_of 658 (by decide +kernel) (by decide +kernel)
theorem fl_X2_15 : Cond.fieldLink RX2 15 RX2 (TX2 1).2.1 (TX2 1).2.2.1 ∈ tb := tb_of 215 (by decide +kernel) (by decide +kernel)
theorem gf_X2_1 : FI 2 RX2 TX2 4 tyX2 1 3 := ⟨rfl, inb_X2, tyX2_ok, nmX2, by decide, by decide, rfl, rfl, rfl⟩
theorem lk_1_1 : lks 1 1 = some 2 := by decide +kernel
theorem kq_2 {nu c u : Nat} {K : Nat → Nat} : (Ax nu K c u).1 2 = 14 := kd_lt (by decide) rfl
theorem lq_2 {nu c u : Nat} {K : Nat → Nat} : (Ax nu K c u).2.1 2 = nu := rfl
theorem cw_X2_leads : Cond.code yX2_leads cX2_leads 3 (some .boolean) ∈ tb := tb_of 662 (by decide +kernel) (by decide +kernel)
theorem mw_X2_leads : MW yX2_leads cX2_leads 3 (some .boolean) 2 := ⟨cw_X2_leads, ini_X2, by decide +kernel⟩
theorem im_X2_leads : Cond.instanceMethod yX2_leads ∈ tb := tb_of 660 (by decide +kernel) (by decide +kernel)
theorem se_X2_leads : Cond.selects (yX2_leads).cls yX2_leads yX2_leads ∈ tb := tb_of 661 (by decide +kernel) (by decide +kernel)
theorem ml_X2_30 : Cond.methodLink RX2 30 yX2_leads ∈ tb := tb_of 659 (by decide +kernel) (by decide +kernel)
def f_X12_fail (x1 : Int32) (D : Dat) : Option (Int32 × Dat) :=
  some (0, (sI D 207 0 x1))
set_option maxHeartbeats 4000000 in
theorem w_X12_fail {X : Cx} {n nu c u : Nat} {K : Nat → Nat} (O : Ok X cX12_fail RX12 (some .int) 0 0) (hm : wlm (xw X) = true) (hn : xn X = 2) (hz : Z0 X (Ax nu K c u)) (x1 : Int32) (D : Dat) {z : Int32 × Dat} (h : f_X12_fail x1 D = some z) : V X (Q0 X n (Ax nu K c u) (some (.int z.1)) z.2) n (Ax nu K c u) D 0 [(0, .ref (bo X + 207)), (1, .int x1)] [] := by
  unfold f_X12_fail at h
  refine v_aload_n (pc := 0) O dX12_fail_0 0 rfl ?_
  refine v_iload_n (pc := 1) O dX12_fail_1 1 rfl ?_
  refine v_putI (pc := 2) (a := 207) O pf_X12_0 fl_X12_183 kq_207 dX12_fail_2 ?_
  refine v_iconst (pc := 5) O dX12_fail_5 ic_0 ?_
  obtain rfl := Option.some.inj h
  exact v_iret (pc := 6) O hz dX12_fail_6
theorem c_X12_fail {l : Launch} {w : Wx} {n nu c u : Nat} {K : Nat → Nat} (hm : wlm w = true) {x1 : Int32} {D : Dat} {z : Int32 × Dat} (h : f_X12_fail x1 D = some z) : C0 l w yX12_fail cX12_fail 2 (some .int) 0 0 [.ref (wb w + 207), .int x1] n (Ax nu K c u) D (some (.int z.1)) z.2 :=
  C0.of (by decide) (Nat.le_of_ble_eq_true rfl) (fun X e1 e2 e3 hz O => by
  subst e1
  subst e2
  exact w_X12_fail O hm e3 hz x1 D h)
def f_X12_out_b14 (s0 : Int32) (D : Dat) : Option (Int32 × Dat) :=
  if s0 &&& 1 = s0 then some (s0, D) else none
set_option maxHeartbeats 4000000 in
theorem w_X12_out_b14 {X : Cx} {n nu c u : Nat} {K : Nat → Nat} {z : Int32 × Dat} (O : Ok X cX12_out RX12 (some .boolean) 0 0) (hm : wlm (xw X) = true) (hn : xn X = 3) (hz : Z0 X (Ax nu K c u)) (s0 : Int32) (D : Dat) (h : f_X12_out_b14 s0 D = some z) : V X (Q0 X n (Ax nu K c u) (some (.int z.1)) z.2) n (Ax nu K c u) D 14 [] [.int s0] := by
  unfold f_X12_out_b14 at h
  obtain ⟨c1, h⟩ := if_none h
  obtain rfl := Option.some.inj h
  exact v_zret (pc := 14) O hz (congrArg Value.int c1) dX12_out_14
def f_X12_out_b9 (D : Dat) : Option (Int32 × Dat) :=
  f_X12_out_b14 1 D
set_option maxHeartbeats 4000000 in
theorem w_X12_out_b9 {X : Cx} {n nu c u : Nat} {K : Nat → Nat} {z : Int32 × Dat} (O : Ok X cX12_out RX12 (some .boolean) 0 0) (hm : wlm (xw X) = true) (hn : xn X = 3) (hz : Z0 X (Ax nu K c u)) (D : Dat) (h : f_X12_out_b9 D = some z) : V X (Q0 X n (Ax nu K c u) (some (.int z.1)) z.2) n (Ax nu K c u) D 9 [] [] := by
  unfold f_X12_out_b9 at h
  refine v_iconst (pc := 9) O dX12_out_9 ic_1 ?_
  refine v_goto (pc := 10) 14 O dX12_out_10 (by decide) ?_
  refine v_sub [] rfl ?_
  exact w_X12_out_b14 O hm hn hz 1 D h
def f_X12_out (x1 : Int32) (x2 : Int32) (D : Dat) : Option (Int32 × Dat) :=
  if x1 < 0 then (f_X12_out_b9 D) else (if x1 < x2 then (f_X12_out_b14 0 D) else (f_X12_out_b9 D))
set_option maxHeartbeats 4000000 in
theorem w_X12_out {X : Cx} {n nu c u : Nat} {K : Nat → Nat} (O : Ok X cX12_out RX12 (some .boolean) 0 0) (hm : wlm (xw X) = true) (hn : xn X = 3) (hz : Z0 X (Ax nu K c u)) (x1 : Int32) (x2 : Int32) (D : Dat) {z : Int32 × Dat} (h : f_X12_out x1 x2 D = some z) : V X (Q0 X n (Ax nu K c u) (some (.int z.1)) z.2) n (Ax nu K c u) D 0 [(0, .ref (bo X + 207)), (1, .int x1), (2, .int x2)] [] := by
  unfold f_X12_out at h
  refine v_iload_n (pc := 0) O dX12_out_0 1 rfl ?_
  refine v_iflt (pc := 1) 9 O dX12_out_1 (by decide) (fun c2 => ?_) (fun c2 => ?_)
  · have h := (if_pos c2).symm.trans h
    refine v_sub [] rfl ?_
    exact w_X12_out_b9 O hm hn hz D h
  · have h := (if_neg c2).symm.trans h
    refine v_iload_n (pc := 4) O dX12_out_4 1 rfl ?_
    refine v_iload_n (pc := 5) O dX12_out_5 2 rfl ?_
    refine v_icmplt (pc := 6) 13 O dX12_out_6 (by decide) (fun c3 => ?_) (fun c3 => ?_)
    · have h := (if_pos c3).symm.trans h
      refine v_iconst (pc := 13) O dX12_out_13 ic_0 ?_
      refine v_sub [] rfl ?_
      exact w_X12_out_b14 O hm hn hz 0 D h
    · have h := (if_neg c3).symm.trans h
      refine v_sub [] rfl ?_
      exact w_X12_out_b9 O hm hn hz D h
theorem c_X12_out {l : Launch} {w : Wx} {n nu c u : Nat} {K : Nat → Nat} (hm : wlm w = true) {x1 : Int32} {x2 : Int32} {D : Dat} {z : Int32 × Dat} (h : f_X12_out x1 x2 D = some z) : C0 l w yX12_out cX12_out 3 (some .boolean) 0 0 [.ref (wb w + 207), .int x1, .int x2] n (Ax nu K c u) D (some (.int z.1)) z.2 :=
  C0.of (by decide) (Nat.le_of_ble_eq_true rfl) (fun X e1 e2 e3 hz O => by
  subst e1
  subst e2
  exact w_X12_out O hm e3 hz x1 x2 D h)
def f_X12_below_b29 (N : Nat) (D : Dat) : Option (Int32 × Dat) :=
  (f_X12_fail 1 D).bind (fun p1 => some (p1.1, p1.2))
set_option maxHeartbeats 4000000 in
theorem w_X12_below_b29 {X : Cx} {n nu c u : Nat} {K : Nat → Nat} {N : Nat} {z : Int32 × Dat} (O : Ok X cX12_below RX12 (some .int) 1 22) (hm : wlm (xw X) = true) (hn : xn X = 6) (hz : Z0 X (Ax nu K c u)) (D : Dat) (h : f_X12_below_b29 N D = some z) : V X (Q0 X n (Ax nu K c u) (some (.int z.1)) z.2) n (Ax nu K c u) D 29 [(0, .ref (bo X + 207))] [] := by
  unfold f_X12_below_b29 at h
  refine v_aload_n (pc := 29) O dX12_below_29 0 rfl ?_
  refine v_iconst (pc := 30) O dX12_below_30 ic_1 ?_
  obtain ⟨p1, e2, h⟩ := bind_some h
  refine v_callV (pc := 31) (a := 207) (As := [.int 1]) (rest := []) (r := (some (.int p1.1))) (D' := p1.2) O (bb0 hz) (c_X12_fail hm e2) mw_X12_fail im_X12_fail se_X12_fail ml_X12_190 kq_207 (by decide) rfl rfl rfl (by decide) (by decide) (Nat.le_of_ble_eq_true rfl) dX12_below_31 rfl rfl ?_
  obtain rfl := Option.some.inj h
  exact v_iret (pc := 34) O hz dX12_below_34
def f_X12_below_b172 (N : Nat) (rec_129 : Int32 → Int32 → Dat → Option (Int32 × Dat)) (rec_141 : Int32 → Int32 → Int32 → Dat → Option (Int32 × Dat)) (x4 : Int32) (x5 : Int32) (s0 : Int32) (s1 : Int32) (D : Dat) : Option (Int32 × Dat) :=
  rec_141 (s1 + s0) x4 (x5 + 1) D
set_option maxHeartbeats 4000000 in
theorem w_X12_below_b172 {X : Cx} {n nu c u : Nat} {K : Nat → Nat} {N : Nat} {rec_129 : Int32 → Int32 → Dat → Option (Int32 × Dat)} {rec_141 : Int32 → Int32 → Int32 → Dat → Option (Int32 × Dat)} {z : Int32 × Dat} (O : Ok X cX12_below RX12 (some .int) 1 22) (hm : wlm (xw X) = true) (hn : xn X = 6) (hz : Z0 X (Ax nu K c u)) (hrec_129 : ∀ (x3 : Int32) (x4 : Int32) (D : Dat), rec_129 x3 x4 D = some z → V X (Q0 X n (Ax nu K c u) (some (.int z.1)) z.2) n (Ax nu K c u) D 129 [(0, .ref (bo X + 207)), (3, .int x3), (4, .int x4)] []) (hrec_141 : ∀ (x3 : Int32) (x4 : Int32) (x5 : Int32) (D : Dat), rec_141 x3 x4 x5 D = some z → V X (Q0 X n (Ax nu K c u) (some (.int z.1)) z.2) n (Ax nu K c u) D 141 [(0, .ref (bo X + 207)), (3, .int x3), (4, .int x4), (5, .int x5)] []) (x4 : Int32) (x5 : Int32) (s0 : Int32) (s1 : Int32) (D : Dat) (h : f_X12_below_b172 N rec_129 rec_141 x4 x5 s0 s1 D = some z) : V X (Q0 X n (Ax nu K c u) (some (.int z.1)) z.2) n (Ax nu K c u) D 172 [(0, .ref (bo X + 207)), (4, .int x4), (5, .int x5)] [.int s0, .int s1] := by
  unfold f_X12_below_b172 at h
  refine v_iadd (pc := 172) O dX12_below_172 ?_
  refine v_istore_n (pc := 173) (lv' := [(3, .int (s1 + s0)), (0, .ref (bo X + 207)), (4, .int x4), (5, .int x5)]) O dX12_below_173 rfl (by rw [hn]; decide) rfl ?_
  refine v_iinc (pc := 174) (lv' := [(5, .int (x5 + 1)), (3, .int (s1 + s0)), (0, .ref (bo X + 207)), (4, .int x4)]) O dX12_below_174 3 rfl (congrArg (fun q => x5 + q) ic_1) (by rw [hn]; decide) rfl ?_
  refine v_goto (pc := 177) 141 O dX12_below_177 (by decide) ?_
  refine v_sub [2, 1, 3, 0] rfl ?_
  exact hrec_141 (s1 + s0) x4 (x5 + 1) D h
def f_X12_below_b141 (N : Nat) (rec_129 : Int32 → Int32 → Dat → Option (Int32 × Dat)) : Nat → Int32 → Int32 → Int32 → Dat → Option (Int32 × Dat)
  | 0, _, _, _, _ => none
  | g + 1, x3, x4, x5, D => if (dI D 207 1) ≤ x5 then (rec_129 x3 (x4 + 1) D) else (if ((6 * x4) + x5) < 0 ∨ 36 ≤ (((6 * x4) + x5)).toNatClampNeg then none else (if (dI D 208 ((6 * x4) + x5).toNatClampNeg) = 0 then (f_X12_below_b172 N rec_129 f_X12_below_b141 N rec_129 g x4 x5 0 x3 D) else (f_X12_below_b172 N rec_129 f_X12_below_b141 N rec_129 g x4 x5 1 x3 D)))
set_option maxHeartbeats 4000000 in
theorem w_X12_below_b141 {X : Cx} {n nu c u : Nat} {K : Nat → Nat} {N : Nat} {rec_129 : Int32 → Int32 → Dat → Option (Int32 × Dat)} {z : Int32 × Dat} (O : Ok X cX12_below RX12 (some .int) 1 22) (hm : wlm (xw X) = true) (hn : xn X = 6) (hz : Z0 X (Ax nu K c u)) (hrec_129 : ∀ (x3 : Int32) (x4 : Int32) (D : Dat), rec_129 x3 x4 D = some z → V X (Q0 X n (Ax nu K c u) (some (.int z.1)) z.2) n (Ax nu K c u) D 129 [(0, .ref (bo X + 207)), (3, .int x3), (4, .int x4)] []) : ∀ (g : Nat) (x3 : Int32) (x4 : Int32) (x5 : Int32) (D : Dat), f_X12_below_b141 N rec_129 g x3 x4 x5 D = some z → V X (Q0 X n (Ax nu K c u) (some (.int z.1)) z.2) n (Ax nu K c u) D 141 [(0, .ref (bo X + 207)), (3, .int x3), (4, .int x4), (5, .int x5)] [] := by
  intro g
  induction g with
  | zero => intro x3 x4 x5 D h; exact absurd h (by simp [f_X12_below_b141])
  | succ g ih =>
    intro x3 x4 x5 D h
    rw [f_X12_below_b141] at h
    refine v_iload (pc := 141) O dX12_below_141 3 rfl ?_
    refine v_aload_n (pc := 143) O dX12_below_143 0 rfl ?_
    refine v_getI (pc := 144) (a := 207) O gf_X12_1 fl_X12_180 kq_207 dX12_below_144 ?_
    refine v_icmpge (pc := 147) 180 O dX12_below_147 (by decide) (fun c3 => ?_) (fun c3 => ?_)
    · have h := (if_pos c3).symm.trans h
      refine v_iinc (pc := 180) (lv' := [(4, .int (x4 + 1)), (0, .ref (bo X + 207)), (3, .int x3), (5, .int x5)]) O dX12_below_180 2 rfl (congrArg (fun q => x4 + q) ic_1) (by rw [hn]; decide) rfl ?_
      refine v_goto (pc := 183) 129 O dX12_below_183 (by decide) ?_
      refine v_sub [1, 2, 0] rfl ?_
      exact hrec_129 x3 (x4 + 1) D h
    · have h := (if_neg c3).symm.trans h
      refine v_iload_n (pc := 150) O dX12_below_150 1 rfl ?_
      refine v_aload_n (pc := 151) O dX12_below_151 0 rfl ?_
      refine v_getK (pc := 152) (a := 207) O hm gf_X12_2 fl_X12_7 kq_207 lk_207_2 dX12_below_152 ?_
      refine v_bipush (pc := 155) O dX12_below_155 bp_6 ?_
      refine v_iload (pc := 157) O dX12_below_157 2 rfl ?_
      refine v_imul (pc := 159) O dX12_below_159 ?_
      refine v_iload (pc := 160) O dX12_below_160 3 rfl ?_
      refine v_iadd (pc := 162) O dX12_below_162 ?_
      obtain ⟨c4, h⟩ := or_none h
      refine v_zald (pc := 163) (a := 208) O kq_208 (inq lq_208 c4) dX12_below_163 ?_
      refine v_ifeq (pc := 164) 171 O dX12_below_164 (by decide) (fun c5 => ?_) (fun c5 => ?_)
      · have h := (if_pos c5).symm.trans h
        refine v_iconst (pc := 171) O dX12_below_171 ic_0 ?_
        refine v_sub [0, 2, 3] rfl ?_
        exact w_X12_below_b172 O hm hn hz hrec_129 ih x4 x5 0 x3 D h
      · have h := (if_neg c5).symm.trans h
        refine v_iconst (pc := 167) O dX12_below_167 ic_1 ?_
        refine v_goto (pc := 168) 172 O dX12_below_168 (by decide) ?_
        refine v_sub [0, 2, 3] rfl ?_
        exact w_X12_below_b172 O hm hn hz hrec_129 ih x4 x5 1 x3 D h
def f_X12_below_b129 (N : Nat) : Nat → Int32 → Int32 → Dat → Option (Int32 × Dat)
  | 0, _, _, _ => none
  | g + 1, x3, x4, D => if (dI D 207 1) ≤ x4 then (some (x3, D)) else (f_X12_below_b141 N f_X12_below_b129 N g N x3 x4 0 D)
set_option maxHeartbeats 4000000 in
theorem w_X12_below_b129 {X : Cx} {n nu c u : Nat} {K : Nat → Nat} {N : Nat} {z : Int32 × Dat} (O : Ok X cX12_below RX12 (some .int) 1 22) (hm : wlm (xw X) = true) (hn : xn X = 6) (hz : Z0 X (Ax nu K c u)) : ∀ (g : Nat) (x3 : Int32) (x4 : Int32) (D : Dat), f_X12_below_b129 N g x3 x4 D = some z → V X (Q0 X n (Ax nu K c u) (some (.int z.1)) z.2) n (Ax nu K c u) D 129 [(0, .ref (bo X + 207)), (3, .int x3), (4, .int x4)] [] := by
  intro g
  induction g with
  | zero => intro x3 x4 D h; exact absurd h (by simp [f_X12_below_b129])
  | succ g ih =>
    intro x3 x4 D h
    rw [f_X12_below_b129] at h
    refine v_iload (pc := 129) O dX12_below_129 2 rfl ?_
    refine v_aload_n (pc := 131) O dX12_below_131 0 rfl ?_
    refine v_getI (pc := 132) (a := 207) O gf_X12_1 fl_X12_180 kq_207 dX12_below_132 ?_
    refine v_icmpge (pc := 135) 186 O dX12_below_135 (by decide) (fun c6 => ?_) (fun c6 => ?_)
    · have h := (if_pos c6).symm.trans h
      refine v_iload_n (pc := 186) O dX12_below_186 1 rfl ?_
      obtain rfl := Option.some.inj h
      exact v_iret (pc := 187) O hz dX12_below_187
    · have h := (if_neg c6).symm.trans h
      refine v_iconst (pc := 138) O dX12_below_138 ic_0 ?_
      refine v_istore (pc := 139) (lv' := [(5, .int 0), (0, .ref (bo X + 207)), (3, .int x3), (4, .int x4)]) O dX12_below_139 (by rw [hn]; decide) rfl ?_
      refine v_sub [1, 2, 3, 0] rfl ?_
      exact w_X12_below_b141 O hm hn hz ih N x3 x4 0 D h
def f_X12_below_b112 (N : Nat) (rec_50 : Int32 → Int32 → Int32 → Dat → Option (Int32 × Dat)) (rec_61 : Int32 → Int32 → Int32 → Int32 → Dat → Option (Int32 × Dat)) (x1 : Int32) (x2 : Int32) (x3 : Int32) (x4 : Int32) (D : Dat) : Option (Int32 × Dat) :=
  rec_61 x1 x2 x3 (x4 + 1) D
set_option maxHeartbeats 4000000 in
theorem w_X12_below_b112 {X : Cx} {n nu c u : Nat} {K : Nat → Nat} {N : Nat} {rec_50 : Int32 → Int32 → Int32 → Dat → Option (Int32 × Dat)} {rec_61 : Int32 → Int32 → Int32 → Int32 → Dat → Option (Int32 × Dat)} {z : Int32 × Dat} (O : Ok X cX12_below RX12 (some .int) 1 22) (hm : wlm (xw X) = true) (hn : xn X = 6) (hz : Z0 X (Ax nu K c u)) (hrec_50 : ∀ (x1 : Int32) (x2 : Int32) (x3 : Int32) (D : Dat), rec_50 x1 x2 x3 D = some z → V X (Q0 X n (Ax nu K c u) (some (.int z.1)) z.2) n (Ax nu K c u) D 50 [(0, .ref (bo X + 207)), (1, .int x1), (2, .int x2), (3, .int x3)] []) (hrec_61 : ∀ (x1 : Int32) (x2 : Int32) (x3 : Int32) (x4 : Int32) (D : Dat), rec_61 x1 x2 x3 x4 D = some z → V X (Q0 X n (Ax nu K c u) (some (.int z.1)) z.2) n (Ax nu K c u) D 61 [(0, .ref (bo X + 207)), (1, .int x1), (2, .int x2), (3, .int x3), (4, .int x4)] []) (x1 : Int32) (x2 : Int32) (x3 : Int32) (x4 : Int32) (D : Dat) (h : f_X12_below_b112 N rec_50 rec_61 x1 x2 x3 x4 D = some z) : V X (Q0 X n (Ax nu K c u) (some (.int z.1)) z.2) n (Ax nu K c u) D 112 [(0, .ref (bo X + 207)), (1, .int x1), (2, .int x2), (3, .int x3), (4, .int x4)] [] := by
  unfold f_X12_below_b112 at h
  refine v_iinc (pc := 112) (lv' := [(4, .int (x4 + 1)), (0, .ref (bo X + 207)), (1, .int x1), (2, .int x2), (3, .int x3)]) O dX12_below_112 4 rfl (congrArg (fun q => x4 + q) ic_1) (by rw [hn]; decide) rfl ?_
  refine v_goto (pc := 115) 61 O dX12_below_115 (by decide) ?_
  refine v_sub [1, 2, 3, 4, 0] rfl ?_
  exact hrec_61 x1 x2 x3 (x4 + 1) D h
def f_X12_below_b61 (N : Nat) (rec_50 : Int32 → Int32 → Int32 → Dat → Option (Int32 × Dat)) : Nat → Int32 → Int32 → Int32 → Int32 → Dat → Option (Int32 × Dat)
  | 0, _, _, _, _, _ => none
  | g + 1, x1, x2, x3, x4, D => if (dI D 207 1) ≤ x4 then (rec_50 x1 x2 (x3 + 1) D) else (if ((6 * x3) + x1) < 0 ∨ 36 ≤ (((6 * x3) + x1)).toNatClampNeg then none else (if (dI D 208 ((6 * x3) + x1).toNatClampNeg) = 0 then (f_X12_below_b112 N rec_50 f_X12_below_b61 N rec_50 g x1 x2 x3 x4 D) else (if ((6 * x2) + x4) < 0 ∨ 36 ≤ (((6 * x2) + x4)).toNatClampNeg then none else (if (dI D 208 ((6 * x2) + x4).toNatClampNeg) = 0 then (f_X12_below_b112 N rec_50 f_X12_below_b61 N rec_50 g x1 x2 x3 x4 D) else (if ((6 * x3) + x4) < 0 ∨ 36 ≤ (((6 * x3) + x4)).toNatClampNeg then none else (f_X12_below_b112 N rec_50 f_X12_below_b61 N rec_50 g x1 x2 x3 x4 (sI D 208 ((6 * x3) + x4).toNatClampNeg ((1 : Int32) &&& 1))))))))
set_option maxHeartbeats 4000000 in
theorem w_X12_below_b61 {X : Cx} {n nu c u : Nat} {K : Nat → Nat} {N : Nat} {rec_50 : Int32 → Int32 → Int32 → Dat → Option (Int32 × Dat)} {z : Int32 × Dat} (O : Ok X cX12_below RX12 (some .int) 1 22) (hm : wlm (xw X) = true) (hn : xn X = 6) (hz : Z0 X (Ax nu K c u)) (hrec_50 : ∀ (x1 : Int32) (x2 : Int32) (x3 : Int32) (D : Dat), rec_50 x1 x2 x3 D = some z → V X (Q0 X n (Ax nu K c u) (some (.int z.1)) z.2) n (Ax nu K c u) D 50 [(0, .ref (bo X + 207)), (1, .int x1), (2, .int x2), (3, .int x3)] []) : ∀ (g : Nat) (x1 : Int32) (x2 : Int32) (x3 : Int32) (x4 : Int32) (D : Dat), f_X12_below_b61 N rec_50 g x1 x2 x3 x4 D = some z → V X (Q0 X n (Ax nu K c u) (some (.int z.1)) z.2) n (Ax nu K c u) D 61 [(0, .ref (bo X + 207)), (1, .int x1), (2, .int x2), (3, .int x3), (4, .int x4)] [] := by
  intro g
  induction g with
  | zero => intro x1 x2 x3 x4 D h; exact absurd h (by simp [f_X12_below_b61])
  | succ g ih =>
    intro x1 x2 x3 x4 D h
    rw [f_X12_below_b61] at h
    refine v_iload (pc := 61) O dX12_below_61 4 rfl ?_
    refine v_aload_n (pc := 63) O dX12_below_63 0 rfl ?_
    refine v_getI (pc := 64) (a := 207) O gf_X12_1 fl_X12_180 kq_207 dX12_below_64 ?_
    refine v_icmpge (pc := 67) 118 O dX12_below_67 (by decide) (fun c7 => ?_) (fun c7 => ?_)
    · have h := (if_pos c7).symm.trans h
      refine v_iinc (pc := 118) (lv' := [(3, .int (x3 + 1)), (0, .ref (bo X + 207)), (1, .int x1), (2, .int x2), (4, .int x4)]) O dX12_below_118 3 rfl (congrArg (fun q => x3 + q) ic_1) (by rw [hn]; decide) rfl ?_
      refine v_goto (pc := 121) 50 O dX12_below_121 (by decide) ?_
      refine v_sub [1, 2, 3, 0] rfl ?_
      exact hrec_50 x1 x2 (x3 + 1) D h
    · have h := (if_neg c7).symm.trans h
      refine v_aload_n (pc := 70) O dX12_below_70 0 rfl ?_
      refine v_getK (pc := 71) (a := 207) O hm gf_X12_2 fl_X12_7 kq_207 lk_207_2 dX12_below_71 ?_
      refine v_bipush (pc := 74) O dX12_below_74 bp_6 ?_
      refine v_iload_n (pc := 76) O dX12_below_76 3 rfl ?_
      refine v_imul (pc := 77) O dX12_below_77 ?_
      refine v_iload_n (pc := 78) O dX12_below_78 1 rfl ?_
      refine v_iadd (pc := 79) O dX12_below_79 ?_
      obtain ⟨c8, h⟩ := or_none h
      refine v_zald (pc := 80) (a := 208) O kq_208 (inq lq_208 c8) dX12_below_80 ?_
      refine v_ifeq (pc := 81) 112 O dX12_below_81 (by decide) (fun c9 => ?_) (fun c9 => ?_)
      · have h := (if_pos c9).symm.trans h
        refine v_sub [0, 1, 2, 3, 4] rfl ?_
        exact w_X12_below_b112 O hm hn hz hrec_50 ih x1 x2 x3 x4 D h
      · have h := (if_neg c9).symm.trans h
        refine v_aload_n (pc := 84) O dX12_below_84 0 rfl ?_
        refine v_getK (pc := 85) (a := 207) O hm gf_X12_2 fl_X12_7 kq_207 lk_207_2 dX12_below_85 ?_
        refine v_bipush (pc := 88) O dX12_below_88 bp_6 ?_
        refine v_iload_n (pc := 90) O dX12_below_90 2 rfl ?_
        refine v_imul (pc := 91) O dX12_below_91 ?_
        refine v_iload (pc := 92) O dX12_below_92 4 rfl ?_
        refine v_iadd (pc := 94) O dX12_below_94 ?_
        obtain ⟨c10, h⟩ := or_none h
        refine v_zald (pc := 95) (a := 208) O kq_208 (inq lq_208 c10) dX12_below_95 ?_
        refine v_ifeq (pc := 96) 112 O dX12_below_96 (by decide) (fun c11 => ?_) (fun c11 => ?_)
        · have h := (if_pos c11).symm.trans h
          refine v_sub [0, 1, 2, 3, 4] rfl ?_
          exact w_X12_below_b112 O hm hn hz hrec_50 ih x1 x2 x3 x4 D h
        · have h := (if_neg c11).symm.trans h
          refine v_aload_n (pc := 99) O dX12_below_99 0 rfl ?_
          refine v_getK (pc := 100) (a := 207) O hm gf_X12_2 fl_X12_7 kq_207 lk_207_2 dX12_below_100 ?_
          refine v_bipush (pc := 103) O dX12_below_103 bp_6 ?_
          refine v_iload_n (pc := 105) O dX12_below_105 3 rfl ?_
          refine v_imul (pc := 106) O dX12_below_106 ?_
          refine v_iload (pc := 107) O dX12_below_107 4 rfl ?_
          refine v_iadd (pc := 109) O dX12_below_109 ?_
          refine v_iconst (pc := 110) O dX12_below_110 ic_1 ?_
          obtain ⟨c12, h⟩ := or_none h
          refine v_zast (pc := 111) (a := 208) O kq_208 (inq lq_208 c12) dX12_below_111 ?_
          refine v_sub [0, 1, 2, 3, 4] rfl ?_
          exact w_X12_below_b112 O hm hn hz hrec_50 ih x1 x2 x3 x4 (sI D 208 ((6 * x3) + x4).toNatClampNeg ((1 : Int32) &&& 1)) h
def f_X12_below_b50 (N : Nat) : Nat → Int32 → Int32 → Int32 → Dat → Option (Int32 × Dat)
  | 0, _, _, _, _ => none
  | g + 1, x1, x2, x3, D => if (dI D 207 1) ≤ x3 then (f_X12_below_b129 N N 0 0 D) else (f_X12_below_b61 N f_X12_below_b50 N g N x1 x2 x3 0 D)
set_option maxHeartbeats 4000000 in
theorem w_X12_below_b50 {X : Cx} {n nu c u : Nat} {K : Nat → Nat} {N : Nat} {z : Int32 × Dat} (O : Ok X cX12_below RX12 (some .int) 1 22) (hm : wlm (xw X) = true) (hn : xn X = 6) (hz : Z0 X (Ax nu K c u)) : ∀ (g : Nat) (x1 : Int32) (x2 : Int32) (x3 : Int32) (D : Dat), f_X12_below_b50 N g x1 x2 x3 D = some z → V X (Q0 X n (Ax nu K c u) (some (.int z.1)) z.2) n (Ax nu K c u) D 50 [(0, .ref (bo X + 207)), (1, .int x1), (2, .int x2), (3, .int x3)] [] := by
  intro g
  induction g with
  | zero => intro x1 x2 x3 D h; exact absurd h (by simp [f_X12_below_b50])
  | succ g ih =>
    intro x1 x2 x3 D h
    rw [f_X12_below_b50] at h
    refine v_iload_n (pc := 50) O dX12_below_50 3 rfl ?_
    refine v_aload_n (pc := 51) O dX12_below_51 0 rfl ?_
    refine v_getI (pc := 52) (a := 207) O gf_X12_1 fl_X12_180 kq_207 dX12_below_52 ?_
    refine v_icmpge (pc := 55) 124 O dX12_below_55 (by decide) (fun c13 => ?_) (fun c13 => ?_)
    · have h := (if_pos c13).symm.trans h
      refine v_iconst (pc := 124) O dX12_below_124 ic_0 ?_
      refine v_istore_n (pc := 125) (lv' := [(3, .int 0), (0, .ref (bo X + 207)), (1, .int x1), (2, .int x2)]) O dX12_below_125 rfl (by rw [hn]; decide) rfl ?_
      refine v_iconst (pc := 126) O dX12_below_126 ic_0 ?_
      refine v_istore (pc := 127) (lv' := [(4, .int 0), (3, .int 0), (0, .ref (bo X + 207)), (1, .int x1), (2, .int x2)]) O dX12_below_127 (by rw [hn]; decide) rfl ?_
      refine v_sub [2, 1, 0] rfl ?_
      exact w_X12_below_b129 O hm hn hz N 0 0 D h
    · have h := (if_neg c13).symm.trans h
      refine v_iconst (pc := 58) O dX12_below_58 ic_0 ?_
      refine v_istore (pc := 59) (lv' := [(4, .int 0), (0, .ref (bo X + 207)), (1, .int x1), (2, .int x2), (3, .int x3)]) O dX12_below_59 (by rw [hn]; decide) rfl ?_
      refine v_sub [1, 2, 3, 4, 0] rfl ?_
      exact w_X12_below_b61 O hm hn hz ih N x1 x2 x3 0 D h
def f_X12_below (N : Nat) (x1 : Int32) (x2 : Int32) (D : Dat) : Option (Int32 × Dat) :=
  (f_X12_out x1 (dI (sI D 207 0 0) 207 1) (sI D 207 0 0)).bind (fun p14 => if p14.1 = 0 then ((f_X12_out x2 (dI p14.2 207 1) p14.2).bind (fun p17 => if p17.1 = 0 then (if (dI p17.2 207 5) = 0 then (f_X12_below_b50 N N x1 x2 0 p17.2) else ((f_X12_fail 2 p17.2).bind (fun p21 => some (p21.1, p21.2)))) else (f_X12_below_b29 N p17.2))) else (f_X12_below_b29 N p14.2))
set_option maxHeartbeats 4000000 in
theorem w_X12_below {X : Cx} {n nu c u : Nat} {K : Nat → Nat} {N : Nat} (O : Ok X cX12_below RX12 (some .int) 1 22) (hm : wlm (xw X) = true) (hn : xn X = 6) (hz : Z0 X (Ax nu K c u)) (x1 : Int32) (x2 : Int32) (D : Dat) {z : Int32 × Dat} (h : f_X12_below N x1 x2 D = some z) : V X (Q0 X n (Ax nu K c u) (some (.int z.1)) z.2) n (Ax nu K c u) D 0 [(0, .ref (bo X + 207)), (1, .int x1), (2, .int x2)] [] := by
  unfold f_X12_below at h
  refine v_aload_n (pc := 0) O dX12_below_0 0 rfl ?_
  refine v_iconst (pc := 1) O dX12_below_1 ic_0 ?_
  refine v_putI (pc := 2) (a := 207) O pf_X12_0 fl_X12_183 kq_207 dX12_below_2 ?_
  refine v_aload_n (pc := 5) O dX12_below_5 0 rfl ?_
  refine v_iload_n (pc := 6) O dX12_below_6 1 rfl ?_
  refine v_aload_n (pc := 7) O dX12_below_7 0 rfl ?_
  refine v_getI (pc := 8) (a := 207) O gf_X12_1 fl_X12_180 kq_207 dX12_below_8 ?_
  obtain ⟨p14, e15, h⟩ := bind_some h
  refine v_callV (pc := 11) (a := 207) (As := [.int x1, .int (dI (sI D 207 0 0) 207 1)]) (rest := []) (r := (some (.int p14.1))) (D' := p14.2) O (bb0 hz) (c_X12_out hm e15) mw_X12_out im_X12_out se_X12_out ml_X12_186 kq_207 (by decide) rfl rfl rfl (by decide) (by decide) (Nat.le_of_ble_eq_true rfl) dX12_below_11 rfl rfl ?_
  refine v_ifne (pc := 14) 29 O dX12_below_14 (by decide) (fun c16 => ?_) (fun c16 => ?_)
  · have h := (if_neg c16).symm.trans h
    refine v_sub [0] rfl ?_
    exact w_X12_below_b29 O hm hn hz p14.2 h
  · have h := (if_pos c16).symm.trans h
    refine v_aload_n (pc := 17) O dX12_below_17 0 rfl ?_
    refine v_iload_n (pc := 18) O dX12_below_18 2 rfl ?_
    refine v_aload_n (pc := 19) O dX12_below_19 0 rfl ?_
    refine v_getI (pc := 20) (a := 207) O gf_X12_1 fl_X12_180 kq_207 dX12_below_20 ?_
    obtain ⟨p17, e18, h⟩ := bind_some h
    refine v_callV (pc := 23) (a := 207) (As := [.int x2, .int (dI p14.2 207 1)]) (rest := []) (r := (some (.int p17.1))) (D' := p17.2) O (bb0 hz) (c_X12_out hm e18) mw_X12_out im_X12_out se_X12_out ml_X12_186 kq_207 (by decide) rfl rfl rfl (by decide) (by decide) (Nat.le_of_ble_eq_true rfl) dX12_below_23 rfl rfl ?_
    refine v_ifeq (pc := 26) 35 O dX12_below_26 (by decide) (fun c19 => ?_) (fun c19 => ?_)
    · have h := (if_pos c19).symm.trans h
      refine v_aload_n (pc := 35) O dX12_below_35 0 rfl ?_
      refine v_getI (pc := 36) (a := 207) O gf_X12_5 fl_X12_194 kq_207 dX12_below_36 ?_
      refine v_ifeq (pc := 39) 48 O dX12_below_39 (by decide) (fun c20 => ?_) (fun c20 => ?_)
      · have h := (if_pos c20).symm.trans h
        refine v_iconst (pc := 48) O dX12_below_48 ic_0 ?_
        refine v_istore_n (pc := 49) (lv' := [(3, .int 0), (0, .ref (bo X + 207)), (1, .int x1), (2, .int x2)]) O dX12_below_49 rfl (by rw [hn]; decide) rfl ?_
        refine v_sub [1, 2, 3, 0] rfl ?_
        exact w_X12_below_b50 O hm hn hz N x1 x2 0 p17.2 h
      · have h := (if_neg c20).symm.trans h
        refine v_aload_n (pc := 42) O dX12_below_42 0 rfl ?_
        refine v_iconst (pc := 43) O dX12_below_43 ic_2 ?_
        obtain ⟨p21, e22, h⟩ := bind_some h
        refine v_callV (pc := 44) (a := 207) (As := [.int 2]) (rest := []) (r := (some (.int p21.1))) (D' := p21.2) O (bb0 hz) (c_X12_fail hm e22) mw_X12_fail im_X12_fail se_X12_fail ml_X12_190 kq_207 (by decide) rfl rfl rfl (by decide) (by decide) (Nat.le_of_ble_eq_true rfl) dX12_below_44 rfl rfl ?_
        obtain rfl := Option.some.inj h
        exact v_iret (pc := 47) O hz dX12_below_47
    · have h := (if_neg c19).symm.trans h
      refine v_sub [0] rfl ?_
      exact w_X12_below_b29 O hm hn hz p17.2 h
theorem c_X12_below {l : Launch} {w : Wx} {n nu c u : Nat} {K : Nat → Nat} {N : Nat} (hm : wlm w = true) {x1 : Int32} {x2 : Int32} {D : Dat} {z : Int32 × Dat} (h : f_X12_below N x1 x2 D = some z) : C0 l w yX12_below cX12_below 6 (some .int) 1 22 [.ref (wb w + 207), .int x1, .int x2] n (Ax nu K c u) D (some (.int z.1)) z.2 :=
  C0.of (by decide) (Nat.le_of_ble_eq_true rfl) (fun X e1 e2 e3 hz O => by
  subst e1
  subst e2
  exact w_X12_below O hm e3 hz x1 x2 D h)
def f_X12_rank_b49 (s0 : Int32) (D : Dat) : Option (Int32 × Dat) :=
  some (s0, D)
set_option maxHeartbeats 4000000 in
theorem w_X12_rank_b49 {X : Cx} {n nu c u : Nat} {K : Nat → Nat} {z : Int32 × Dat} (O : Ok X cX12_rank RX12 (some .int) 0 0) (hm : wlm (xw X) = true) (hn : xn X = 2) (hz : Z0 X (Ax nu K c u)) (s0 : Int32) (D : Dat) (h : f_X12_rank_b49 s0 D = some z) : V X (Q0 X n (Ax nu K c u) (some (.int z.1)) z.2) n (Ax nu K c u) D 49 [] [.int s0] := by
  unfold f_X12_rank_b49 at h
  obtain rfl := Option.some.inj h
  exact v_iret (pc := 49) O hz dX12_rank_49
def f_X12_rank_b12 (D : Dat) : Option (Int32 × Dat) :=
  f_X12_rank_b49 3 D
set_option maxHeartbeats 4000000 in
theorem w_X12_rank_b12 {X : Cx} {n nu c u : Nat} {K : Nat → Nat} {z : Int32 × Dat} (O : Ok X cX12_rank RX12 (some .int) 0 0) (hm : wlm (xw X) = true) (hn : xn X = 2) (hz : Z0 X (Ax nu K c u)) (D : Dat) (h : f_X12_rank_b12 D = some z) : V X (Q0 X n (Ax nu K c u) (some (.int z.1)) z.2) n (Ax nu K c u) D 12 [] [] := by
  unfold f_X12_rank_b12 at h
  refine v_iconst (pc := 12) O dX12_rank_12 ic_3 ?_
  refine v_goto (pc := 13) 49 O dX12_rank_13 (by decide) ?_
  refine v_sub [] rfl ?_
  exact w_X12_rank_b49 O hm hn hz 3 D h
def f_X12_rank_b28 (D : Dat) : Option (Int32 × Dat) :=
  f_X12_rank_b49 2 D
set_option maxHeartbeats 4000000 in
theorem w_X12_rank_b28 {X : Cx} {n nu c u : Nat} {K : Nat → Nat} {z : Int32 × Dat} (O : Ok X cX12_rank RX12 (some .int) 0 0) (hm : wlm (xw X) = true) (hn : xn X = 2) (hz : Z0 X (Ax nu K c u)) (D : Dat) (h : f_X12_rank_b28 D = some z) : V X (Q0 X n (Ax nu K c u) (some (.int z.1)) z.2) n (Ax nu K c u) D 28 [] [] := by
  unfold f_X12_rank_b28 at h
  refine v_iconst (pc := 28) O dX12_rank_28 ic_2 ?_
  refine v_goto (pc := 29) 49 O dX12_rank_29 (by decide) ?_
  refine v_sub [] rfl ?_
  exact w_X12_rank_b49 O hm hn hz 2 D h
def f_X12_rank_b44 (D : Dat) : Option (Int32 × Dat) :=
  f_X12_rank_b49 1 D
set_option maxHeartbeats 4000000 in
theorem w_X12_rank_b44 {X : Cx} {n nu c u : Nat} {K : Nat → Nat} {z : Int32 × Dat} (O : Ok X cX12_rank RX12 (some .int) 0 0) (hm : wlm (xw X) = true) (hn : xn X = 2) (hz : Z0 X (Ax nu K c u)) (D : Dat) (h : f_X12_rank_b44 D = some z) : V X (Q0 X n (Ax nu K c u) (some (.int z.1)) z.2) n (Ax nu K c u) D 44 [] [] := by
  unfold f_X12_rank_b44 at h
  refine v_iconst (pc := 44) O dX12_rank_44 ic_1 ?_
  refine v_goto (pc := 45) 49 O dX12_rank_45 (by decide) ?_
  refine v_sub [] rfl ?_
  exact w_X12_rank_b49 O hm hn hz 1 D h
def f_X12_rank (x1 : Int32) (D : Dat) : Option (Int32 × Dat) :=
  if x1 = 42 then (f_X12_rank_b12 D) else (if x1 = 47 then (f_X12_rank_b12 D) else (if x1 = 43 then (f_X12_rank_b28 D) else (if x1 = 45 then (f_X12_rank_b28 D) else (if x1 = 60 then (f_X12_rank_b44 D) else (if x1 = 61 then (f_X12_rank_b44 D) else (f_X12_rank_b49 0 D))))))
set_option maxHeartbeats 4000000 in
theorem w_X12_rank {X : Cx} {n nu c u : Nat} {K : Nat → Nat} (O : Ok X cX12_rank RX12 (some .int) 0 0) (hm : wlm (xw X) = true) (hn : xn X = 2) (hz : Z0 X (Ax nu K c u)) (x1 : Int32) (D : Dat) {z : Int32 × Dat} (h : f_X12_rank x1 D = some z) : V X (Q0 X n (Ax nu K c u) (some (.int z.1)) z.2) n (Ax nu K c u) D 0 [(0, .ref (bo X + 207)), (1, .int x1)] [] := by
  unfold f_X12_rank at h
  refine v_iload_n (pc := 0) O dX12_rank_0 1 rfl ?_
  refine v_bipush (pc := 1) O dX12_rank_1 bp_42 ?_
  refine v_icmpeq (pc := 3) 12 O dX12_rank_3 (by decide) (fun c1 => ?_) (fun c1 => ?_)
  · have h := (if_pos c1).symm.trans h
    refine v_sub [] rfl ?_
    exact w_X12_rank_b12 O hm hn hz D h
  · have h := (if_neg c1).symm.trans h
    refine v_iload_n (pc := 6) O dX12_rank_6 1 rfl ?_
    refine v_bipush (pc := 7) O dX12_rank_7 bp_47 ?_
    refine v_icmpne (pc := 9) 16 O dX12_rank_9 (by decide) (fun c2 => ?_) (fun c2 => ?_)
    · have h := (if_neg c2).symm.trans h
      refine v_iload_n (pc := 16) O dX12_rank_16 1 rfl ?_
      refine v_bipush (pc := 17) O dX12_rank_17 bp_43 ?_
      refine v_icmpeq (pc := 19) 28 O dX12_rank_19 (by decide) (fun c3 => ?_) (fun c3 => ?_)
      · have h := (if_pos c3).symm.trans h
        refine v_sub [] rfl ?_
        exact w_X12_rank_b28 O hm hn hz D h
      · have h := (if_neg c3).symm.trans h
        refine v_iload_n (pc := 22) O dX12_rank_22 1 rfl ?_
        refine v_bipush (pc := 23) O dX12_rank_23 bp_45 ?_
        refine v_icmpne (pc := 25) 32 O dX12_rank_25 (by decide) (fun c4 => ?_) (fun c4 => ?_)
        · have h := (if_neg c4).symm.trans h
          refine v_iload_n (pc := 32) O dX12_rank_32 1 rfl ?_
          refine v_bipush (pc := 33) O dX12_rank_33 bp_60 ?_
          refine v_icmpeq (pc := 35) 44 O dX12_rank_35 (by decide) (fun c5 => ?_) (fun c5 => ?_)
          · have h := (if_pos c5).symm.trans h
            refine v_sub [] rfl ?_
            exact w_X12_rank_b44 O hm hn hz D h
          · have h := (if_neg c5).symm.trans h
            refine v_iload_n (pc := 38) O dX12_rank_38 1 rfl ?_
            refine v_bipush (pc := 39) O dX12_rank_39 bp_61 ?_
            refine v_icmpne (pc := 41) 48 O dX12_rank_41 (by decide) (fun c6 => ?_) (fun c6 => ?_)
            · have h := (if_neg c6).symm.trans h
              refine v_iconst (pc := 48) O dX12_rank_48 ic_0 ?_
              refine v_sub [] rfl ?_
              exact w_X12_rank_b49 O hm hn hz 0 D h
            · have h := (if_pos c6).symm.trans h
              refine v_sub [] rfl ?_
              exact w_X12_rank_b44 O hm hn hz D h
        · have h := (if_pos c4).symm.trans h
          refine v_sub [] rfl ?_
          exact w_X12_rank_b28 O hm hn hz D h
    · have h := (if_pos c2).symm.trans h
      refine v_sub [] rfl ?_
      exact w_X12_rank_b12 O hm hn hz D h
theorem c_X12_rank {l : Launch} {w : Wx} {n nu c u : Nat} {K : Nat → Nat} (hm : wlm w = true) {x1 : Int32} {D : Dat} {z : Int32 × Dat} (h : f_X12_rank x1 D = some z) : C0 l w yX12_rank cX12_rank 2 (some .int) 0 0 [.ref (wb w + 207), .int x1] n (Ax nu K c u) D (some (.int z.1)) z.2 :=
  C0.of (by decide) (Nat.le_of_ble_eq_true rfl) (fun X e1 e2 e3 hz O => by
  subst e1
  subst e2
  exact w_X12_rank O hm e3 hz x1 D h)
def f_X12_join (x1 : Int32) (x2 : Int32) (D : Dat) : Option (Int32 × Dat) :=
  if ((6 * x1) + x2) < 0 ∨ 36 ≤ (((6 * x1) + x2)).toNatClampNeg then none else (some ((dI D 209 ((6 * x1) + x2).toNatClampNeg), D))
set_option maxHeartbeats 4000000 in
theorem w_X12_join {X : Cx} {n nu c u : Nat} {K : Nat → Nat} (O : Ok X cX12_join RX12 (some .int) 0 0) (hm : wlm (xw X) = true) (hn : xn X = 3) (hz : Z0 X (Ax nu K c u)) (x1 : Int32) (x2 : Int32) (D : Dat) {z : Int32 × Dat} (h : f_X12_join x1 x2 D = some z) : V X (Q0 X n (Ax nu K c u) (some (.int z.1)) z.2) n (Ax nu K c u) D 0 [(0, .ref (bo X + 207)), (1, .int x1), (2, .int x2)] [] := by
  unfold f_X12_join at h
  refine v_aload_n (pc := 0) O dX12_join_0 0 rfl ?_
  refine v_getK (pc := 1) (a := 207) O hm gf_X12_3 fl_X12_13 kq_207 lk_207_3 dX12_join_1 ?_
  refine v_bipush (pc := 4) O dX12_join_4 bp_6 ?_
  refine v_iload_n (pc := 6) O dX12_join_6 1 rfl ?_
  refine v_imul (pc := 7) O dX12_join_7 ?_
  refine v_iload_n (pc := 8) O dX12_join_8 2 rfl ?_
  refine v_iadd (pc := 9) O dX12_join_9 ?_
  obtain ⟨c1, h⟩ := or_none h
  refine v_iald (pc := 10) (a := 209) O kq_209 (inq lq_209 c1) dX12_join_10 ?_
  obtain rfl := Option.some.inj h
  exact v_iret (pc := 11) O hz dX12_join_11
theorem c_X12_join {l : Launch} {w : Wx} {n nu c u : Nat} {K : Nat → Nat} (hm : wlm w = true) {x1 : Int32} {x2 : Int32} {D : Dat} {z : Int32 × Dat} (h : f_X12_join x1 x2 D = some z) : C0 l w yX12_join cX12_join 3 (some .int) 0 0 [.ref (wb w + 207), .int x1, .int x2] n (Ax nu K c u) D (some (.int z.1)) z.2 :=
  C0.of (by decide) (Nat.le_of_ble_eq_true rfl) (fun X e1 e2 e3 hz O => by
  subst e1
  subst e2
  exact w_X12_join O hm e3 hz x1 x2 D h)
def f_X2_has_b17 (s0 : Int32) (D : Dat) : Option (Int32 × Dat) :=
  if s0 &&& 1 = s0 then some (s0, D) else none
set_option maxHeartbeats 4000000 in
theorem w_X2_has_b17 {X : Cx} {n nu c u : Nat} {K : Nat → Nat} {z : Int32 × Dat} (O : Ok X cX2_has RX2 (some .boolean) 0 0) (hm : wlm (xw X) = true) (hn : xn X = 2) (hz : Z0 X (Ax nu K c u)) (s0 : Int32) (D : Dat) (h : f_X2_has_b17 s0 D = some z) : V X (Q0 X n (Ax nu K c u) (some (.int z.1)) z.2) n (Ax nu K c u) D 17 [] [.int s0] := by
  unfold f_X2_has_b17 at h
  obtain ⟨c1, h⟩ := if_none h
  obtain rfl := Option.some.inj h
  exact v_zret (pc := 17) O hz (congrArg Value.int c1) dX2_has_17
def f_X2_has_b16 (D : Dat) : Option (Int32 × Dat) :=
  f_X2_has_b17 0 D
set_option maxHeartbeats 4000000 in
theorem w_X2_has_b16 {X : Cx} {n nu c u : Nat} {K : Nat → Nat} {z : Int32 × Dat} (O : Ok X cX2_has RX2 (some .boolean) 0 0) (hm : wlm (xw X) = true) (hn : xn X = 2) (hz : Z0 X (Ax nu K c u)) (D : Dat) (h : f_X2_has_b16 D = some z) : V X (Q0 X n (Ax nu K c u) (some (.int z.1)) z.2) n (Ax nu K c u) D 16 [] [] := by
  unfold f_X2_has_b16 at h
  refine v_iconst (pc := 16) O dX2_has_16 ic_0 ?_
  refine v_sub [] rfl ?_
  exact w_X2_has_b17 O hm hn hz 0 D h
def f_X2_has (x1 : Int32) (D : Dat) : Option (Int32 × Dat) :=
  if x1 < 0 then (f_X2_has_b16 D) else (if (dI D 1 0) ≤ x1 then (f_X2_has_b16 D) else (f_X2_has_b17 1 D))
set_option maxHeartbeats 4000000 in
theorem w_X2_has {X : Cx} {n nu c u : Nat} {K : Nat → Nat} (O : Ok X cX2_has RX2 (some .boolean) 0 0) (hm : wlm (xw X) = true) (hn : xn X = 2) (hz : Z0 X (Ax nu K c u)) (x1 : Int32) (D : Dat) {z : Int32 × Dat} (h : f_X2_has x1 D = some z) : V X (Q0 X n (Ax nu K c u) (some (.int z.1)) z.2) n (Ax nu K c u) D 0 [(0, .ref (bo X + 1)), (1, .int x1)] [] := by
  unfold f_X2_has at h
  refine v_iload_n (pc := 0) O dX2_has_0 1 rfl ?_
  refine v_iflt (pc := 1) 16 O dX2_has_1 (by decide) (fun c2 => ?_) (fun c2 => ?_)
  · have h := (if_pos c2).symm.trans h
    refine v_sub [] rfl ?_
    exact w_X2_has_b16 O hm hn hz D h
  · have h := (if_neg c2).symm.trans h
    refine v_iload_n (pc := 4) O dX2_has_4 1 rfl ?_
    refine v_aload_n (pc := 5) O dX2_has_5 0 rfl ?_
    refine v_getI (pc := 6) (a := 1) O gf_X2_0 fl_X2_9 kq_1 dX2_has_6 ?_
    refine v_icmpge (pc := 9) 16 O dX2_has_9 (by decide) (fun c3 => ?_) (fun c3 => ?_)
    · have h := (if_pos c3).symm.trans h
      refine v_sub [] rfl ?_
      exact w_X2_has_b16 O hm hn hz D h
    · have h := (if_neg c3).symm.trans h
      refine v_iconst (pc := 12) O dX2_has_12 ic_1 ?_
      refine v_goto (pc := 13) 17 O dX2_has_13 (by decide) ?_
      refine v_sub [] rfl ?_
      exact w_X2_has_b17 O hm hn hz 1 D h
theorem c_X2_has {l : Launch} {w : Wx} {n nu c u : Nat} {K : Nat → Nat} (hm : wlm w = true) {x1 : Int32} {D : Dat} {z : Int32 × Dat} (h : f_X2_has x1 D = some z) : C0 l w yX2_has cX2_has 2 (some .boolean) 0 0 [.ref (wb w + 1), .int x1] n (Ax nu K c u) D (some (.int z.1)) z.2 :=
  C0.of (by decide) (Nat.le_of_ble_eq_true rfl) (fun X e1 e2 e3 hz O => by
  subst e1
  subst e2
  exact w_X2_has O hm e3 hz x1 D h)
def f_X2_leads_b35 (nu : Nat) (K : Nat → Nat) (s0 : Int32) (D : Dat) : Option (Int32 × Dat) :=
  if s0 &&& 1 = s0 then some (s0, D) else none
set_option maxHeartbeats 4000000 in
theorem w_X2_leads_b35 {X : Cx} {n nu c u : Nat} {K : Nat → Nat} {z : Int32 × Dat} (O : Ok X cX2_leads RX2 (some .boolean) 1 21) (hm : wlm (xw X) = true) (hn : xn X = 3) (hz : Z0 X (Ax nu K c u)) (s0 : Int32) (D : Dat) (h : f_X2_leads_b35 nu K s0 D = some z) : V X (Q0 X n (Ax nu K c u) (some (.int z.1)) z.2) n (Ax nu K c u) D 35 [] [.int s0] := by
  unfold f_X2_leads_b35 at h
  obtain ⟨c1, h⟩ := if_none h
  obtain rfl := Option.some.inj h
  exact v_zret (pc := 35) O hz (congrArg Value.int c1) dX2_leads_35
def f_X2_leads_b34 (nu : Nat) (K : Nat → Nat) (D : Dat) : Option (Int32 × Dat) :=
  f_X2_leads_b35 nu K 0 D
set_option maxHeartbeats 4000000 in
theorem w_X2_leads_b34 {X : Cx} {n nu c u : Nat} {K : Nat → Nat} {z : Int32 × Dat} (O : Ok X cX2_leads RX2 (some .boolean) 1 21) (hm : wlm (xw X) = true) (hn : xn X = 3) (hz : Z0 X (Ax nu K c u)) (D : Dat) (h : f_X2_leads_b34 nu K D = some z) : V X (Q0 X n (Ax nu K c u) (some (.int z.1)) z.2) n (Ax nu K c u) D 34 [] [] := by
  unfold f_X2_leads_b34 at h
  refine v_iconst (pc := 34) O dX2_leads_34 ic_0 ?_
  refine v_sub [] rfl ?_
  exact w_X2_leads_b35 O hm hn hz 0 D h
def f_X2_leads (nu : Nat) (K : Nat → Nat) (x1 : Int32) (x2 : Int32) (D : Dat) : Option (Int32 × Dat) :=
  (f_X2_has x1 D).bind (fun p2 => if p2.1 = 0 then (f_X2_leads_b34 nu K p2.2) else ((f_X2_has x2 p2.2).bind (fun p5 => if p5.1 = 0 then (f_X2_leads_b34 nu K p5.2) else (if x1 < 0 ∨ nu ≤ (x1).toNatClampNeg then none else (if (((dI p5.2 2 (x1).toNatClampNeg) >>> (x2 &&& 31)) &&& 1) = 1 then (f_X2_leads_b35 nu K 1 p5.2) else (f_X2_leads_b34 nu K p5.2))))))
set_option maxHeartbeats 4000000 in
theorem w_X2_leads {X : Cx} {n nu c u : Nat} {K : Nat → Nat} (O : Ok X cX2_leads RX2 (some .boolean) 1 21) (hm : wlm (xw X) = true) (hn : xn X = 3) (hz : Z0 X (Ax nu K c u)) (x1 : Int32) (x2 : Int32) (D : Dat) {z : Int32 × Dat} (h : f_X2_leads nu K x1 x2 D = some z) : V X (Q0 X n (Ax nu K c u) (some (.int z.1)) z.2) n (Ax nu K c u) D 0 [(0, .ref (bo X + 1)), (1, .int x1), (2, .int x2)] [] := by
  unfold f_X2_leads at h
  refine v_aload_n (pc := 0) O dX2_leads_0 0 rfl ?_
  refine v_iload_n (pc := 1) O dX2_leads_1 1 rfl ?_
  obtain ⟨p2, e3, h⟩ := bind_some h
  refine v_callV (pc := 2) (a := 1) (As := [.int x1]) (rest := []) (r := (some (.int p2.1))) (D' := p2.2) O (bb0 hz) (c_X2_has hm e3) mw_X2_has im_X2_has se_X2_has ml_X2_26 kq_1 (by decide) rfl rfl rfl (by decide) (by decide) (Nat.le_of_ble_eq_true rfl) dX2_leads_2 rfl rfl ?_
  refine v_ifeq (pc := 5) 34 O dX2_leads_5 (by decide) (fun c4 => ?_) (fun c4 => ?_)
  · have h := (if_pos c4).symm.trans h
    refine v_sub [] rfl ?_
    exact w_X2_leads_b34 O hm hn hz p2.2 h
  · have h := (if_neg c4).symm.trans h
    refine v_aload_n (pc := 8) O dX2_leads_8 0 rfl ?_
    refine v_iload_n (pc := 9) O dX2_leads_9 2 rfl ?_
    obtain ⟨p5, e6, h⟩ := bind_some h
    refine v_callV (pc := 10) (a := 1) (As := [.int x2]) (rest := []) (r := (some (.int p5.1))) (D' := p5.2) O (bb0 hz) (c_X2_has hm e6) mw_X2_has im_X2_has se_X2_has ml_X2_26 kq_1 (by decide) rfl rfl rfl (by decide) (by decide) (Nat.le_of_ble_eq_true rfl) dX2_leads_10 rfl rfl ?_
    refine v_ifeq (pc := 13) 34 O dX2_leads_13 (by decide) (fun c7 => ?_) (fun c7 => ?_)
    · have h := (if_pos c7).symm.trans h
      refine v_sub [] rfl ?_
      exact w_X2_leads_b34 O hm hn hz p5.2 h
    · have h := (if_neg c7).symm.trans h
      refine v_aload_n (pc := 16) O dX2_leads_16 0 rfl ?_
      refine v_getK (pc := 17) (a := 1) O hm gf_X2_1 fl_X2_15 kq_1 lk_1_1 dX2_leads_17 ?_
      refine v_iload_n (pc := 20) O dX2_leads_20 1 rfl ?_
      obtain ⟨c8, h⟩ := or_none h
      refine v_iald (pc := 21) (a := 2) O kq_2 (inq lq_2 c8) dX2_leads_21 ?_
      refine v_iload_n (pc := 22) O dX2_leads_22 2 rfl ?_
      refine v_ishr (pc := 23) O dX2_leads_23 ?_
      refine v_iconst (pc := 24) O dX2_leads_24 ic_1 ?_
      refine v_iand (pc := 25) O dX2_leads_25 ?_
      refine v_iconst (pc := 26) O dX2_leads_26 ic_1 ?_
      refine v_icmpne (pc := 27) 34 O dX2_leads_27 (by decide) (fun c9 => ?_) (fun c9 => ?_)
      · have h := (if_neg c9).symm.trans h
        refine v_sub [] rfl ?_
        exact w_X2_leads_b34 O hm hn hz p5.2 h
      · have h := (if_pos c9).symm.trans h
        refine v_iconst (pc := 30) O dX2_leads_30 ic_1 ?_
        refine v_goto (pc := 31) 35 O dX2_leads_31 (by decide) ?_
        refine v_sub [] rfl ?_
        exact w_X2_leads_b35 O hm hn hz 1 p5.2 h
theorem c_X2_leads {l : Launch} {w : Wx} {n nu c u : Nat} {K : Nat → Nat} (hm : wlm w = true) {x1 : Int32} {x2 : Int32} {D : Dat} {z : Int32 × Dat} (h : f_X2_leads nu K x1 x2 D = some z) : C0 l w yX2_leads cX2_leads 3 (some .boolean) 1 21 [.ref (wb w + 1), .int x1, .int x2] n (Ax nu K c u) D (some (.int z.1)) z.2 :=
  C0.of (by decide) (Nat.le_of_ble_eq_true rfl) (fun X e1 e2 e3 hz O => by
  subst e1
  subst e2
  exact w_X2_leads O hm e3 hz x1 x2 D h)
def f_X2_put_b16 (N : Nat) (nu : Nat) (K : Nat → Nat) (D : Dat) : Option (Dat) :=
  some D
set_option maxHeartbeats 4000000 in
theorem w_X2_put_b16 {X : Cx} {n nu c u : Nat} {K : Nat → Nat} {N : Nat} {z : Dat} (O : Ok X cX2_put RX2 none 2 43) (hm : wlm (xw X) = true) (hn : xn X = 5) (hz : Z0 X (Ax nu K c u)) (D : Dat) (h : f_X2_put_b16 N nu K D = some z) : V X (Q0 X n (Ax nu K c u) none z) n (Ax nu K c u) D 16 [] [] := by
  unfold f_X2_put_b16 at h
  obtain rfl := Option.some.inj h
  exact v_ret (pc := 16) O hz dX2_put_16
def f_X2_put_b57 (N : Nat) (nu : Nat) (K : Nat → Nat) (rec_27 : Int32 → Int32 → Int32 → Dat → Option (Dat)) (x1 : Int32) (x3 : Int32) (x4 : Int32) (D : Dat) : Option (Dat) :=
  rec_27 x1 x3 (x4 + 1) D
set_option maxHeartbeats 4000000 in
theorem w_X2_put_b57 {X : Cx} {n nu c u : Nat} {K : Nat → Nat} {N : Nat} {rec_27 : Int32 → Int32 → Int32 → Dat → Option (Dat)} {z : Dat} (O : Ok X cX2_put RX2 none 2 43) (hm : wlm (xw X) = true) (hn : xn X = 5) (hz : Z0 X (Ax nu K c u)) (hrec_27 : ∀ (x1 : Int32) (x3 : Int32) (x4 : Int32) (D : Dat), rec_27 x1 x3 x4 D = some z → V X (Q0 X n (Ax nu K c u) none z) n (Ax nu K c u) D 27 [(0, .ref (bo X + 1)), (1, .int x1), (3, .int x3), (4, .int x4)] []) (x1 : Int32) (x3 : Int32) (x4 : Int32) (D : Dat) (h : f_X2_put_b57 N nu K rec_27 x1 x3 x4 D = some z) : V X (Q0 X n (Ax nu K c u) none z) n (Ax nu K c u) D 57 [(0, .ref (bo X + 1)), (1, .int x1), (3, .int x3), (4, .int x4)] [] := by
  unfold f_X2_put_b57 at h
  refine v_iinc (pc := 57) (lv' := [(4, .int (x4 + 1)), (0, .ref (bo X + 1)), (1, .int x1), (3, .int x3)]) O dX2_put_57 3 rfl (congrArg (fun q => x4 + q) ic_1) (by rw [hn]; decide) rfl ?_
  refine v_goto (pc := 60) 27 O dX2_put_60 (by decide) ?_
  refine v_sub [1, 2, 3, 0] rfl ?_
  exact hrec_27 x1 x3 (x4 + 1) D h
def f_X2_put_b27 (N : Nat) (nu : Nat) (K : Nat → Nat) : Nat → Int32 → Int32 → Int32 → Dat → Option (Dat)
  | 0, _, _, _, _ => none
  | g + 1, x1, x3, x4, D => if (dI D 1 0) ≤ x4 then (some D) else ((f_X2_leads nu K x4 x1 D).bind (fun p2 => if p2.1 = 0 then (f_X2_put_b57 N nu K f_X2_put_b27 N nu K g x1 x3 x4 p2.2) else (if x4 < 0 ∨ nu ≤ (x4).toNatClampNeg then none else (if x4 < 0 ∨ nu ≤ (x4).toNatClampNeg then none else (f_X2_put_b57 N nu K f_X2_put_b27 N nu K g x1 x3 x4 (sI p2.2 2 (x4).toNatClampNeg ((dI p2.2 2 (x4).toNatClampNeg) ||| x3)))))))
set_option maxHeartbeats 4000000 in
theorem w_X2_put_b27 {X : Cx} {n nu c u : Nat} {K : Nat → Nat} {N : Nat} {z : Dat} (O : Ok X cX2_put RX2 none 2 43) (hm : wlm (xw X) = true) (hn : xn X = 5) (hz : Z0 X (Ax nu K c u)) : ∀ (g : Nat) (x1 : Int32) (x3 : Int32) (x4 : Int32) (D : Dat), f_X2_put_b27 N nu K g x1 x3 x4 D = some z → V X (Q0 X n (Ax nu K c u) none z) n (Ax nu K c u) D 27 [(0, .ref (bo X + 1)), (1, .int x1), (3, .int x3), (4, .int x4)] [] := by
  intro g
  induction g with
  | zero => intro x1 x3 x4 D h; exact absurd h (by simp [f_X2_put_b27])
  | succ g ih =>
    intro x1 x3 x4 D h
    rw [f_X2_put_b27] at h
    refine v_iload (pc := 27) O dX2_put_27 3 rfl ?_
    refine v_aload_n (pc := 29) O dX2_put_29 0 rfl ?_
    refine v_getI (pc := 30) (a := 1) O gf_X2_0 fl_X2_9 kq_1 dX2_put_30 ?_
    refine v_icmpge (pc := 33) 63 O dX2_put_33 (by decide) (fun c1 => ?_) (fun c1 => ?_)
    · have h := (if_pos c1).symm.trans h
      obtain rfl := Option.some.inj h
      exact v_ret (pc := 63) O hz dX2_put_63
    · have h := (if_neg c1).symm.trans h
      refine v_aload_n (pc := 36) O dX2_put_36 0 rfl ?_
      refine v_iload (pc := 37) O dX2_put_37 3 rfl ?_
      refine v_iload_n (pc := 39) O dX2_put_39 1 rfl ?_
      obtain ⟨p2, e3, h⟩ := bind_some h
      refine v_callV (pc := 40) (a := 1) (As := [.int x4, .int x1]) (rest := []) (r := (some (.int p2.1))) (D' := p2.2) O (bb0 hz) (c_X2_leads hm e3) mw_X2_leads im_X2_leads se_X2_leads ml_X2_30 kq_1 (by decide) rfl rfl rfl (by decide) (by decide) (Nat.le_of_ble_eq_true rfl) dX2_put_40 rfl rfl ?_
      refine v_ifeq (pc := 43) 57 O dX2_put_43 (by decide) (fun c4 => ?_) (fun c4 => ?_)
      · have h := (if_pos c4).symm.trans h
        refine v_sub [0, 1, 2, 3] rfl ?_
        exact w_X2_put_b57 O hm hn hz ih x1 x3 x4 p2.2 h
      · have h := (if_neg c4).symm.trans h
        refine v_aload_n (pc := 46) O dX2_put_46 0 rfl ?_
        refine v_getK (pc := 47) (a := 1) O hm gf_X2_1 fl_X2_15 kq_1 lk_1_1 dX2_put_47 ?_
        refine v_iload (pc := 50) O dX2_put_50 3 rfl ?_
        refine v_dup2 (pc := 52) O dX2_put_52 rfl rfl ?_
        obtain ⟨c5, h⟩ := or_none h
        refine v_iald (pc := 53) (a := 2) O kq_2 (inq lq_2 c5) dX2_put_53 ?_
        refine v_iload_n (pc := 54) O dX2_put_54 2 rfl ?_
        refine v_ior (pc := 55) O dX2_put_55 ?_
        obtain ⟨c6, h⟩ := or_none h
        refine v_iast (pc := 56) (a := 2) O kq_2 (inq lq_2 c6) dX2_put_56 ?_
        refine v_sub [0, 1, 2, 3] rfl ?_
        exact w_X2_put_b57 O hm hn hz ih x1 x3 x4 (sI p2.2 2 (x4).toNatClampNeg ((dI p2.2 2 (x4).toNatClampNeg) ||| x3)) h
def f_X2_put (N : Nat) (nu : Nat) (K : Nat → Nat) (x1 : Int32) (x2 : Int32) (D : Dat) : Option (Dat) :=
  (f_X2_has x1 D).bind (fun p7 => if p7.1 = 0 then (f_X2_put_b16 N nu K p7.2) else ((f_X2_has x2 p7.2).bind (fun p10 => if p10.1 = 0 then (f_X2_put_b16 N nu K p10.2) else (if x2 < 0 ∨ nu ≤ (x2).toNatClampNeg then none else (f_X2_put_b27 N nu K N x1 (dI p10.2 2 (x2).toNatClampNeg) 0 p10.2)))))
set_option maxHeartbeats 4000000 in
theorem w_X2_put {X : Cx} {n nu c u : Nat} {K : Nat → Nat} {N : Nat} (O : Ok X cX2_put RX2 none 2 43) (hm : wlm (xw X) = true) (hn : xn X = 5) (hz : Z0 X (Ax nu K c u)) (x1 : Int32) (x2 : Int32) (D : Dat) {z : Dat} (h : f_X2_put N nu K x1 x2 D = some z) : V X (Q0 X n (Ax nu K c u) none z) n (Ax nu K c u) D 0 [(0, .ref (bo X + 1)), (1, .int x1), (2, .int x2)] [] := by
  unfold f_X2_put at h
  refine v_aload_n (pc := 0) O dX2_put_0 0 rfl ?_
  refine v_iload_n (pc := 1) O dX2_put_1 1 rfl ?_
  obtain ⟨p7, e8, h⟩ := bind_some h
  refine v_callV (pc := 2) (a := 1) (As := [.int x1]) (rest := []) (r := (some (.int p7.1))) (D' := p7.2) O (bb0 hz) (c_X2_has hm e8) mw_X2_has im_X2_has se_X2_has ml_X2_26 kq_1 (by decide) rfl rfl rfl (by decide) (by decide) (Nat.le_of_ble_eq_true rfl) dX2_put_2 rfl rfl ?_
  refine v_ifeq (pc := 5) 16 O dX2_put_5 (by decide) (fun c9 => ?_) (fun c9 => ?_)
  · have h := (if_pos c9).symm.trans h
    refine v_sub [] rfl ?_
    exact w_X2_put_b16 O hm hn hz p7.2 h
  · have h := (if_neg c9).symm.trans h
    refine v_aload_n (pc := 8) O dX2_put_8 0 rfl ?_
    refine v_iload_n (pc := 9) O dX2_put_9 2 rfl ?_
    obtain ⟨p10, e11, h⟩ := bind_some h
    refine v_callV (pc := 10) (a := 1) (As := [.int x2]) (rest := []) (r := (some (.int p10.1))) (D' := p10.2) O (bb0 hz) (c_X2_has hm e11) mw_X2_has im_X2_has se_X2_has ml_X2_26 kq_1 (by decide) rfl rfl rfl (by decide) (by decide) (Nat.le_of_ble_eq_true rfl) dX2_put_10 rfl rfl ?_
    refine v_ifne (pc := 13) 17 O dX2_put_13 (by decide) (fun c12 => ?_) (fun c12 => ?_)
    · have h := (if_neg c12).symm.trans h
      refine v_aload_n (pc := 17) O dX2_put_17 0 rfl ?_
      refine v_getK (pc := 18) (a := 1) O hm gf_X2_1 fl_X2_15 kq_1 lk_1_1 dX2_put_18 ?_
      refine v_iload_n (pc := 21) O dX2_put_21 2 rfl ?_
      obtain ⟨c13, h⟩ := or_none h
      refine v_iald (pc := 22) (a := 2) O kq_2 (inq lq_2 c13) dX2_put_22 ?_
      refine v_istore_n (pc := 23) (lv' := [(3, .int (dI p10.2 2 (x2).toNatClampNeg)), (0, .ref (bo X + 1)), (1, .int x1), (2, .int x2)]) O dX2_put_23 rfl (by rw [hn]; decide) rfl ?_
      refine v_iconst (pc := 24) O dX2_put_24 ic_0 ?_
      refine v_istore (pc := 25) (lv' := [(4, .int 0), (3, .int (dI p10.2 2 (x2).toNatClampNeg)), (0, .ref (bo X + 1)), (1, .int x1), (2, .int x2)]) O dX2_put_25 (by rw [hn]; decide) rfl ?_
      refine v_sub [2, 3, 1, 0] rfl ?_
      exact w_X2_put_b27 O hm hn hz N x1 (dI p10.2 2 (x2).toNatClampNeg) 0 p10.2 h
    · have h := (if_pos c12).symm.trans h
      refine v_sub [] rfl ?_
      exact w_X2_put_b16 O hm hn hz p10.2 h
theorem c_X2_put {l : Launch} {w : Wx} {n nu c u : Nat} {K : Nat → Nat} {N : Nat} (hm : wlm w = true) {x1 : Int32} {x2 : Int32} {D : Dat} {z : Dat} (h : f_X2_put N nu K x1 x2 D = some z) : C0 l w yX2_put cX2_put 5 none 2 43 [.ref (wb w + 1), .int x1, .int x2] n (Ax nu K c u) D none z :=
  C0.of (by decide) (Nat.le_of_ble_eq_true rfl) (fun X e1 e2 e3 hz O => by
  subst e1
  subst e2
  exact w_X2_put O hm e3 hz x1 x2 D h)
