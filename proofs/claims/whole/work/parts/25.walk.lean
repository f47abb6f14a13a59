theorem pf_X2_2 : PI 2 RX2 TX2 4 tyX2 2 0 .boolean := ⟨gf_X2_2, rfl, rfl⟩
theorem pf_X2_3 : PI 2 RX2 TX2 4 tyX2 3 0 .int := ⟨gf_X2_3, rfl, rfl⟩
theorem cw_X2_shade : Cond.code yX2_shade cX2_shade 2 (some .int) ∈ tb := tb_of 1162 (by decide +kernel) (by decide +kernel)
theorem mw_X2_shade : MW yX2_shade cX2_shade 2 (some .int) 1 := ⟨cw_X2_shade, ini_X2, by decide +kernel⟩
theorem im_X2_shade : Cond.instanceMethod yX2_shade ∈ tb := tb_of 1160 (by decide +kernel) (by decide +kernel)
theorem se_X2_shade : Cond.selects (yX2_shade).cls yX2_shade yX2_shade ∈ tb := tb_of 1161 (by decide +kernel) (by decide +kernel)
theorem ml_X2_54 : Cond.methodLink RX2 54 yX2_shade ∈ tb := tb_of 1491 (by decide +kernel) (by decide +kernel)
theorem kt_X0 {nu c u t : Nat} {K : Nat → Nat} (ht : t = 201 ∨ t = 204) : (Ax nu K c u).1 t = 0 := by rcases ht with rfl | rfl <;> first | exact kd_lt (K := K) (a := 201) (by decide) rfl | exact kd_lt (K := K) (a := 204) (by decide) rfl
theorem fl_X0_18 : Cond.fieldLink RX0 18 RX0 (TX0 2).2.1 (TX0 2).2.2.1 ∈ tb := tb_of 486 (by decide +kernel) (by decide +kernel)
theorem inb_X0 : ∀ w ∈ u_ws RX0 TX0 3, w ∈ tb := by decide +kernel
theorem gf_X0_2 : FI 0 RX0 TX0 3 tyX0 2 0 := ⟨rfl, inb_X0, tyX0_ok, nmX0, by decide, by decide, rfl, rfl, rfl⟩
theorem pf_X0_2 : PI 0 RX0 TX0 3 tyX0 2 0 .int := ⟨gf_X0_2, rfl, rfl⟩
theorem fl_X0_9 : Cond.fieldLink RX0 9 RX0 (TX0 0).2.1 (TX0 0).2.2.1 ∈ tb := tb_of 484 (by decide +kernel) (by decide +kernel)
theorem lt_X0_0 {t : Nat} (ht : t = 201 ∨ t = 204) : lks t 0 = some (t + 1) := by rcases ht with rfl | rfl <;> decide +kernel
theorem ka_X0_1 {nu c u t : Nat} {K : Nat → Nat} (ht : t = 201 ∨ t = 204) : (Ax nu K c u).1 (t + 1) = 14 := by rcases ht with rfl | rfl <;> first | exact kd_lt (K := K) (a := 201 + 1) (by decide) rfl | exact kd_lt (K := K) (a := 204 + 1) (by decide) rfl
theorem la_X0_1 {nu c u t : Nat} {K : Nat → Nat} (ht : t = 201 ∨ t = 204) : (Ax nu K c u).2.1 (t + 1) = 64 := by rcases ht with rfl | rfl <;> rfl
theorem gf_X0_0 : FI 0 RX0 TX0 3 tyX0 0 3 := ⟨rfl, inb_X0, tyX0_ok, nmX0, by decide, by decide, rfl, rfl, rfl⟩
theorem fl_X0_15 : Cond.fieldLink RX0 15 RX0 (TX0 1).2.1 (TX0 1).2.2.1 ∈ tb := tb_of 485 (by decide +kernel) (by decide +kernel)
theorem lt_X0_1 {t : Nat} (ht : t = 201 ∨ t = 204) : lks t 1 = some (t + 2) := by rcases ht with rfl | rfl <;> decide +kernel
theorem ka_X0_2 {nu c u t : Nat} {K : Nat → Nat} (ht : t = 201 ∨ t = 204) : (Ax nu K c u).1 (t + 2) = 14 := by rcases ht with rfl | rfl <;> first | exact kd_lt (K := K) (a := 201 + 2) (by decide) rfl | exact kd_lt (K := K) (a := 204 + 2) (by decide) rfl
theorem la_X0_2 {nu c u t : Nat} {K : Nat → Nat} (ht : t = 201 ∨ t = 204) : (Ax nu K c u).2.1 (t + 2) = 64 := by rcases ht with rfl | rfl <;> rfl
theorem gf_X0_1 : FI 0 RX0 TX0 3 tyX0 1 3 := ⟨rfl, inb_X0, tyX0_ok, nmX0, by decide, by decide, rfl, rfl, rfl⟩
theorem ini_X0 : Cond.initialized RX0 ∈ tb := tb_of 172 (by decide +kernel) (by decide +kernel)
theorem cw_X0_has : Cond.code yX0_has cX0_has 2 (some .boolean) ∈ tb := tb_of 1254 (by decide +kernel) (by decide +kernel)
theorem mw_X0_has : MW yX0_has cX0_has 2 (some .boolean) 1 := ⟨cw_X0_has, ini_X0, by decide +kernel⟩
theorem im_X0_has : Cond.instanceMethod yX0_has ∈ tb := tb_of 1252 (by decide +kernel) (by decide +kernel)
theorem se_X0_has : Cond.selects (yX0_has).cls yX0_has yX0_has ∈ tb := tb_of 1253 (by decide +kernel) (by decide +kernel)
theorem ml_X0_22 : Cond.methodLink RX0 22 yX0_has ∈ tb := tb_of 1251 (by decide +kernel) (by decide +kernel)
theorem cw_X0_operation : Cond.code yX0_operation cX0_operation 2 (some .int) ∈ tb := tb_of 1308 (by decide +kernel) (by decide +kernel)
theorem mw_X0_operation : MW yX0_operation cX0_operation 2 (some .int) 1 := ⟨cw_X0_operation, ini_X0, by decide +kernel⟩
theorem im_X0_operation : Cond.instanceMethod yX0_operation ∈ tb := tb_of 1306 (by decide +kernel) (by decide +kernel)
theorem se_X0_operation : Cond.selects (yX0_operation).cls yX0_operation yX0_operation ∈ tb := tb_of 1307 (by decide +kernel) (by decide +kernel)
theorem ml_X0_26 : Cond.methodLink RX0 26 yX0_operation ∈ tb := tb_of 1353 (by decide +kernel) (by decide +kernel)
theorem fl_X0_30 : Cond.fieldLink RX0 30 "FlowChain$Code" "TAKEN" "[I" ∈ tb := tb_of 1354 (by decide +kernel) (by decide +kernel)
theorem fl_X0_33 : Cond.fieldLink RX0 33 "FlowChain$Code" "PUT" "[I" ∈ tb := tb_of 1360 (by decide +kernel) (by decide +kernel)
def f_X2_isLeastAbove_b44 (N : Nat) (nu : Nat) (K : Nat → Nat) (rec_3 : Int32 → Int32 → Int32 → Int32 → Dat → Option (Int32 × Dat)) (x1 : Int32) (x2 : Int32) (x3 : Int32) (x4 : Int32) (D : Dat) : Option (Int32 × Dat) :=
  rec_3 x1 x2 x3 (x4 + 1) D
set_option maxHeartbeats 4000000 in
theorem w_X2_isLeastAbove_b44 {X : Cx} {n nu c u : Nat} {K : Nat → Nat} {N : Nat} {rec_3 : Int32 → Int32 → Int32 → Int32 → Dat → Option (Int32 × Dat)} {z : Int32 × Dat} (O : Ok X cX2_isLeastAbove RX2 (some .boolean) 2 43) (hm : wlm (xw X) = true) (hn : xn X = 5) (hz : Z0 X (Ax nu K c u)) (hrec_3 : ∀ (x1 : Int32) (x2 : Int32) (x3 : Int32) (x4 : Int32) (D : Dat), rec_3 x1 x2 x3 x4 D = some z → V X (Q0 X n (Ax nu K c u) (some (.int z.1)) z.2) n (Ax nu K c u) D 3 [(0, .ref (bo X + pp 1)), (1, .int x1), (2, .int x2), (3, .int x3), (4, .int x4)] []) (x1 : Int32) (x2 : Int32) (x3 : Int32) (x4 : Int32) (D : Dat) (h : f_X2_isLeastAbove_b44 N nu K rec_3 x1 x2 x3 x4 D = some z) : V X (Q0 X n (Ax nu K c u) (some (.int z.1)) z.2) n (Ax nu K c u) D 44 [(0, .ref (bo X + pp 1)), (1, .int x1), (2, .int x2), (3, .int x3), (4, .int x4)] [] := by
  unfold f_X2_isLeastAbove_b44 at h
  refine v_iinc (pc := 44) (lv' := [(4, .int (x4 + 1)), (0, .ref (bo X + pp 1)), (1, .int x1), (2, .int x2), (3, .int x3)]) O dX2_isLeastAbove_44 4 rfl (congrArg (fun q => x4 + q) ic_1) (by rw [hn]; decide) rfl ?_
  refine v_goto (pc := 47) 3 O dX2_isLeastAbove_47 (by decide) ?_
  refine v_sub [1, 2, 3, 4, 0] rfl ?_
  exact hrec_3 x1 x2 x3 (x4 + 1) D h
def f_X2_isLeastAbove_b3 (N : Nat) (nu : Nat) (K : Nat → Nat) : Nat → Int32 → Int32 → Int32 → Int32 → Dat → Option (Int32 × Dat)
  | 0, _, _, _, _, _ => none
  | g + 1, x1, x2, x3, x4, D => if (dI D 1 0) ≤ x4 then (some (1, D)) else ((f_X2_leads nu K x2 x4 D).bind (fun p2 => if p2.1 = 0 then (f_X2_isLeastAbove_b44 N nu K (f_X2_isLeastAbove_b3 N nu K g) x1 x2 x3 x4 p2.2) else ((f_X2_leads nu K x3 x4 p2.2).bind (fun p5 => if p5.1 = 0 then (f_X2_isLeastAbove_b44 N nu K (f_X2_isLeastAbove_b3 N nu K g) x1 x2 x3 x4 p5.2) else ((f_X2_leads nu K x1 x4 p5.2).bind (fun p8 => if p8.1 = 0 then (some (0, p8.2)) else (f_X2_isLeastAbove_b44 N nu K (f_X2_isLeastAbove_b3 N nu K g) x1 x2 x3 x4 p8.2)))))))
set_option maxHeartbeats 4000000 in
theorem w_X2_isLeastAbove_b3 {X : Cx} {n nu c u : Nat} {K : Nat → Nat} {N : Nat} {z : Int32 × Dat} (O : Ok X cX2_isLeastAbove RX2 (some .boolean) 2 43) (hm : wlm (xw X) = true) (hn : xn X = 5) (hz : Z0 X (Ax nu K c u)) : ∀ (g : Nat) (x1 : Int32) (x2 : Int32) (x3 : Int32) (x4 : Int32) (D : Dat), f_X2_isLeastAbove_b3 N nu K g x1 x2 x3 x4 D = some z → V X (Q0 X n (Ax nu K c u) (some (.int z.1)) z.2) n (Ax nu K c u) D 3 [(0, .ref (bo X + pp 1)), (1, .int x1), (2, .int x2), (3, .int x3), (4, .int x4)] [] := by
  intro g
  induction g with
  | zero => intro x1 x2 x3 x4 D h; exact absurd h (by simp [f_X2_isLeastAbove_b3])
  | succ g ih =>
    intro x1 x2 x3 x4 D h
    rw [f_X2_isLeastAbove_b3] at h
    refine v_iload (pc := 3) O dX2_isLeastAbove_3 4 rfl ?_
    refine v_aload_n (pc := 5) O dX2_isLeastAbove_5 0 rfl ?_
    refine v_getI (pc := 6) (a := 1) O gf_X2_0 fl_X2_9 kq_1 dX2_isLeastAbove_6 ?_
    refine v_icmpge (pc := 9) 50 O dX2_isLeastAbove_9 (by decide) (fun c1 => ?_) (fun c1 => ?_)
    · have h := (if_pos c1).symm.trans h
      refine v_iconst (pc := 50) O dX2_isLeastAbove_50 ic_1 ?_
      obtain rfl := Option.some.inj h
      exact v_zret (pc := 51) O hz narrow_b1 dX2_isLeastAbove_51
    · have h := (if_neg c1).symm.trans h
      refine v_aload_n (pc := 12) O dX2_isLeastAbove_12 0 rfl ?_
      refine v_iload_n (pc := 13) O dX2_isLeastAbove_13 2 rfl ?_
      refine v_iload (pc := 14) O dX2_isLeastAbove_14 4 rfl ?_
      obtain ⟨p2, e3, h⟩ := bind_some h
      refine v_callV (pc := 16) (a := 1) (As := [.int x2, .int x4]) (rest := []) (r := (some (.int p2.1))) (D' := p2.2) O (bb0 hz) (c_X2_leads hm e3) mw_X2_leads im_X2_leads se_X2_leads ml_X2_30 kq_1 (by decide) rfl rfl rfl (by decide) (by decide) (Nat.le_of_ble_eq_true rfl) dX2_isLeastAbove_16 rfl rfl ?_
      refine v_ifeq (pc := 19) 44 O dX2_isLeastAbove_19 (by decide) (fun c4 => ?_) (fun c4 => ?_)
      · have h := (if_pos c4).symm.trans h
        refine v_sub [0, 1, 2, 3, 4] rfl ?_
        exact w_X2_isLeastAbove_b44 O hm hn hz ih x1 x2 x3 x4 p2.2 h
      · have h := (if_neg c4).symm.trans h
        refine v_aload_n (pc := 22) O dX2_isLeastAbove_22 0 rfl ?_
        refine v_iload_n (pc := 23) O dX2_isLeastAbove_23 3 rfl ?_
        refine v_iload (pc := 24) O dX2_isLeastAbove_24 4 rfl ?_
        obtain ⟨p5, e6, h⟩ := bind_some h
        refine v_callV (pc := 26) (a := 1) (As := [.int x3, .int x4]) (rest := []) (r := (some (.int p5.1))) (D' := p5.2) O (bb0 hz) (c_X2_leads hm e6) mw_X2_leads im_X2_leads se_X2_leads ml_X2_30 kq_1 (by decide) rfl rfl rfl (by decide) (by decide) (Nat.le_of_ble_eq_true rfl) dX2_isLeastAbove_26 rfl rfl ?_
        refine v_ifeq (pc := 29) 44 O dX2_isLeastAbove_29 (by decide) (fun c7 => ?_) (fun c7 => ?_)
        · have h := (if_pos c7).symm.trans h
          refine v_sub [0, 1, 2, 3, 4] rfl ?_
          exact w_X2_isLeastAbove_b44 O hm hn hz ih x1 x2 x3 x4 p5.2 h
        · have h := (if_neg c7).symm.trans h
          refine v_aload_n (pc := 32) O dX2_isLeastAbove_32 0 rfl ?_
          refine v_iload_n (pc := 33) O dX2_isLeastAbove_33 1 rfl ?_
          refine v_iload (pc := 34) O dX2_isLeastAbove_34 4 rfl ?_
          obtain ⟨p8, e9, h⟩ := bind_some h
          refine v_callV (pc := 36) (a := 1) (As := [.int x1, .int x4]) (rest := []) (r := (some (.int p8.1))) (D' := p8.2) O (bb0 hz) (c_X2_leads hm e9) mw_X2_leads im_X2_leads se_X2_leads ml_X2_30 kq_1 (by decide) rfl rfl rfl (by decide) (by decide) (Nat.le_of_ble_eq_true rfl) dX2_isLeastAbove_36 rfl rfl ?_
          refine v_ifne (pc := 39) 44 O dX2_isLeastAbove_39 (by decide) (fun c10 => ?_) (fun c10 => ?_)
          · have h := (if_neg c10).symm.trans h
            refine v_sub [0, 1, 2, 3, 4] rfl ?_
            exact w_X2_isLeastAbove_b44 O hm hn hz ih x1 x2 x3 x4 p8.2 h
          · have h := (if_pos c10).symm.trans h
            refine v_iconst (pc := 42) O dX2_isLeastAbove_42 ic_0 ?_
            obtain rfl := Option.some.inj h
            exact v_zret (pc := 43) O hz narrow_b0 dX2_isLeastAbove_43
def f_X2_isLeastAbove (N : Nat) (nu : Nat) (K : Nat → Nat) (x1 : Int32) (x2 : Int32) (x3 : Int32) (D : Dat) : Option (Int32 × Dat) :=
  f_X2_isLeastAbove_b3 N nu K N x1 x2 x3 0 D
set_option maxHeartbeats 4000000 in
theorem w_X2_isLeastAbove {X : Cx} {n nu c u : Nat} {K : Nat → Nat} {N : Nat} {z : Int32 × Dat} (O : Ok X cX2_isLeastAbove RX2 (some .boolean) 2 43) (hm : wlm (xw X) = true) (hn : xn X = 5) (hz : Z0 X (Ax nu K c u)) (x1 : Int32) (x2 : Int32) (x3 : Int32) (D : Dat) (h : f_X2_isLeastAbove N nu K x1 x2 x3 D = some z) : V X (Q0 X n (Ax nu K c u) (some (.int z.1)) z.2) n (Ax nu K c u) D 0 [(0, .ref (bo X + pp 1)), (1, .int x1), (2, .int x2), (3, .int x3)] [] := by
  unfold f_X2_isLeastAbove at h
  refine v_iconst (pc := 0) O dX2_isLeastAbove_0 ic_0 ?_
  refine v_istore (pc := 1) (lv' := [(4, .int 0), (0, .ref (bo X + pp 1)), (1, .int x1), (2, .int x2), (3, .int x3)]) O dX2_isLeastAbove_1 (by rw [hn]; decide) rfl ?_
  refine v_sub [1, 2, 3, 4, 0] rfl ?_
  exact w_X2_isLeastAbove_b3 O hm hn hz N x1 x2 x3 0 D h
theorem c_X2_isLeastAbove {l : Launch} {w : Wx} {n nu c u : Nat} {K : Nat → Nat} {N : Nat} (hm : wlm w = true) {x1 : Int32} {x2 : Int32} {x3 : Int32} {D : Dat} {z : Int32 × Dat} (h : f_X2_isLeastAbove N nu K x1 x2 x3 D = some z) : C0 l w yX2_isLeastAbove cX2_isLeastAbove 5 (some .boolean) 2 43 [.ref (wb w + pp 1), .int x1, .int x2, .int x3] n (Ax nu K c u) D (some (.int z.1)) z.2 :=
  C0.of (by decide) (Nat.le_of_ble_eq_true rfl) (fun X e1 e2 e3 hz O => by
  subst e1
  subst e2
  exact w_X2_isLeastAbove O hm e3 hz x1 x2 x3 D h)
def f_X2_isGreatestUnder_b44 (N : Nat) (nu : Nat) (K : Nat → Nat) (rec_3 : Int32 → Int32 → Int32 → Int32 → Dat → Option (Int32 × Dat)) (x1 : Int32) (x2 : Int32) (x3 : Int32) (x4 : Int32) (D : Dat) : Option (Int32 × Dat) :=
  rec_3 x1 x2 x3 (x4 + 1) D
set_option maxHeartbeats 4000000 in
theorem w_X2_isGreatestUnder_b44 {X : Cx} {n nu c u : Nat} {K : Nat → Nat} {N : Nat} {rec_3 : Int32 → Int32 → Int32 → Int32 → Dat → Option (Int32 × Dat)} {z : Int32 × Dat} (O : Ok X cX2_isGreatestUnder RX2 (some .boolean) 2 43) (hm : wlm (xw X) = true) (hn : xn X = 5) (hz : Z0 X (Ax nu K c u)) (hrec_3 : ∀ (x1 : Int32) (x2 : Int32) (x3 : Int32) (x4 : Int32) (D : Dat), rec_3 x1 x2 x3 x4 D = some z → V X (Q0 X n (Ax nu K c u) (some (.int z.1)) z.2) n (Ax nu K c u) D 3 [(0, .ref (bo X + pp 1)), (1, .int x1), (2, .int x2), (3, .int x3), (4, .int x4)] []) (x1 : Int32) (x2 : Int32) (x3 : Int32) (x4 : Int32) (D : Dat) (h : f_X2_isGreatestUnder_b44 N nu K rec_3 x1 x2 x3 x4 D = some z) : V X (Q0 X n (Ax nu K c u) (some (.int z.1)) z.2) n (Ax nu K c u) D 44 [(0, .ref (bo X + pp 1)), (1, .int x1), (2, .int x2), (3, .int x3), (4, .int x4)] [] := by
  unfold f_X2_isGreatestUnder_b44 at h
  refine v_iinc (pc := 44) (lv' := [(4, .int (x4 + 1)), (0, .ref (bo X + pp 1)), (1, .int x1), (2, .int x2), (3, .int x3)]) O dX2_isGreatestUnder_44 4 rfl (congrArg (fun q => x4 + q) ic_1) (by rw [hn]; decide) rfl ?_
  refine v_goto (pc := 47) 3 O dX2_isGreatestUnder_47 (by decide) ?_
  refine v_sub [1, 2, 3, 4, 0] rfl ?_
  exact hrec_3 x1 x2 x3 (x4 + 1) D h
def f_X2_isGreatestUnder_b3 (N : Nat) (nu : Nat) (K : Nat → Nat) : Nat → Int32 → Int32 → Int32 → Int32 → Dat → Option (Int32 × Dat)
  | 0, _, _, _, _, _ => none
  | g + 1, x1, x2, x3, x4, D => if (dI D 1 0) ≤ x4 then (some (1, D)) else ((f_X2_leads nu K x4 x2 D).bind (fun p2 => if p2.1 = 0 then (f_X2_isGreatestUnder_b44 N nu K (f_X2_isGreatestUnder_b3 N nu K g) x1 x2 x3 x4 p2.2) else ((f_X2_leads nu K x4 x3 p2.2).bind (fun p5 => if p5.1 = 0 then (f_X2_isGreatestUnder_b44 N nu K (f_X2_isGreatestUnder_b3 N nu K g) x1 x2 x3 x4 p5.2) else ((f_X2_leads nu K x4 x1 p5.2).bind (fun p8 => if p8.1 = 0 then (some (0, p8.2)) else (f_X2_isGreatestUnder_b44 N nu K (f_X2_isGreatestUnder_b3 N nu K g) x1 x2 x3 x4 p8.2)))))))
set_option maxHeartbeats 4000000 in
theorem w_X2_isGreatestUnder_b3 {X : Cx} {n nu c u : Nat} {K : Nat → Nat} {N : Nat} {z : Int32 × Dat} (O : Ok X cX2_isGreatestUnder RX2 (some .boolean) 2 43) (hm : wlm (xw X) = true) (hn : xn X = 5) (hz : Z0 X (Ax nu K c u)) : ∀ (g : Nat) (x1 : Int32) (x2 : Int32) (x3 : Int32) (x4 : Int32) (D : Dat), f_X2_isGreatestUnder_b3 N nu K g x1 x2 x3 x4 D = some z → V X (Q0 X n (Ax nu K c u) (some (.int z.1)) z.2) n (Ax nu K c u) D 3 [(0, .ref (bo X + pp 1)), (1, .int x1), (2, .int x2), (3, .int x3), (4, .int x4)] [] := by
  intro g
  induction g with
  | zero => intro x1 x2 x3 x4 D h; exact absurd h (by simp [f_X2_isGreatestUnder_b3])
  | succ g ih =>
    intro x1 x2 x3 x4 D h
    rw [f_X2_isGreatestUnder_b3] at h
    refine v_iload (pc := 3) O dX2_isGreatestUnder_3 4 rfl ?_
    refine v_aload_n (pc := 5) O dX2_isGreatestUnder_5 0 rfl ?_
    refine v_getI (pc := 6) (a := 1) O gf_X2_0 fl_X2_9 kq_1 dX2_isGreatestUnder_6 ?_
    refine v_icmpge (pc := 9) 50 O dX2_isGreatestUnder_9 (by decide) (fun c1 => ?_) (fun c1 => ?_)
    · have h := (if_pos c1).symm.trans h
      refine v_iconst (pc := 50) O dX2_isGreatestUnder_50 ic_1 ?_
      obtain rfl := Option.some.inj h
      exact v_zret (pc := 51) O hz narrow_b1 dX2_isGreatestUnder_51
    · have h := (if_neg c1).symm.trans h
      refine v_aload_n (pc := 12) O dX2_isGreatestUnder_12 0 rfl ?_
      refine v_iload (pc := 13) O dX2_isGreatestUnder_13 4 rfl ?_
      refine v_iload_n (pc := 15) O dX2_isGreatestUnder_15 2 rfl ?_
      obtain ⟨p2, e3, h⟩ := bind_some h
      refine v_callV (pc := 16) (a := 1) (As := [.int x4, .int x2]) (rest := []) (r := (some (.int p2.1))) (D' := p2.2) O (bb0 hz) (c_X2_leads hm e3) mw_X2_leads im_X2_leads se_X2_leads ml_X2_30 kq_1 (by decide) rfl rfl rfl (by decide) (by decide) (Nat.le_of_ble_eq_true rfl) dX2_isGreatestUnder_16 rfl rfl ?_
      refine v_ifeq (pc := 19) 44 O dX2_isGreatestUnder_19 (by decide) (fun c4 => ?_) (fun c4 => ?_)
      · have h := (if_pos c4).symm.trans h
        refine v_sub [0, 1, 2, 3, 4] rfl ?_
        exact w_X2_isGreatestUnder_b44 O hm hn hz ih x1 x2 x3 x4 p2.2 h
      · have h := (if_neg c4).symm.trans h
        refine v_aload_n (pc := 22) O dX2_isGreatestUnder_22 0 rfl ?_
        refine v_iload (pc := 23) O dX2_isGreatestUnder_23 4 rfl ?_
        refine v_iload_n (pc := 25) O dX2_isGreatestUnder_25 3 rfl ?_
        obtain ⟨p5, e6, h⟩ := bind_some h
        refine v_callV (pc := 26) (a := 1) (As := [.int x4, .int x3]) (rest := []) (r := (some (.int p5.1))) (D' := p5.2) O (bb0 hz) (c_X2_leads hm e6) mw_X2_leads im_X2_leads se_X2_leads ml_X2_30 kq_1 (by decide) rfl rfl rfl (by decide) (by decide) (Nat.le_of_ble_eq_true rfl) dX2_isGreatestUnder_26 rfl rfl ?_
        refine v_ifeq (pc := 29) 44 O dX2_isGreatestUnder_29 (by decide) (fun c7 => ?_) (fun c7 => ?_)
        · have h := (if_pos c7).symm.trans h
          refine v_sub [0, 1, 2, 3, 4] rfl ?_
          exact w_X2_isGreatestUnder_b44 O hm hn hz ih x1 x2 x3 x4 p5.2 h
        · have h := (if_neg c7).symm.trans h
          refine v_aload_n (pc := 32) O dX2_isGreatestUnder_32 0 rfl ?_
          refine v_iload (pc := 33) O dX2_isGreatestUnder_33 4 rfl ?_
          refine v_iload_n (pc := 35) O dX2_isGreatestUnder_35 1 rfl ?_
          obtain ⟨p8, e9, h⟩ := bind_some h
          refine v_callV (pc := 36) (a := 1) (As := [.int x4, .int x1]) (rest := []) (r := (some (.int p8.1))) (D' := p8.2) O (bb0 hz) (c_X2_leads hm e9) mw_X2_leads im_X2_leads se_X2_leads ml_X2_30 kq_1 (by decide) rfl rfl rfl (by decide) (by decide) (Nat.le_of_ble_eq_true rfl) dX2_isGreatestUnder_36 rfl rfl ?_
          refine v_ifne (pc := 39) 44 O dX2_isGreatestUnder_39 (by decide) (fun c10 => ?_) (fun c10 => ?_)
          · have h := (if_neg c10).symm.trans h
            refine v_sub [0, 1, 2, 3, 4] rfl ?_
            exact w_X2_isGreatestUnder_b44 O hm hn hz ih x1 x2 x3 x4 p8.2 h
          · have h := (if_pos c10).symm.trans h
            refine v_iconst (pc := 42) O dX2_isGreatestUnder_42 ic_0 ?_
            obtain rfl := Option.some.inj h
            exact v_zret (pc := 43) O hz narrow_b0 dX2_isGreatestUnder_43
def f_X2_isGreatestUnder (N : Nat) (nu : Nat) (K : Nat → Nat) (x1 : Int32) (x2 : Int32) (x3 : Int32) (D : Dat) : Option (Int32 × Dat) :=
  f_X2_isGreatestUnder_b3 N nu K N x1 x2 x3 0 D
set_option maxHeartbeats 4000000 in
theorem w_X2_isGreatestUnder {X : Cx} {n nu c u : Nat} {K : Nat → Nat} {N : Nat} {z : Int32 × Dat} (O : Ok X cX2_isGreatestUnder RX2 (some .boolean) 2 43) (hm : wlm (xw X) = true) (hn : xn X = 5) (hz : Z0 X (Ax nu K c u)) (x1 : Int32) (x2 : Int32) (x3 : Int32) (D : Dat) (h : f_X2_isGreatestUnder N nu K x1 x2 x3 D = some z) : V X (Q0 X n (Ax nu K c u) (some (.int z.1)) z.2) n (Ax nu K c u) D 0 [(0, .ref (bo X + pp 1)), (1, .int x1), (2, .int x2), (3, .int x3)] [] := by
  unfold f_X2_isGreatestUnder at h
  refine v_iconst (pc := 0) O dX2_isGreatestUnder_0 ic_0 ?_
  refine v_istore (pc := 1) (lv' := [(4, .int 0), (0, .ref (bo X + pp 1)), (1, .int x1), (2, .int x2), (3, .int x3)]) O dX2_isGreatestUnder_1 (by rw [hn]; decide) rfl ?_
  refine v_sub [1, 2, 3, 4, 0] rfl ?_
  exact w_X2_isGreatestUnder_b3 O hm hn hz N x1 x2 x3 0 D h
theorem c_X2_isGreatestUnder {l : Launch} {w : Wx} {n nu c u : Nat} {K : Nat → Nat} {N : Nat} (hm : wlm w = true) {x1 : Int32} {x2 : Int32} {x3 : Int32} {D : Dat} {z : Int32 × Dat} (h : f_X2_isGreatestUnder N nu K x1 x2 x3 D = some z) : C0 l w yX2_isGreatestUnder cX2_isGreatestUnder 5 (some .boolean) 2 43 [.ref (wb w + pp 1), .int x1, .int x2, .int x3] n (Ax nu K c u) D (some (.int z.1)) z.2 :=
  C0.of (by decide) (Nat.le_of_ble_eq_true rfl) (fun X e1 e2 e3 hz O => by
  subst e1
  subst e2
  exact w_X2_isGreatestUnder O hm e3 hz x1 x2 x3 D h)
def f_X2_close_b36 (N : Nat) (nu : Nat) (K : Nat → Nat) (rec_7 : Int32 → Dat → Option (Dat)) (x1 : Int32) (D : Dat) : Option (Dat) :=
  rec_7 (x1 + 1) D
set_option maxHeartbeats 4000000 in
theorem w_X2_close_b36 {X : Cx} {n nu c u : Nat} {K : Nat → Nat} {N : Nat} {rec_7 : Int32 → Dat → Option (Dat)} {z : Dat} (O : Ok X cX2_close RX2 none 1 20) (hm : wlm (xw X) = true) (hn : xn X = 2) (hz : Z0 X (Ax nu K c u)) (hrec_7 : ∀ (x1 : Int32) (D : Dat), rec_7 x1 D = some z → V X (Q0 X n (Ax nu K c u) none z) n (Ax nu K c u) D 7 [(0, .ref (bo X + pp 1)), (1, .int x1)] []) (x1 : Int32) (D : Dat) (h : f_X2_close_b36 N nu K rec_7 x1 D = some z) : V X (Q0 X n (Ax nu K c u) none z) n (Ax nu K c u) D 36 [(0, .ref (bo X + pp 1)), (1, .int x1)] [] := by
  unfold f_X2_close_b36 at h
  refine v_iinc (pc := 36) (lv' := [(1, .int (x1 + 1)), (0, .ref (bo X + pp 1))]) O dX2_close_36 1 rfl (congrArg (fun q => x1 + q) ic_1) (by rw [hn]; decide) rfl ?_
  refine v_goto (pc := 39) 7 O dX2_close_39 (by decide) ?_
  refine v_sub [1, 0] rfl ?_
  exact hrec_7 (x1 + 1) D h
def f_X2_close_b7 (N : Nat) (nu : Nat) (K : Nat → Nat) : Nat → Int32 → Dat → Option (Dat)
  | 0, _, _ => none
  | g + 1, x1, D => if (dI D 1 0) ≤ x1 then (some D) else (if x1 < 0 ∨ nu ≤ (x1).toNatClampNeg then none else ((f_J6_bitCount_0f7a4 (dI D 2 (x1).toNatClampNeg) D).bind (fun p3 => if p3.1 = (dI p3.2 1 0) then (f_X2_close_b36 N nu K (f_X2_close_b7 N nu K g) x1 (sI p3.2 1 3 x1)) else (f_X2_close_b36 N nu K (f_X2_close_b7 N nu K g) x1 p3.2))))
set_option maxHeartbeats 4000000 in
theorem w_X2_close_b7 {X : Cx} {n nu c u : Nat} {K : Nat → Nat} {N : Nat} {z : Dat} (O : Ok X cX2_close RX2 none 1 20) (hm : wlm (xw X) = true) (hn : xn X = 2) (hz : Z0 X (Ax nu K c u)) : ∀ (g : Nat) (x1 : Int32) (D : Dat), f_X2_close_b7 N nu K g x1 D = some z → V X (Q0 X n (Ax nu K c u) none z) n (Ax nu K c u) D 7 [(0, .ref (bo X + pp 1)), (1, .int x1)] [] := by
  intro g
  induction g with
  | zero => intro x1 D h; exact absurd h (by simp [f_X2_close_b7])
  | succ g ih =>
    intro x1 D h
    rw [f_X2_close_b7] at h
    refine v_iload_n (pc := 7) O dX2_close_7 1 rfl ?_
    refine v_aload_n (pc := 8) O dX2_close_8 0 rfl ?_
    refine v_getI (pc := 9) (a := 1) O gf_X2_0 fl_X2_9 kq_1 dX2_close_9 ?_
    refine v_icmpge (pc := 12) 42 O dX2_close_12 (by decide) (fun c1 => ?_) (fun c1 => ?_)
    · have h := (if_pos c1).symm.trans h
      obtain rfl := Option.some.inj h
      exact v_ret (pc := 42) O hz dX2_close_42
    · have h := (if_neg c1).symm.trans h
      refine v_aload_n (pc := 15) O dX2_close_15 0 rfl ?_
      refine v_getK (pc := 16) (a := 1) O hm gf_X2_1 fl_X2_15 kq_1 lk_1_1 dX2_close_16 ?_
      refine v_iload_n (pc := 19) O dX2_close_19 1 rfl ?_
      obtain ⟨c2, h⟩ := or_none h
      refine v_iald (pc := 20) (a := 2) O kq_2 (inq lq_2 c2) dX2_close_20 ?_
      obtain ⟨p3, e4, h⟩ := bind_some h
      refine v_callS (pc := 21) (As := [.int (dI D 2 (x1).toNatClampNeg)]) (rest := []) (r := (some (.int p3.1))) (D' := p3.2) O (bb0 hz) (c_J6_bitCount_0f7a4 hm e4) mw_J6_bitCount_0f7a4 sm_J6_bitCount_0f7a4 ml_X2_34 rfl (by decide) (by decide) (Nat.le_of_ble_eq_true rfl) dX2_close_21 rfl rfl ?_
      refine v_aload_n (pc := 24) O dX2_close_24 0 rfl ?_
      refine v_getI (pc := 25) (a := 1) O gf_X2_0 fl_X2_9 kq_1 dX2_close_25 ?_
      refine v_icmpne (pc := 28) 36 O dX2_close_28 (by decide) (fun c5 => ?_) (fun c5 => ?_)
      · have h := (if_neg c5).symm.trans h
        refine v_sub [0, 1] rfl ?_
        exact w_X2_close_b36 O hm hn hz ih x1 p3.2 h
      · have h := (if_pos c5).symm.trans h
        refine v_aload_n (pc := 31) O dX2_close_31 0 rfl ?_
        refine v_iload_n (pc := 32) O dX2_close_32 1 rfl ?_
        refine v_putI (pc := 33) (a := 1) O pf_X2_3 fl_X2_23 kq_1 dX2_close_33 ?_
        refine v_sub [0, 1] rfl ?_
        exact w_X2_close_b36 O hm hn hz ih x1 (sI p3.2 1 3 x1) h
def f_X2_close (N : Nat) (nu : Nat) (K : Nat → Nat) (D : Dat) : Option (Dat) :=
  f_X2_close_b7 N nu K N 0 (sI D 1 2 1)
set_option maxHeartbeats 4000000 in
theorem w_X2_close {X : Cx} {n nu c u : Nat} {K : Nat → Nat} {N : Nat} {z : Dat} (O : Ok X cX2_close RX2 none 1 20) (hm : wlm (xw X) = true) (hn : xn X = 2) (hz : Z0 X (Ax nu K c u)) (D : Dat) (h : f_X2_close N nu K D = some z) : V X (Q0 X n (Ax nu K c u) none z) n (Ax nu K c u) D 0 [(0, .ref (bo X + pp 1))] [] := by
  unfold f_X2_close at h
  refine v_aload_n (pc := 0) O dX2_close_0 0 rfl ?_
  refine v_iconst (pc := 1) O dX2_close_1 ic_1 ?_
  refine v_putZ (pc := 2) (a := 1) O pf_X2_2 fl_X2_19 kq_1 narrow_b1 dX2_close_2 ?_
  refine v_iconst (pc := 5) O dX2_close_5 ic_0 ?_
  refine v_istore_n (pc := 6) (lv' := [(1, .int 0), (0, .ref (bo X + pp 1))]) O dX2_close_6 rfl (by rw [hn]; decide) rfl ?_
  refine v_sub [1, 0] rfl ?_
  exact w_X2_close_b7 O hm hn hz N 0 (sI D 1 2 1) h
theorem c_X2_close {l : Launch} {w : Wx} {n nu c u : Nat} {K : Nat → Nat} {N : Nat} (hm : wlm w = true) {D : Dat} {z : Dat} (h : f_X2_close N nu K D = some z) : C0 l w yX2_close cX2_close 2 none 1 20 [.ref (wb w + pp 1)] n (Ax nu K c u) D none z :=
  C0.of (by decide) (Nat.le_of_ble_eq_true rfl) (fun X e1 e2 e3 hz O => by
  subst e1
  subst e2
  exact w_X2_close O hm e3 hz  D h)
def f_X2_shade_b29 (nu : Nat) (K : Nat → Nat) (s0 : Int32) (D : Dat) : Option (Int32 × Dat) :=
  some (s0, D)
set_option maxHeartbeats 4000000 in
theorem w_X2_shade_b29 {X : Cx} {n nu c u : Nat} {K : Nat → Nat} {z : Int32 × Dat} (O : Ok X cX2_shade RX2 (some .int) 1 21) (hm : wlm (xw X) = true) (hn : xn X = 2) (hz : Z0 X (Ax nu K c u)) (s0 : Int32) (D : Dat) (h : f_X2_shade_b29 nu K s0 D = some z) : V X (Q0 X n (Ax nu K c u) (some (.int z.1)) z.2) n (Ax nu K c u) D 29 [] [.int s0] := by
  unfold f_X2_shade_b29 at h
  obtain rfl := Option.some.inj h
  exact v_iret (pc := 29) O hz dX2_shade_29
def f_X2_shade (nu : Nat) (K : Nat → Nat) (x1 : Int32) (D : Dat) : Option (Int32 × Dat) :=
  (f_X2_has x1 D).bind (fun p1 => if p1.1 = 0 then (f_X2_shade_b29 nu K 0 p1.2) else (if x1 < 0 ∨ nu ≤ (x1).toNatClampNeg then none else (f_X2_shade_b29 nu K (((dI p1.2 2 (x1).toNatClampNeg) ^^^ ((-1) : Int32)) &&& (((1 : Int32) <<< ((dI p1.2 1 0) &&& 31)) - (1 : Int32))) p1.2)))
set_option maxHeartbeats 4000000 in
theorem w_X2_shade {X : Cx} {n nu c u : Nat} {K : Nat → Nat} {z : Int32 × Dat} (O : Ok X cX2_shade RX2 (some .int) 1 21) (hm : wlm (xw X) = true) (hn : xn X = 2) (hz : Z0 X (Ax nu K c u)) (x1 : Int32) (D : Dat) (h : f_X2_shade nu K x1 D = some z) : V X (Q0 X n (Ax nu K c u) (some (.int z.1)) z.2) n (Ax nu K c u) D 0 [(0, .ref (bo X + pp 1)), (1, .int x1)] [] := by
  unfold f_X2_shade at h
  refine v_aload_n (pc := 0) O dX2_shade_0 0 rfl ?_
  refine v_iload_n (pc := 1) O dX2_shade_1 1 rfl ?_
  obtain ⟨p1, e2, h⟩ := bind_some h
  refine v_callV (pc := 2) (a := 1) (As := [.int x1]) (rest := []) (r := (some (.int p1.1))) (D' := p1.2) O (bb0 hz) (c_X2_has hm e2) mw_X2_has im_X2_has se_X2_has ml_X2_26 kq_1 (by decide) rfl rfl rfl (by decide) (by decide) (Nat.le_of_ble_eq_true rfl) dX2_shade_2 rfl rfl ?_
  refine v_ifeq (pc := 5) 28 O dX2_shade_5 (by decide) (fun c3 => ?_) (fun c3 => ?_)
  · have h := (if_pos c3).symm.trans h
    refine v_iconst (pc := 28) O dX2_shade_28 ic_0 ?_
    refine v_sub [] rfl ?_
    exact w_X2_shade_b29 O hm hn hz 0 p1.2 h
  · have h := (if_neg c3).symm.trans h
    refine v_aload_n (pc := 8) O dX2_shade_8 0 rfl ?_
    refine v_getK (pc := 9) (a := 1) O hm gf_X2_1 fl_X2_15 kq_1 lk_1_1 dX2_shade_9 ?_
    refine v_iload_n (pc := 12) O dX2_shade_12 1 rfl ?_
    obtain ⟨c4, h⟩ := or_none h
    refine v_iald (pc := 13) (a := 2) O kq_2 (inq lq_2 c4) dX2_shade_13 ?_
    refine v_iconst (pc := 14) O dX2_shade_14 ic_m1 ?_
    refine v_ixor (pc := 15) O dX2_shade_15 ?_
    refine v_iconst (pc := 16) O dX2_shade_16 ic_1 ?_
    refine v_aload_n (pc := 17) O dX2_shade_17 0 rfl ?_
    refine v_getI (pc := 18) (a := 1) O gf_X2_0 fl_X2_9 kq_1 dX2_shade_18 ?_
    refine v_ishl (pc := 21) O dX2_shade_21 ?_
    refine v_iconst (pc := 22) O dX2_shade_22 ic_1 ?_
    refine v_isub (pc := 23) O dX2_shade_23 ?_
    refine v_iand (pc := 24) O dX2_shade_24 ?_
    refine v_goto (pc := 25) 29 O dX2_shade_25 (by decide) ?_
    refine v_sub [] rfl ?_
    exact w_X2_shade_b29 O hm hn hz (((dI p1.2 2 (x1).toNatClampNeg) ^^^ ((-1) : Int32)) &&& (((1 : Int32) <<< ((dI p1.2 1 0) &&& 31)) - (1 : Int32))) p1.2 h
theorem c_X2_shade {l : Launch} {w : Wx} {n nu c u : Nat} {K : Nat → Nat} (hm : wlm w = true) {x1 : Int32} {D : Dat} {z : Int32 × Dat} (h : f_X2_shade nu K x1 D = some z) : C0 l w yX2_shade cX2_shade 2 (some .int) 1 21 [.ref (wb w + pp 1), .int x1] n (Ax nu K c u) D (some (.int z.1)) z.2 :=
  C0.of (by decide) (Nat.le_of_ble_eq_true rfl) (fun X e1 e2 e3 hz O => by
  subst e1
  subst e2
  exact w_X2_shade O hm e3 hz x1 D h)
def f_X2_fits_b33 (s0 : Int32) (D : Dat) : Option (Int32 × Dat) :=
  if s0 &&& 1 = s0 then some (s0, D) else none
set_option maxHeartbeats 4000000 in
theorem w_X2_fits_b33 {X : Cx} {n nu c u : Nat} {K : Nat → Nat} {z : Int32 × Dat} (O : Ok X cX2_fits RX2 (some .boolean) 1 21) (hm : wlm (xw X) = true) (hn : xn X = 3) (hz : Z0 X (Ax nu K c u)) (s0 : Int32) (D : Dat) (h : f_X2_fits_b33 s0 D = some z) : V X (Q0 X n (Ax nu K c u) (some (.int z.1)) z.2) n (Ax nu K c u) D 33 [] [.int s0] := by
  unfold f_X2_fits_b33 at h
  obtain ⟨c1, h⟩ := if_none h
  obtain rfl := Option.some.inj h
  exact v_zret (pc := 33) O hz (congrArg Value.int c1) dX2_fits_33
def f_X2_fits (x1 : Int32) (x2 : Int32) (D : Dat) : Option (Int32 × Dat) :=
  (f_X2_has x2 D).bind (fun p2 => if p2.1 = 0 then (if x1 = 0 then (f_X2_fits_b33 1 p2.2) else (f_X2_fits_b33 0 p2.2)) else (if ((x1 >>> (x2 &&& 31)) &&& (1 : Int32)) = 0 then (f_X2_fits_b33 1 p2.2) else (f_X2_fits_b33 0 p2.2)))
set_option maxHeartbeats 4000000 in
theorem w_X2_fits {X : Cx} {n nu c u : Nat} {K : Nat → Nat} {z : Int32 × Dat} (O : Ok X cX2_fits RX2 (some .boolean) 1 21) (hm : wlm (xw X) = true) (hn : xn X = 3) (hz : Z0 X (Ax nu K c u)) (x1 : Int32) (x2 : Int32) (D : Dat) (h : f_X2_fits x1 x2 D = some z) : V X (Q0 X n (Ax nu K c u) (some (.int z.1)) z.2) n (Ax nu K c u) D 0 [(0, .ref (bo X + pp 1)), (1, .int x1), (2, .int x2)] [] := by
  unfold f_X2_fits at h
  refine v_aload_n (pc := 0) O dX2_fits_0 0 rfl ?_
  refine v_iload_n (pc := 1) O dX2_fits_1 2 rfl ?_
  obtain ⟨p2, e3, h⟩ := bind_some h
  refine v_callV (pc := 2) (a := 1) (As := [.int x2]) (rest := []) (r := (some (.int p2.1))) (D' := p2.2) O (bb0 hz) (c_X2_has hm e3) mw_X2_has im_X2_has se_X2_has ml_X2_26 kq_1 (by decide) rfl rfl rfl (by decide) (by decide) (Nat.le_of_ble_eq_true rfl) dX2_fits_2 rfl rfl ?_
  refine v_ifeq (pc := 5) 24 O dX2_fits_5 (by decide) (fun c4 => ?_) (fun c4 => ?_)
  · have h := (if_pos c4).symm.trans h
    refine v_iload_n (pc := 24) O dX2_fits_24 1 rfl ?_
    refine v_ifne (pc := 25) 32 O dX2_fits_25 (by decide) (fun c5 => ?_) (fun c5 => ?_)
    · have h := (if_neg c5).symm.trans h
      refine v_iconst (pc := 32) O dX2_fits_32 ic_0 ?_
      refine v_sub [] rfl ?_
      exact w_X2_fits_b33 O hm hn hz 0 p2.2 h
    · have h := (if_pos c5).symm.trans h
      refine v_iconst (pc := 28) O dX2_fits_28 ic_1 ?_
      refine v_goto (pc := 29) 33 O dX2_fits_29 (by decide) ?_
      refine v_sub [] rfl ?_
      exact w_X2_fits_b33 O hm hn hz 1 p2.2 h
  · have h := (if_neg c4).symm.trans h
    refine v_iload_n (pc := 8) O dX2_fits_8 1 rfl ?_
    refine v_iload_n (pc := 9) O dX2_fits_9 2 rfl ?_
    refine v_ishr (pc := 10) O dX2_fits_10 ?_
    refine v_iconst (pc := 11) O dX2_fits_11 ic_1 ?_
    refine v_iand (pc := 12) O dX2_fits_12 ?_
    refine v_ifne (pc := 13) 20 O dX2_fits_13 (by decide) (fun c6 => ?_) (fun c6 => ?_)
    · have h := (if_neg c6).symm.trans h
      refine v_iconst (pc := 20) O dX2_fits_20 ic_0 ?_
      refine v_goto (pc := 21) 33 O dX2_fits_21 (by decide) ?_
      refine v_sub [] rfl ?_
      exact w_X2_fits_b33 O hm hn hz 0 p2.2 h
    · have h := (if_pos c6).symm.trans h
      refine v_iconst (pc := 16) O dX2_fits_16 ic_1 ?_
      refine v_goto (pc := 17) 33 O dX2_fits_17 (by decide) ?_
      refine v_sub [] rfl ?_
      exact w_X2_fits_b33 O hm hn hz 1 p2.2 h
theorem c_X2_fits {l : Launch} {w : Wx} {n nu c u : Nat} {K : Nat → Nat} (hm : wlm w = true) {x1 : Int32} {x2 : Int32} {D : Dat} {z : Int32 × Dat} (h : f_X2_fits x1 x2 D = some z) : C0 l w yX2_fits cX2_fits 3 (some .boolean) 1 21 [.ref (wb w + pp 1), .int x1, .int x2] n (Ax nu K c u) D (some (.int z.1)) z.2 :=
  C0.of (by decide) (Nat.le_of_ble_eq_true rfl) (fun X e1 e2 e3 hz O => by
  subst e1
  subst e2
  exact w_X2_fits O hm e3 hz x1 x2 D h)
def f_X2_labelOf_b2 (N : Nat) (nu : Nat) (K : Nat → Nat) : Nat → Int32 → Int32 → Dat → Option (Int32 × Dat)
  | 0, _, _, _ => none
  | g + 1, x1, x2, D => if (dI D 1 0) ≤ x2 then (some ((dI D 1 3), D)) else ((f_X2_shade nu K x2 D).bind (fun p2 => if p2.1 = x1 then (some (x2, p2.2)) else ((f_X2_labelOf_b2 N nu K g) x1 (x2 + 1) p2.2)))
set_option maxHeartbeats 4000000 in
theorem w_X2_labelOf_b2 {X : Cx} {n nu c u : Nat} {K : Nat → Nat} {N : Nat} {z : Int32 × Dat} (O : Ok X cX2_labelOf RX2 (some .int) 2 42) (hm : wlm (xw X) = true) (hn : xn X = 3) (hz : Z0 X (Ax nu K c u)) : ∀ (g : Nat) (x1 : Int32) (x2 : Int32) (D : Dat), f_X2_labelOf_b2 N nu K g x1 x2 D = some z → V X (Q0 X n (Ax nu K c u) (some (.int z.1)) z.2) n (Ax nu K c u) D 2 [(0, .ref (bo X + pp 1)), (1, .int x1), (2, .int x2)] [] := by
  intro g
  induction g with
  | zero => intro x1 x2 D h; exact absurd h (by simp [f_X2_labelOf_b2])
  | succ g ih =>
    intro x1 x2 D h
    rw [f_X2_labelOf_b2] at h
    refine v_iload_n (pc := 2) O dX2_labelOf_2 2 rfl ?_
    refine v_aload_n (pc := 3) O dX2_labelOf_3 0 rfl ?_
    refine v_getI (pc := 4) (a := 1) O gf_X2_0 fl_X2_9 kq_1 dX2_labelOf_4 ?_
    refine v_icmpge (pc := 7) 27 O dX2_labelOf_7 (by decide) (fun c1 => ?_) (fun c1 => ?_)
    · have h := (if_pos c1).symm.trans h
      refine v_aload_n (pc := 27) O dX2_labelOf_27 0 rfl ?_
      refine v_getI (pc := 28) (a := 1) O gf_X2_3 fl_X2_23 kq_1 dX2_labelOf_28 ?_
      obtain rfl := Option.some.inj h
      exact v_iret (pc := 31) O hz dX2_labelOf_31
    · have h := (if_neg c1).symm.trans h
      refine v_aload_n (pc := 10) O dX2_labelOf_10 0 rfl ?_
      refine v_iload_n (pc := 11) O dX2_labelOf_11 2 rfl ?_
      obtain ⟨p2, e3, h⟩ := bind_some h
      refine v_callV (pc := 12) (a := 1) (As := [.int x2]) (rest := []) (r := (some (.int p2.1))) (D' := p2.2) O (bb0 hz) (c_X2_shade hm e3) mw_X2_shade im_X2_shade se_X2_shade ml_X2_54 kq_1 (by decide) rfl rfl rfl (by decide) (by decide) (Nat.le_of_ble_eq_true rfl) dX2_labelOf_12 rfl rfl ?_
      refine v_iload_n (pc := 15) O dX2_labelOf_15 1 rfl ?_
      refine v_icmpne (pc := 16) 21 O dX2_labelOf_16 (by decide) (fun c4 => ?_) (fun c4 => ?_)
      · have h := (if_neg c4).symm.trans h
        refine v_iinc (pc := 21) (lv' := [(2, .int (x2 + 1)), (0, .ref (bo X + pp 1)), (1, .int x1)]) O dX2_labelOf_21 2 rfl (congrArg (fun q => x2 + q) ic_1) (by rw [hn]; decide) rfl ?_
        refine v_goto (pc := 24) 2 O dX2_labelOf_24 (by decide) ?_
        refine v_sub [1, 2, 0] rfl ?_
        exact ih x1 (x2 + 1) p2.2 h
      · have h := (if_pos c4).symm.trans h
        refine v_iload_n (pc := 19) O dX2_labelOf_19 2 rfl ?_
        obtain rfl := Option.some.inj h
        exact v_iret (pc := 20) O hz dX2_labelOf_20
def f_X2_labelOf (N : Nat) (nu : Nat) (K : Nat → Nat) (x1 : Int32) (D : Dat) : Option (Int32 × Dat) :=
  f_X2_labelOf_b2 N nu K N x1 0 D
set_option maxHeartbeats 4000000 in
theorem w_X2_labelOf {X : Cx} {n nu c u : Nat} {K : Nat → Nat} {N : Nat} {z : Int32 × Dat} (O : Ok X cX2_labelOf RX2 (some .int) 2 42) (hm : wlm (xw X) = true) (hn : xn X = 3) (hz : Z0 X (Ax nu K c u)) (x1 : Int32) (D : Dat) (h : f_X2_labelOf N nu K x1 D = some z) : V X (Q0 X n (Ax nu K c u) (some (.int z.1)) z.2) n (Ax nu K c u) D 0 [(0, .ref (bo X + pp 1)), (1, .int x1)] [] := by
  unfold f_X2_labelOf at h
  refine v_iconst (pc := 0) O dX2_labelOf_0 ic_0 ?_
  refine v_istore_n (pc := 1) (lv' := [(2, .int 0), (0, .ref (bo X + pp 1)), (1, .int x1)]) O dX2_labelOf_1 rfl (by rw [hn]; decide) rfl ?_
  refine v_sub [1, 2, 0] rfl ?_
  exact w_X2_labelOf_b2 O hm hn hz N x1 0 D h
theorem c_X2_labelOf {l : Launch} {w : Wx} {n nu c u : Nat} {K : Nat → Nat} {N : Nat} (hm : wlm w = true) {x1 : Int32} {D : Dat} {z : Int32 × Dat} (h : f_X2_labelOf N nu K x1 D = some z) : C0 l w yX2_labelOf cX2_labelOf 3 (some .int) 2 42 [.ref (wb w + pp 1), .int x1] n (Ax nu K c u) D (some (.int z.1)) z.2 :=
  C0.of (by decide) (Nat.le_of_ble_eq_true rfl) (fun X e1 e2 e3 hz O => by
  subst e1
  subst e2
  exact w_X2_labelOf O hm e3 hz x1 D h)
def f_X0_size (t : Nat) (D : Dat) : Option (Int32 × Dat) :=
  some ((dI D t 2), D)
set_option maxHeartbeats 4000000 in
theorem w_X0_size {X : Cx} {n nu c u : Nat} {K : Nat → Nat} {t : Nat} {z : Int32 × Dat} (O : Ok X cX0_size RX0 (some .int) 0 0) (hm : wlm (xw X) = true) (hn : xn X = 1) (hz : Z0 X (Ax nu K c u)) (ht : t = 201 ∨ t = 204) (D : Dat) (h : f_X0_size t D = some z) : V X (Q0 X n (Ax nu K c u) (some (.int z.1)) z.2) n (Ax nu K c u) D 0 [(0, .ref (bo X + pp t))] [] := by
  unfold f_X0_size at h
  refine v_aload_n (pc := 0) O dX0_size_0 0 rfl ?_
  refine v_getI (pc := 1) (a := t) O gf_X0_2 fl_X0_18 (kt_X0 ht) dX0_size_1 ?_
  obtain rfl := Option.some.inj h
  exact v_iret (pc := 4) O hz dX0_size_4
theorem c_X0_size {l : Launch} {w : Wx} {n nu c u : Nat} {K : Nat → Nat} {t : Nat} (hm : wlm w = true) (ht : t = 201 ∨ t = 204) {D : Dat} {z : Int32 × Dat} (h : f_X0_size t D = some z) : C0 l w yX0_size cX0_size 1 (some .int) 0 0 [.ref (wb w + pp t)] n (Ax nu K c u) D (some (.int z.1)) z.2 :=
  C0.of (by decide) (Nat.le_of_ble_eq_true rfl) (fun X e1 e2 e3 hz O => by
  subst e1
  subst e2
  exact w_X0_size O hm e3 hz ht  D h)
def f_X0_empty (t : Nat) (D : Dat) : Option (Dat) :=
  some (sI D t 2 0)
set_option maxHeartbeats 4000000 in
theorem w_X0_empty {X : Cx} {n nu c u : Nat} {K : Nat → Nat} {t : Nat} {z : Dat} (O : Ok X cX0_empty RX0 none 0 0) (hm : wlm (xw X) = true) (hn : xn X = 1) (hz : Z0 X (Ax nu K c u)) (ht : t = 201 ∨ t = 204) (D : Dat) (h : f_X0_empty t D = some z) : V X (Q0 X n (Ax nu K c u) none z) n (Ax nu K c u) D 0 [(0, .ref (bo X + pp t))] [] := by
  unfold f_X0_empty at h
  refine v_aload_n (pc := 0) O dX0_empty_0 0 rfl ?_
  refine v_iconst (pc := 1) O dX0_empty_1 ic_0 ?_
  refine v_putI (pc := 2) (a := t) O pf_X0_2 fl_X0_18 (kt_X0 ht) dX0_empty_2 ?_
  obtain rfl := Option.some.inj h
  exact v_ret (pc := 5) O hz dX0_empty_5
theorem c_X0_empty {l : Launch} {w : Wx} {n nu c u : Nat} {K : Nat → Nat} {t : Nat} (hm : wlm w = true) (ht : t = 201 ∨ t = 204) {D : Dat} {z : Dat} (h : f_X0_empty t D = some z) : C0 l w yX0_empty cX0_empty 1 none 0 0 [.ref (wb w + pp t)] n (Ax nu K c u) D none z :=
  C0.of (by decide) (Nat.le_of_ble_eq_true rfl) (fun X e1 e2 e3 hz O => by
  subst e1
  subst e2
  exact w_X0_empty O hm e3 hz ht  D h)
def f_X0_has_b17 (t : Nat) (s0 : Int32) (D : Dat) : Option (Int32 × Dat) :=
  if s0 &&& 1 = s0 then some (s0, D) else none
set_option maxHeartbeats 4000000 in
theorem w_X0_has_b17 {X : Cx} {n nu c u : Nat} {K : Nat → Nat} {t : Nat} {z : Int32 × Dat} (O : Ok X cX0_has RX0 (some .boolean) 0 0) (hm : wlm (xw X) = true) (hn : xn X = 2) (hz : Z0 X (Ax nu K c u)) (ht : t = 201 ∨ t = 204) (s0 : Int32) (D : Dat) (h : f_X0_has_b17 t s0 D = some z) : V X (Q0 X n (Ax nu K c u) (some (.int z.1)) z.2) n (Ax nu K c u) D 17 [] [.int s0] := by
  unfold f_X0_has_b17 at h
  obtain ⟨c1, h⟩ := if_none h
  obtain rfl := Option.some.inj h
  exact v_zret (pc := 17) O hz (congrArg Value.int c1) dX0_has_17
def f_X0_has_b16 (t : Nat) (D : Dat) : Option (Int32 × Dat) :=
  f_X0_has_b17 t 0 D
set_option maxHeartbeats 4000000 in
theorem w_X0_has_b16 {X : Cx} {n nu c u : Nat} {K : Nat → Nat} {t : Nat} {z : Int32 × Dat} (O : Ok X cX0_has RX0 (some .boolean) 0 0) (hm : wlm (xw X) = true) (hn : xn X = 2) (hz : Z0 X (Ax nu K c u)) (ht : t = 201 ∨ t = 204) (D : Dat) (h : f_X0_has_b16 t D = some z) : V X (Q0 X n (Ax nu K c u) (some (.int z.1)) z.2) n (Ax nu K c u) D 16 [] [] := by
  unfold f_X0_has_b16 at h
  refine v_iconst (pc := 16) O dX0_has_16 ic_0 ?_
  refine v_sub [] rfl ?_
  exact w_X0_has_b17 O hm hn hz ht 0 D h
def f_X0_has (t : Nat) (x1 : Int32) (D : Dat) : Option (Int32 × Dat) :=
  if x1 < 0 then (f_X0_has_b16 t D) else (if (dI D t 2) ≤ x1 then (f_X0_has_b16 t D) else (f_X0_has_b17 t 1 D))
set_option maxHeartbeats 4000000 in
theorem w_X0_has {X : Cx} {n nu c u : Nat} {K : Nat → Nat} {t : Nat} {z : Int32 × Dat} (O : Ok X cX0_has RX0 (some .boolean) 0 0) (hm : wlm (xw X) = true) (hn : xn X = 2) (hz : Z0 X (Ax nu K c u)) (ht : t = 201 ∨ t = 204) (x1 : Int32) (D : Dat) (h : f_X0_has t x1 D = some z) : V X (Q0 X n (Ax nu K c u) (some (.int z.1)) z.2) n (Ax nu K c u) D 0 [(0, .ref (bo X + pp t)), (1, .int x1)] [] := by
  unfold f_X0_has at h
  refine v_iload_n (pc := 0) O dX0_has_0 1 rfl ?_
  refine v_iflt (pc := 1) 16 O dX0_has_1 (by decide) (fun c2 => ?_) (fun c2 => ?_)
  · have h := (if_pos c2).symm.trans h
    refine v_sub [] rfl ?_
    exact w_X0_has_b16 O hm hn hz ht D h
  · have h := (if_neg c2).symm.trans h
    refine v_iload_n (pc := 4) O dX0_has_4 1 rfl ?_
    refine v_aload_n (pc := 5) O dX0_has_5 0 rfl ?_
    refine v_getI (pc := 6) (a := t) O gf_X0_2 fl_X0_18 (kt_X0 ht) dX0_has_6 ?_
    refine v_icmpge (pc := 9) 16 O dX0_has_9 (by decide) (fun c3 => ?_) (fun c3 => ?_)
    · have h := (if_pos c3).symm.trans h
      refine v_sub [] rfl ?_
      exact w_X0_has_b16 O hm hn hz ht D h
    · have h := (if_neg c3).symm.trans h
      refine v_iconst (pc := 12) O dX0_has_12 ic_1 ?_
      refine v_goto (pc := 13) 17 O dX0_has_13 (by decide) ?_
      refine v_sub [] rfl ?_
      exact w_X0_has_b17 O hm hn hz ht 1 D h
theorem c_X0_has {l : Launch} {w : Wx} {n nu c u : Nat} {K : Nat → Nat} {t : Nat} (hm : wlm w = true) (ht : t = 201 ∨ t = 204) {x1 : Int32} {D : Dat} {z : Int32 × Dat} (h : f_X0_has t x1 D = some z) : C0 l w yX0_has cX0_has 2 (some .boolean) 0 0 [.ref (wb w + pp t), .int x1] n (Ax nu K c u) D (some (.int z.1)) z.2 :=
  C0.of (by decide) (Nat.le_of_ble_eq_true rfl) (fun X e1 e2 e3 hz O => by
  subst e1
  subst e2
  exact w_X0_has O hm e3 hz ht x1 D h)
def f_X0_add_b39 (t : Nat) (D : Dat) : Option (Dat) :=
  some D
set_option maxHeartbeats 4000000 in
theorem w_X0_add_b39 {X : Cx} {n nu c u : Nat} {K : Nat → Nat} {t : Nat} {z : Dat} (O : Ok X cX0_add RX0 none 0 0) (hm : wlm (xw X) = true) (hn : xn X = 3) (hz : Z0 X (Ax nu K c u)) (ht : t = 201 ∨ t = 204) (D : Dat) (h : f_X0_add_b39 t D = some z) : V X (Q0 X n (Ax nu K c u) none z) n (Ax nu K c u) D 39 [] [] := by
  unfold f_X0_add_b39 at h
  obtain rfl := Option.some.inj h
  exact v_ret (pc := 39) O hz dX0_add_39
def f_X0_add (t : Nat) (x1 : Int32) (x2 : Int32) (D : Dat) : Option (Dat) :=
  if 64 ≤ (dI D t 2) then (f_X0_add_b39 t D) else (if (dI D t 2) < 0 ∨ 64 ≤ ((dI D t 2)).toNatClampNeg then none else (if (dI (sI D (t + 1) (dI D t 2).toNatClampNeg x1) t 2) < 0 ∨ 64 ≤ ((dI (sI D (t + 1) (dI D t 2).toNatClampNeg x1) t 2)).toNatClampNeg then none else (f_X0_add_b39 t (sI (sI (sI D (t + 1) (dI D t 2).toNatClampNeg x1) (t + 2) (dI (sI D (t + 1) (dI D t 2).toNatClampNeg x1) t 2).toNatClampNeg x2) t 2 ((dI (sI (sI D (t + 1) (dI D t 2).toNatClampNeg x1) (t + 2) (dI (sI D (t + 1) (dI D t 2).toNatClampNeg x1) t 2).toNatClampNeg x2) t 2) + (1 : Int32))))))
set_option maxHeartbeats 4000000 in
theorem w_X0_add {X : Cx} {n nu c u : Nat} {K : Nat → Nat} {t : Nat} {z : Dat} (O : Ok X cX0_add RX0 none 0 0) (hm : wlm (xw X) = true) (hn : xn X = 3) (hz : Z0 X (Ax nu K c u)) (ht : t = 201 ∨ t = 204) (x1 : Int32) (x2 : Int32) (D : Dat) (h : f_X0_add t x1 x2 D = some z) : V X (Q0 X n (Ax nu K c u) none z) n (Ax nu K c u) D 0 [(0, .ref (bo X + pp t)), (1, .int x1), (2, .int x2)] [] := by
  unfold f_X0_add at h
  refine v_aload_n (pc := 0) O dX0_add_0 0 rfl ?_
  refine v_getI (pc := 1) (a := t) O gf_X0_2 fl_X0_18 (kt_X0 ht) dX0_add_1 ?_
  refine v_bipush (pc := 4) O dX0_add_4 bp_64 ?_
  refine v_icmpge (pc := 6) 39 O dX0_add_6 (by decide) (fun c1 => ?_) (fun c1 => ?_)
  · have h := (if_pos c1).symm.trans h
    refine v_sub [] rfl ?_
    exact w_X0_add_b39 O hm hn hz ht D h
  · have h := (if_neg c1).symm.trans h
    refine v_aload_n (pc := 9) O dX0_add_9 0 rfl ?_
    refine v_getK (pc := 10) (a := t) O hm gf_X0_0 fl_X0_9 (kt_X0 ht) (lt_X0_0 ht) dX0_add_10 ?_
    refine v_aload_n (pc := 13) O dX0_add_13 0 rfl ?_
    refine v_getI (pc := 14) (a := t) O gf_X0_2 fl_X0_18 (kt_X0 ht) dX0_add_14 ?_
    refine v_iload_n (pc := 17) O dX0_add_17 1 rfl ?_
    obtain ⟨c2, h⟩ := or_none h
    refine v_iast (pc := 18) (a := (t + 1)) O (ka_X0_1 ht) (inq (la_X0_1 ht) c2) dX0_add_18 ?_
    refine v_aload_n (pc := 19) O dX0_add_19 0 rfl ?_
    refine v_getK (pc := 20) (a := t) O hm gf_X0_1 fl_X0_15 (kt_X0 ht) (lt_X0_1 ht) dX0_add_20 ?_
    refine v_aload_n (pc := 23) O dX0_add_23 0 rfl ?_
    refine v_getI (pc := 24) (a := t) O gf_X0_2 fl_X0_18 (kt_X0 ht) dX0_add_24 ?_
    refine v_iload_n (pc := 27) O dX0_add_27 2 rfl ?_
    obtain ⟨c3, h⟩ := or_none h
    refine v_iast (pc := 28) (a := (t + 2)) O (ka_X0_2 ht) (inq (la_X0_2 ht) c3) dX0_add_28 ?_
    refine v_aload_n (pc := 29) O dX0_add_29 0 rfl ?_
    refine v_dup (pc := 30) O dX0_add_30 rfl ?_
    refine v_getI (pc := 31) (a := t) O gf_X0_2 fl_X0_18 (kt_X0 ht) dX0_add_31 ?_
    refine v_iconst (pc := 34) O dX0_add_34 ic_1 ?_
    refine v_iadd (pc := 35) O dX0_add_35 ?_
    refine v_putI (pc := 36) (a := t) O pf_X0_2 fl_X0_18 (kt_X0 ht) dX0_add_36 ?_
    refine v_sub [] rfl ?_
    exact w_X0_add_b39 O hm hn hz ht (sI (sI (sI D (t + 1) (dI D t 2).toNatClampNeg x1) (t + 2) (dI (sI D (t + 1) (dI D t 2).toNatClampNeg x1) t 2).toNatClampNeg x2) t 2 ((dI (sI (sI D (t + 1) (dI D t 2).toNatClampNeg x1) (t + 2) (dI (sI D (t + 1) (dI D t 2).toNatClampNeg x1) t 2).toNatClampNeg x2) t 2) + (1 : Int32))) h
theorem c_X0_add {l : Launch} {w : Wx} {n nu c u : Nat} {K : Nat → Nat} {t : Nat} (hm : wlm w = true) (ht : t = 201 ∨ t = 204) {x1 : Int32} {x2 : Int32} {D : Dat} {z : Dat} (h : f_X0_add t x1 x2 D = some z) : C0 l w yX0_add cX0_add 3 none 0 0 [.ref (wb w + pp t), .int x1, .int x2] n (Ax nu K c u) D none z :=
  C0.of (by decide) (Nat.le_of_ble_eq_true rfl) (fun X e1 e2 e3 hz O => by
  subst e1
  subst e2
  exact w_X0_add O hm e3 hz ht x1 x2 D h)
def f_X0_aim_b15 (t : Nat) (D : Dat) : Option (Dat) :=
  some D
set_option maxHeartbeats 4000000 in
theorem w_X0_aim_b15 {X : Cx} {n nu c u : Nat} {K : Nat → Nat} {t : Nat} {z : Dat} (O : Ok X cX0_aim RX0 none 1 21) (hm : wlm (xw X) = true) (hn : xn X = 3) (hz : Z0 X (Ax nu K c u)) (ht : t = 201 ∨ t = 204) (D : Dat) (h : f_X0_aim_b15 t D = some z) : V X (Q0 X n (Ax nu K c u) none z) n (Ax nu K c u) D 15 [] [] := by
  unfold f_X0_aim_b15 at h
  obtain rfl := Option.some.inj h
  exact v_ret (pc := 15) O hz dX0_aim_15
def f_X0_aim (t : Nat) (x1 : Int32) (x2 : Int32) (D : Dat) : Option (Dat) :=
  (f_X0_has t x1 D).bind (fun p1 => if p1.1 = 0 then (f_X0_aim_b15 t p1.2) else (if x1 < 0 ∨ 64 ≤ (x1).toNatClampNeg then none else (f_X0_aim_b15 t (sI p1.2 (t + 2) (x1).toNatClampNeg x2))))
set_option maxHeartbeats 4000000 in
theorem w_X0_aim {X : Cx} {n nu c u : Nat} {K : Nat → Nat} {t : Nat} {z : Dat} (O : Ok X cX0_aim RX0 none 1 21) (hm : wlm (xw X) = true) (hn : xn X = 3) (hz : Z0 X (Ax nu K c u)) (ht : t = 201 ∨ t = 204) (x1 : Int32) (x2 : Int32) (D : Dat) (h : f_X0_aim t x1 x2 D = some z) : V X (Q0 X n (Ax nu K c u) none z) n (Ax nu K c u) D 0 [(0, .ref (bo X + pp t)), (1, .int x1), (2, .int x2)] [] := by
  unfold f_X0_aim at h
  refine v_aload_n (pc := 0) O dX0_aim_0 0 rfl ?_
  refine v_iload_n (pc := 1) O dX0_aim_1 1 rfl ?_
  obtain ⟨p1, e2, h⟩ := bind_some h
  refine v_callV (pc := 2) (a := t) (As := [.int x1]) (rest := []) (r := (some (.int p1.1))) (D' := p1.2) O (bb0 hz) (c_X0_has hm ht e2) mw_X0_has im_X0_has se_X0_has ml_X0_22 (kt_X0 ht) (by decide) rfl rfl rfl (by decide) (by decide) (Nat.le_of_ble_eq_true rfl) dX0_aim_2 rfl rfl ?_
  refine v_ifeq (pc := 5) 15 O dX0_aim_5 (by decide) (fun c3 => ?_) (fun c3 => ?_)
  · have h := (if_pos c3).symm.trans h
    refine v_sub [] rfl ?_
    exact w_X0_aim_b15 O hm hn hz ht p1.2 h
  · have h := (if_neg c3).symm.trans h
    refine v_aload_n (pc := 8) O dX0_aim_8 0 rfl ?_
    refine v_getK (pc := 9) (a := t) O hm gf_X0_1 fl_X0_15 (kt_X0 ht) (lt_X0_1 ht) dX0_aim_9 ?_
    refine v_iload_n (pc := 12) O dX0_aim_12 1 rfl ?_
    refine v_iload_n (pc := 13) O dX0_aim_13 2 rfl ?_
    obtain ⟨c4, h⟩ := or_none h
    refine v_iast (pc := 14) (a := (t + 2)) O (ka_X0_2 ht) (inq (la_X0_2 ht) c4) dX0_aim_14 ?_
    refine v_sub [] rfl ?_
    exact w_X0_aim_b15 O hm hn hz ht (sI p1.2 (t + 2) (x1).toNatClampNeg x2) h
theorem c_X0_aim {l : Launch} {w : Wx} {n nu c u : Nat} {K : Nat → Nat} {t : Nat} (hm : wlm w = true) (ht : t = 201 ∨ t = 204) {x1 : Int32} {x2 : Int32} {D : Dat} {z : Dat} (h : f_X0_aim t x1 x2 D = some z) : C0 l w yX0_aim cX0_aim 3 none 1 21 [.ref (wb w + pp t), .int x1, .int x2] n (Ax nu K c u) D none z :=
  C0.of (by decide) (Nat.le_of_ble_eq_true rfl) (fun X e1 e2 e3 hz O => by
  subst e1
  subst e2
  exact w_X0_aim O hm e3 hz ht x1 x2 D h)
def f_X0_operation_b19 (t : Nat) (s0 : Int32) (D : Dat) : Option (Int32 × Dat) :=
  some (s0, D)
set_option maxHeartbeats 4000000 in
theorem w_X0_operation_b19 {X : Cx} {n nu c u : Nat} {K : Nat → Nat} {t : Nat} {z : Int32 × Dat} (O : Ok X cX0_operation RX0 (some .int) 1 21) (hm : wlm (xw X) = true) (hn : xn X = 2) (hz : Z0 X (Ax nu K c u)) (ht : t = 201 ∨ t = 204) (s0 : Int32) (D : Dat) (h : f_X0_operation_b19 t s0 D = some z) : V X (Q0 X n (Ax nu K c u) (some (.int z.1)) z.2) n (Ax nu K c u) D 19 [] [.int s0] := by
  unfold f_X0_operation_b19 at h
  obtain rfl := Option.some.inj h
  exact v_iret (pc := 19) O hz dX0_operation_19
def f_X0_operation (t : Nat) (x1 : Int32) (D : Dat) : Option (Int32 × Dat) :=
  (f_X0_has t x1 D).bind (fun p1 => if p1.1 = 0 then (f_X0_operation_b19 t 15 p1.2) else (if x1 < 0 ∨ 64 ≤ (x1).toNatClampNeg then none else (f_X0_operation_b19 t (dI p1.2 (t + 1) (x1).toNatClampNeg) p1.2)))
set_option maxHeartbeats 4000000 in
theorem w_X0_operation {X : Cx} {n nu c u : Nat} {K : Nat → Nat} {t : Nat} {z : Int32 × Dat} (O : Ok X cX0_operation RX0 (some .int) 1 21) (hm : wlm (xw X) = true) (hn : xn X = 2) (hz : Z0 X (Ax nu K c u)) (ht : t = 201 ∨ t = 204) (x1 : Int32) (D : Dat) (h : f_X0_operation t x1 D = some z) : V X (Q0 X n (Ax nu K c u) (some (.int z.1)) z.2) n (Ax nu K c u) D 0 [(0, .ref (bo X + pp t)), (1, .int x1)] [] := by
  unfold f_X0_operation at h
  refine v_aload_n (pc := 0) O dX0_operation_0 0 rfl ?_
  refine v_iload_n (pc := 1) O dX0_operation_1 1 rfl ?_
  obtain ⟨p1, e2, h⟩ := bind_some h
  refine v_callV (pc := 2) (a := t) (As := [.int x1]) (rest := []) (r := (some (.int p1.1))) (D' := p1.2) O (bb0 hz) (c_X0_has hm ht e2) mw_X0_has im_X0_has se_X0_has ml_X0_22 (kt_X0 ht) (by decide) rfl rfl rfl (by decide) (by decide) (Nat.le_of_ble_eq_true rfl) dX0_operation_2 rfl rfl ?_
  refine v_ifeq (pc := 5) 17 O dX0_operation_5 (by decide) (fun c3 => ?_) (fun c3 => ?_)
  · have h := (if_pos c3).symm.trans h
    refine v_bipush (pc := 17) O dX0_operation_17 bp_15 ?_
    refine v_sub [] rfl ?_
    exact w_X0_operation_b19 O hm hn hz ht 15 p1.2 h
  · have h := (if_neg c3).symm.trans h
    refine v_aload_n (pc := 8) O dX0_operation_8 0 rfl ?_
    refine v_getK (pc := 9) (a := t) O hm gf_X0_0 fl_X0_9 (kt_X0 ht) (lt_X0_0 ht) dX0_operation_9 ?_
    refine v_iload_n (pc := 12) O dX0_operation_12 1 rfl ?_
    obtain ⟨c4, h⟩ := or_none h
    refine v_iald (pc := 13) (a := (t + 1)) O (ka_X0_1 ht) (inq (la_X0_1 ht) c4) dX0_operation_13 ?_
    refine v_goto (pc := 14) 19 O dX0_operation_14 (by decide) ?_
    refine v_sub [] rfl ?_
    exact w_X0_operation_b19 O hm hn hz ht (dI p1.2 (t + 1) (x1).toNatClampNeg) p1.2 h
theorem c_X0_operation {l : Launch} {w : Wx} {n nu c u : Nat} {K : Nat → Nat} {t : Nat} (hm : wlm w = true) (ht : t = 201 ∨ t = 204) {x1 : Int32} {D : Dat} {z : Int32 × Dat} (h : f_X0_operation t x1 D = some z) : C0 l w yX0_operation cX0_operation 2 (some .int) 1 21 [.ref (wb w + pp t), .int x1] n (Ax nu K c u) D (some (.int z.1)) z.2 :=
  C0.of (by decide) (Nat.le_of_ble_eq_true rfl) (fun X e1 e2 e3 hz O => by
  subst e1
  subst e2
  exact w_X0_operation O hm e3 hz ht x1 D h)
def f_X0_argument_b18 (t : Nat) (s0 : Int32) (D : Dat) : Option (Int32 × Dat) :=
  some (s0, D)
set_option maxHeartbeats 4000000 in
theorem w_X0_argument_b18 {X : Cx} {n nu c u : Nat} {K : Nat → Nat} {t : Nat} {z : Int32 × Dat} (O : Ok X cX0_argument RX0 (some .int) 1 21) (hm : wlm (xw X) = true) (hn : xn X = 2) (hz : Z0 X (Ax nu K c u)) (ht : t = 201 ∨ t = 204) (s0 : Int32) (D : Dat) (h : f_X0_argument_b18 t s0 D = some z) : V X (Q0 X n (Ax nu K c u) (some (.int z.1)) z.2) n (Ax nu K c u) D 18 [] [.int s0] := by
  unfold f_X0_argument_b18 at h
  obtain rfl := Option.some.inj h
  exact v_iret (pc := 18) O hz dX0_argument_18
def f_X0_argument (t : Nat) (x1 : Int32) (D : Dat) : Option (Int32 × Dat) :=
  (f_X0_has t x1 D).bind (fun p1 => if p1.1 = 0 then (f_X0_argument_b18 t 0 p1.2) else (if x1 < 0 ∨ 64 ≤ (x1).toNatClampNeg then none else (f_X0_argument_b18 t (dI p1.2 (t + 2) (x1).toNatClampNeg) p1.2)))
set_option maxHeartbeats 4000000 in
theorem w_X0_argument {X : Cx} {n nu c u : Nat} {K : Nat → Nat} {t : Nat} {z : Int32 × Dat} (O : Ok X cX0_argument RX0 (some .int) 1 21) (hm : wlm (xw X) = true) (hn : xn X = 2) (hz : Z0 X (Ax nu K c u)) (ht : t = 201 ∨ t = 204) (x1 : Int32) (D : Dat) (h : f_X0_argument t x1 D = some z) : V X (Q0 X n (Ax nu K c u) (some (.int z.1)) z.2) n (Ax nu K c u) D 0 [(0, .ref (bo X + pp t)), (1, .int x1)] [] := by
  unfold f_X0_argument at h
  refine v_aload_n (pc := 0) O dX0_argument_0 0 rfl ?_
  refine v_iload_n (pc := 1) O dX0_argument_1 1 rfl ?_
  obtain ⟨p1, e2, h⟩ := bind_some h
  refine v_callV (pc := 2) (a := t) (As := [.int x1]) (rest := []) (r := (some (.int p1.1))) (D' := p1.2) O (bb0 hz) (c_X0_has hm ht e2) mw_X0_has im_X0_has se_X0_has ml_X0_22 (kt_X0 ht) (by decide) rfl rfl rfl (by decide) (by decide) (Nat.le_of_ble_eq_true rfl) dX0_argument_2 rfl rfl ?_
  refine v_ifeq (pc := 5) 17 O dX0_argument_5 (by decide) (fun c3 => ?_) (fun c3 => ?_)
  · have h := (if_pos c3).symm.trans h
    refine v_iconst (pc := 17) O dX0_argument_17 ic_0 ?_
    refine v_sub [] rfl ?_
    exact w_X0_argument_b18 O hm hn hz ht 0 p1.2 h
  · have h := (if_neg c3).symm.trans h
    refine v_aload_n (pc := 8) O dX0_argument_8 0 rfl ?_
    refine v_getK (pc := 9) (a := t) O hm gf_X0_1 fl_X0_15 (kt_X0 ht) (lt_X0_1 ht) dX0_argument_9 ?_
    refine v_iload_n (pc := 12) O dX0_argument_12 1 rfl ?_
    obtain ⟨c4, h⟩ := or_none h
    refine v_iald (pc := 13) (a := (t + 2)) O (ka_X0_2 ht) (inq (la_X0_2 ht) c4) dX0_argument_13 ?_
    refine v_goto (pc := 14) 18 O dX0_argument_14 (by decide) ?_
    refine v_sub [] rfl ?_
    exact w_X0_argument_b18 O hm hn hz ht (dI p1.2 (t + 2) (x1).toNatClampNeg) p1.2 h
theorem c_X0_argument {l : Launch} {w : Wx} {n nu c u : Nat} {K : Nat → Nat} {t : Nat} (hm : wlm w = true) (ht : t = 201 ∨ t = 204) {x1 : Int32} {D : Dat} {z : Int32 × Dat} (h : f_X0_argument t x1 D = some z) : C0 l w yX0_argument cX0_argument 2 (some .int) 1 21 [.ref (wb w + pp t), .int x1] n (Ax nu K c u) D (some (.int z.1)) z.2 :=
  C0.of (by decide) (Nat.le_of_ble_eq_true rfl) (fun X e1 e2 e3 hz O => by
  subst e1
  subst e2
  exact w_X0_argument O hm e3 hz ht x1 D h)
def f_X0_taken_b27 (t : Nat) (s0 : Int32) (D : Dat) : Option (Int32 × Dat) :=
  some (s0, D)
set_option maxHeartbeats 4000000 in
theorem w_X0_taken_b27 {X : Cx} {n nu c u : Nat} {K : Nat → Nat} {t : Nat} {z : Int32 × Dat} (O : Ok X cX0_taken RX0 (some .int) 2 42) (hm : wlm (xw X) = true) (hn : xn X = 3) (hz : Z0 X (Ax nu K c u)) (ht : t = 201 ∨ t = 204) (s0 : Int32) (D : Dat) (h : f_X0_taken_b27 t s0 D = some z) : V X (Q0 X n (Ax nu K c u) (some (.int z.1)) z.2) n (Ax nu K c u) D 27 [] [.int s0] := by
  unfold f_X0_taken_b27 at h
  obtain rfl := Option.some.inj h
  exact v_iret (pc := 27) O hz dX0_taken_27
def f_X0_taken_b26 (t : Nat) (D : Dat) : Option (Int32 × Dat) :=
  f_X0_taken_b27 t 0 D
set_option maxHeartbeats 4000000 in
theorem w_X0_taken_b26 {X : Cx} {n nu c u : Nat} {K : Nat → Nat} {t : Nat} {z : Int32 × Dat} (O : Ok X cX0_taken RX0 (some .int) 2 42) (hm : wlm (xw X) = true) (hn : xn X = 3) (hz : Z0 X (Ax nu K c u)) (ht : t = 201 ∨ t = 204) (D : Dat) (h : f_X0_taken_b26 t D = some z) : V X (Q0 X n (Ax nu K c u) (some (.int z.1)) z.2) n (Ax nu K c u) D 26 [] [] := by
  unfold f_X0_taken_b26 at h
  refine v_iconst (pc := 26) O dX0_taken_26 ic_0 ?_
  refine v_sub [] rfl ?_
  exact w_X0_taken_b27 O hm hn hz ht 0 D h
def f_X0_taken (t : Nat) (x1 : Int32) (D : Dat) : Option (Int32 × Dat) :=
  (f_X0_operation t x1 D).bind (fun p1 => if p1.1 < 0 then (f_X0_taken_b26 t p1.2) else (if 16 ≤ p1.1 then (f_X0_taken_b26 t p1.2) else (if p1.1 < 0 ∨ 16 ≤ (p1.1).toNatClampNeg then none else (f_X0_taken_b27 t (takenl.getD (p1.1).toNatClampNeg 0) p1.2))))
set_option maxHeartbeats 4000000 in
theorem w_X0_taken {X : Cx} {n nu c u : Nat} {K : Nat → Nat} {t : Nat} {z : Int32 × Dat} (O : Ok X cX0_taken RX0 (some .int) 2 42) (hm : wlm (xw X) = true) (hn : xn X = 3) (hz : Z0 X (Ax nu K c u)) (ht : t = 201 ∨ t = 204) (x1 : Int32) (D : Dat) (h : f_X0_taken t x1 D = some z) : V X (Q0 X n (Ax nu K c u) (some (.int z.1)) z.2) n (Ax nu K c u) D 0 [(0, .ref (bo X + pp t)), (1, .int x1)] [] := by
  unfold f_X0_taken at h
  refine v_aload_n (pc := 0) O dX0_taken_0 0 rfl ?_
  refine v_iload_n (pc := 1) O dX0_taken_1 1 rfl ?_
  obtain ⟨p1, e2, h⟩ := bind_some h
  refine v_callV (pc := 2) (a := t) (As := [.int x1]) (rest := []) (r := (some (.int p1.1))) (D' := p1.2) O (bb0 hz) (c_X0_operation hm ht e2) mw_X0_operation im_X0_operation se_X0_operation ml_X0_26 (kt_X0 ht) (by decide) rfl rfl rfl (by decide) (by decide) (Nat.le_of_ble_eq_true rfl) dX0_taken_2 rfl rfl ?_
  refine v_istore_n (pc := 5) (lv' := [(2, .int p1.1), (0, .ref (bo X + pp t)), (1, .int x1)]) O dX0_taken_5 rfl (by rw [hn]; decide) rfl ?_
  refine v_iload_n (pc := 6) O dX0_taken_6 0 rfl ?_
  refine v_iflt (pc := 7) 26 O dX0_taken_7 (by decide) (fun c3 => ?_) (fun c3 => ?_)
  · have h := (if_pos c3).symm.trans h
    refine v_sub [] rfl ?_
    exact w_X0_taken_b26 O hm hn hz ht p1.2 h
  · have h := (if_neg c3).symm.trans h
    refine v_iload_n (pc := 10) O dX0_taken_10 0 rfl ?_
    refine v_getTaken (pc := 11) O fl_X0_30 dX0_taken_11 ?_
    refine v_lenTaken (pc := 14) O dX0_taken_14 ?_
    refine v_icmpge (pc := 15) 26 O dX0_taken_15 (by decide) (fun c4 => ?_) (fun c4 => ?_)
    · have h := (if_pos c4).symm.trans h
      refine v_sub [] rfl ?_
      exact w_X0_taken_b26 O hm hn hz ht p1.2 h
    · have h := (if_neg c4).symm.trans h
      refine v_getTaken (pc := 18) O fl_X0_30 dX0_taken_18 ?_
      refine v_iload_n (pc := 21) O dX0_taken_21 0 rfl ?_
      obtain ⟨c5, h⟩ := or_none h
      refine v_ldTaken (pc := 22) O c5 dX0_taken_22 ?_
      refine v_goto (pc := 23) 27 O dX0_taken_23 (by decide) ?_
      refine v_sub [] rfl ?_
      exact w_X0_taken_b27 O hm hn hz ht (takenl.getD (p1.1).toNatClampNeg 0) p1.2 h
theorem c_X0_taken {l : Launch} {w : Wx} {n nu c u : Nat} {K : Nat → Nat} {t : Nat} (hm : wlm w = true) (ht : t = 201 ∨ t = 204) {x1 : Int32} {D : Dat} {z : Int32 × Dat} (h : f_X0_taken t x1 D = some z) : C0 l w yX0_taken cX0_taken 3 (some .int) 2 42 [.ref (wb w + pp t), .int x1] n (Ax nu K c u) D (some (.int z.1)) z.2 :=
  C0.of (by decide) (Nat.le_of_ble_eq_true rfl) (fun X e1 e2 e3 hz O => by
  subst e1
  subst e2
  exact w_X0_taken O hm e3 hz ht x1 D h)
def f_X0_put_b27 (t : Nat) (s0 : Int32) (D : Dat) : Option (Int32 × Dat) :=
  some (s0, D)
set_option maxHeartbeats 4000000 in
theorem w_X0_put_b27 {X : Cx} {n nu c u : Nat} {K : Nat → Nat} {t : Nat} {z : Int32 × Dat} (O : Ok X cX0_put RX0 (some .int) 2 42) (hm : wlm (xw X) = true) (hn : xn X = 3) (hz : Z0 X (Ax nu K c u)) (ht : t = 201 ∨ t = 204) (s0 : Int32) (D : Dat) (h : f_X0_put_b27 t s0 D = some z) : V X (Q0 X n (Ax nu K c u) (some (.int z.1)) z.2) n (Ax nu K c u) D 27 [] [.int s0] := by
  unfold f_X0_put_b27 at h
  obtain rfl := Option.some.inj h
  exact v_iret (pc := 27) O hz dX0_put_27
def f_X0_put_b26 (t : Nat) (D : Dat) : Option (Int32 × Dat) :=
  f_X0_put_b27 t 0 D
set_option maxHeartbeats 4000000 in
theorem w_X0_put_b26 {X : Cx} {n nu c u : Nat} {K : Nat → Nat} {t : Nat} {z : Int32 × Dat} (O : Ok X cX0_put RX0 (some .int) 2 42) (hm : wlm (xw X) = true) (hn : xn X = 3) (hz : Z0 X (Ax nu K c u)) (ht : t = 201 ∨ t = 204) (D : Dat) (h : f_X0_put_b26 t D = some z) : V X (Q0 X n (Ax nu K c u) (some (.int z.1)) z.2) n (Ax nu K c u) D 26 [] [] := by
  unfold f_X0_put_b26 at h
  refine v_iconst (pc := 26) O dX0_put_26 ic_0 ?_
  refine v_sub [] rfl ?_
  exact w_X0_put_b27 O hm hn hz ht 0 D h
def f_X0_put (t : Nat) (x1 : Int32) (D : Dat) : Option (Int32 × Dat) :=
  (f_X0_operation t x1 D).bind (fun p1 => if p1.1 < 0 then (f_X0_put_b26 t p1.2) else (if 16 ≤ p1.1 then (f_X0_put_b26 t p1.2) else (if p1.1 < 0 ∨ 16 ≤ (p1.1).toNatClampNeg then none else (f_X0_put_b27 t (putl.getD (p1.1).toNatClampNeg 0) p1.2))))
set_option maxHeartbeats 4000000 in
theorem w_X0_put {X : Cx} {n nu c u : Nat} {K : Nat → Nat} {t : Nat} {z : Int32 × Dat} (O : Ok X cX0_put RX0 (some .int) 2 42) (hm : wlm (xw X) = true) (hn : xn X = 3) (hz : Z0 X (Ax nu K c u)) (ht : t = 201 ∨ t = 204) (x1 : Int32) (D : Dat) (h : f_X0_put t x1 D = some z) : V X (Q0 X n (Ax nu K c u) (some (.int z.1)) z.2) n (Ax nu K c u) D 0 [(0, .ref (bo X + pp t)), (1, .int x1)] [] := by
  unfold f_X0_put at h
  refine v_aload_n (pc := 0) O dX0_put_0 0 rfl ?_
  refine v_iload_n (pc := 1) O dX0_put_1 1 rfl ?_
  obtain ⟨p1, e2, h⟩ := bind_some h
  refine v_callV (pc := 2) (a := t) (As := [.int x1]) (rest := []) (r := (some (.int p1.1))) (D' := p1.2) O (bb0 hz) (c_X0_operation hm ht e2) mw_X0_operation im_X0_operation se_X0_operation ml_X0_26 (kt_X0 ht) (by decide) rfl rfl rfl (by decide) (by decide) (Nat.le_of_ble_eq_true rfl) dX0_put_2 rfl rfl ?_
  refine v_istore_n (pc := 5) (lv' := [(2, .int p1.1), (0, .ref (bo X + pp t)), (1, .int x1)]) O dX0_put_5 rfl (by rw [hn]; decide) rfl ?_
  refine v_iload_n (pc := 6) O dX0_put_6 0 rfl ?_
  refine v_iflt (pc := 7) 26 O dX0_put_7 (by decide) (fun c3 => ?_) (fun c3 => ?_)
  · have h := (if_pos c3).symm.trans h
    refine v_sub [] rfl ?_
    exact w_X0_put_b26 O hm hn hz ht p1.2 h
  · have h := (if_neg c3).symm.trans h
    refine v_iload_n (pc := 10) O dX0_put_10 0 rfl ?_
    refine v_getPut (pc := 11) O fl_X0_33 dX0_put_11 ?_
    refine v_lenPut (pc := 14) O dX0_put_14 ?_
    refine v_icmpge (pc := 15) 26 O dX0_put_15 (by decide) (fun c4 => ?_) (fun c4 => ?_)
    · have h := (if_pos c4).symm.trans h
      refine v_sub [] rfl ?_
      exact w_X0_put_b26 O hm hn hz ht p1.2 h
    · have h := (if_neg c4).symm.trans h
      refine v_getPut (pc := 18) O fl_X0_33 dX0_put_18 ?_
      refine v_iload_n (pc := 21) O dX0_put_21 0 rfl ?_
      obtain ⟨c5, h⟩ := or_none h
      refine v_ldPut (pc := 22) O c5 dX0_put_22 ?_
      refine v_goto (pc := 23) 27 O dX0_put_23 (by decide) ?_
      refine v_sub [] rfl ?_
      exact w_X0_put_b27 O hm hn hz ht (putl.getD (p1.1).toNatClampNeg 0) p1.2 h
theorem c_X0_put {l : Launch} {w : Wx} {n nu c u : Nat} {K : Nat → Nat} {t : Nat} (hm : wlm w = true) (ht : t = 201 ∨ t = 204) {x1 : Int32} {D : Dat} {z : Int32 × Dat} (h : f_X0_put t x1 D = some z) : C0 l w yX0_put cX0_put 3 (some .int) 2 42 [.ref (wb w + pp t), .int x1] n (Ax nu K c u) D (some (.int z.1)) z.2 :=
  C0.of (by decide) (Nat.le_of_ble_eq_true rfl) (fun X e1 e2 e3 hz O => by
  subst e1
  subst e2
  exact w_X0_put O hm e3 hz ht x1 D h)
def f_X0_jumps_b25 (t : Nat) (s0 : Int32) (D : Dat) : Option (Int32 × Dat) :=
  if s0 &&& 1 = s0 then some (s0, D) else none
set_option maxHeartbeats 4000000 in
theorem w_X0_jumps_b25 {X : Cx} {n nu c u : Nat} {K : Nat → Nat} {t : Nat} {z : Int32 × Dat} (O : Ok X cX0_jumps RX0 (some .boolean) 2 42) (hm : wlm (xw X) = true) (hn : xn X = 2) (hz : Z0 X (Ax nu K c u)) (ht : t = 201 ∨ t = 204) (s0 : Int32) (D : Dat) (h : f_X0_jumps_b25 t s0 D = some z) : V X (Q0 X n (Ax nu K c u) (some (.int z.1)) z.2) n (Ax nu K c u) D 25 [] [.int s0] := by
  unfold f_X0_jumps_b25 at h
  obtain ⟨c1, h⟩ := if_none h
  obtain rfl := Option.some.inj h
  exact v_zret (pc := 25) O hz (congrArg Value.int c1) dX0_jumps_25
def f_X0_jumps_b20 (t : Nat) (D : Dat) : Option (Int32 × Dat) :=
  f_X0_jumps_b25 t 1 D
set_option maxHeartbeats 4000000 in
theorem w_X0_jumps_b20 {X : Cx} {n nu c u : Nat} {K : Nat → Nat} {t : Nat} {z : Int32 × Dat} (O : Ok X cX0_jumps RX0 (some .boolean) 2 42) (hm : wlm (xw X) = true) (hn : xn X = 2) (hz : Z0 X (Ax nu K c u)) (ht : t = 201 ∨ t = 204) (D : Dat) (h : f_X0_jumps_b20 t D = some z) : V X (Q0 X n (Ax nu K c u) (some (.int z.1)) z.2) n (Ax nu K c u) D 20 [] [] := by
  unfold f_X0_jumps_b20 at h
  refine v_iconst (pc := 20) O dX0_jumps_20 ic_1 ?_
  refine v_goto (pc := 21) 25 O dX0_jumps_21 (by decide) ?_
  refine v_sub [] rfl ?_
  exact w_X0_jumps_b25 O hm hn hz ht 1 D h
def f_X0_jumps (t : Nat) (x1 : Int32) (D : Dat) : Option (Int32 × Dat) :=
  (f_X0_operation t x1 D).bind (fun p2 => if p2.1 = 11 then (f_X0_jumps_b20 t p2.2) else ((f_X0_operation t x1 p2.2).bind (fun p5 => if p5.1 = 12 then (f_X0_jumps_b20 t p5.2) else (f_X0_jumps_b25 t 0 p5.2))))
set_option maxHeartbeats 4000000 in
theorem w_X0_jumps {X : Cx} {n nu c u : Nat} {K : Nat → Nat} {t : Nat} {z : Int32 × Dat} (O : Ok X cX0_jumps RX0 (some .boolean) 2 42) (hm : wlm (xw X) = true) (hn : xn X = 2) (hz : Z0 X (Ax nu K c u)) (ht : t = 201 ∨ t = 204) (x1 : Int32) (D : Dat) (h : f_X0_jumps t x1 D = some z) : V X (Q0 X n (Ax nu K c u) (some (.int z.1)) z.2) n (Ax nu K c u) D 0 [(0, .ref (bo X + pp t)), (1, .int x1)] [] := by
  unfold f_X0_jumps at h
  refine v_aload_n (pc := 0) O dX0_jumps_0 0 rfl ?_
  refine v_iload_n (pc := 1) O dX0_jumps_1 1 rfl ?_
  obtain ⟨p2, e3, h⟩ := bind_some h
  refine v_callV (pc := 2) (a := t) (As := [.int x1]) (rest := []) (r := (some (.int p2.1))) (D' := p2.2) O (bb0 hz) (c_X0_operation hm ht e3) mw_X0_operation im_X0_operation se_X0_operation ml_X0_26 (kt_X0 ht) (by decide) rfl rfl rfl (by decide) (by decide) (Nat.le_of_ble_eq_true rfl) dX0_jumps_2 rfl rfl ?_
  refine v_bipush (pc := 5) O dX0_jumps_5 bp_11 ?_
  refine v_icmpeq (pc := 7) 20 O dX0_jumps_7 (by decide) (fun c4 => ?_) (fun c4 => ?_)
  · have h := (if_pos c4).symm.trans h
    refine v_sub [] rfl ?_
    exact w_X0_jumps_b20 O hm hn hz ht p2.2 h
  · have h := (if_neg c4).symm.trans h
    refine v_aload_n (pc := 10) O dX0_jumps_10 0 rfl ?_
    refine v_iload_n (pc := 11) O dX0_jumps_11 1 rfl ?_
    obtain ⟨p5, e6, h⟩ := bind_some h
    refine v_callV (pc := 12) (a := t) (As := [.int x1]) (rest := []) (r := (some (.int p5.1))) (D' := p5.2) O (bb0 hz) (c_X0_operation hm ht e6) mw_X0_operation im_X0_operation se_X0_operation ml_X0_26 (kt_X0 ht) (by decide) rfl rfl rfl (by decide) (by decide) (Nat.le_of_ble_eq_true rfl) dX0_jumps_12 rfl rfl ?_
    refine v_bipush (pc := 15) O dX0_jumps_15 bp_12 ?_
    refine v_icmpne (pc := 17) 24 O dX0_jumps_17 (by decide) (fun c7 => ?_) (fun c7 => ?_)
    · have h := (if_neg c7).symm.trans h
      refine v_iconst (pc := 24) O dX0_jumps_24 ic_0 ?_
      refine v_sub [] rfl ?_
      exact w_X0_jumps_b25 O hm hn hz ht 0 p5.2 h
    · have h := (if_pos c7).symm.trans h
      refine v_sub [] rfl ?_
      exact w_X0_jumps_b20 O hm hn hz ht p5.2 h
theorem c_X0_jumps {l : Launch} {w : Wx} {n nu c u : Nat} {K : Nat → Nat} {t : Nat} (hm : wlm w = true) (ht : t = 201 ∨ t = 204) {x1 : Int32} {D : Dat} {z : Int32 × Dat} (h : f_X0_jumps t x1 D = some z) : C0 l w yX0_jumps cX0_jumps 2 (some .boolean) 2 42 [.ref (wb w + pp t), .int x1] n (Ax nu K c u) D (some (.int z.1)) z.2 :=
  C0.of (by decide) (Nat.le_of_ble_eq_true rfl) (fun X e1 e2 e3 hz O => by
  subst e1
  subst e2
  exact w_X0_jumps O hm e3 hz ht x1 D h)
