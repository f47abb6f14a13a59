theorem kq_106 {nu c u : Nat} {K : Nat → Nat} : (Ax nu K c u).1 106 = 8 := kd_lt (K := K) (a := 106) (by decide) rfl
theorem cw_X12_fuelled : Cond.code yX12_fuelled cX12_fuelled 2 (some .boolean) ∈ tb := tb_of 2334 (by decide +kernel) (by decide +kernel)
theorem mw_X12_fuelled : MW yX12_fuelled cX12_fuelled 2 (some .boolean) 1 := ⟨cw_X12_fuelled, ini_X12, by decide +kernel⟩
theorem im_X12_fuelled : Cond.instanceMethod yX12_fuelled ∈ tb := tb_of 2333 (by decide +kernel) (by decide +kernel)
theorem se_X12_fuelled : Cond.selects (yX12_fuelled).cls yX12_fuelled yX12_fuelled ∈ tb := tb_of 158 (by decide +kernel) (by decide +kernel)
theorem ml_X12_505 : Cond.methodLink RX12 505 yX12_fuelled ∈ tb := tb_of 2331 (by decide +kernel) (by decide +kernel)
theorem cw_X12_round : Cond.code yX12_round cX12_round 2 (some .int) ∈ tb := tb_of 2346 (by decide +kernel) (by decide +kernel)
theorem mw_X12_round : MW yX12_round cX12_round 2 (some .int) 1 := ⟨cw_X12_round, ini_X12, by decide +kernel⟩
theorem im_X12_round : Cond.instanceMethod yX12_round ∈ tb := tb_of 2345 (by decide +kernel) (by decide +kernel)
theorem se_X12_round : Cond.selects (yX12_round).cls yX12_round yX12_round ∈ tb := tb_of 161 (by decide +kernel) (by decide +kernel)
theorem ml_X12_502 : Cond.methodLink RX12 502 yX12_round ∈ tb := tb_of 2343 (by decide +kernel) (by decide +kernel)
theorem fl_X5_15 : Cond.fieldLink RX5 15 RX5 (TX5 3).2.1 (TX5 3).2.2.1 ∈ tb := tb_of 237 (by decide +kernel) (by decide +kernel)
theorem gf_X5_3 : FI 5 RX5 TX5 10 tyX5 3 3 := ⟨rfl, inb_X5, tyX5_ok, nmX5, by decide, by decide, rfl, rfl, rfl⟩
theorem lk_3_3 : lks 3 3 = some 5 := by decide +kernel
theorem kq_5 {nu c u : Nat} {K : Nat → Nat} : (Ax nu K c u).1 5 = 14 := kd_lt (K := K) (a := 5) (by decide) rfl
theorem lq_5 {nu c u : Nat} {K : Nat → Nat} : (Ax nu K c u).2.1 5 = 26 := rfl
theorem fl_X5_54 : Cond.fieldLink RX5 54 RX5 (TX5 8).2.1 (TX5 8).2.2.1 ∈ tb := tb_of 242 (by decide +kernel) (by decide +kernel)
theorem gf_X5_8 : FI 5 RX5 TX5 10 tyX5 8 0 := ⟨rfl, inb_X5, tyX5_ok, nmX5, by decide, by decide, rfl, rfl, rfl⟩
theorem fl_X5_120 : Cond.fieldLink RX5 120 RX5 (TX5 6).2.1 (TX5 6).2.2.1 ∈ tb := tb_of 240 (by decide +kernel) (by decide +kernel)
theorem gf_X5_6 : FI 5 RX5 TX5 10 tyX5 6 0 := ⟨rfl, inb_X5, tyX5_ok, nmX5, by decide, by decide, rfl, rfl, rfl⟩
theorem fl_X5_216 : Cond.fieldLink RX5 216 RX5 (TX5 9).2.1 (TX5 9).2.2.1 ∈ tb := tb_of 243 (by decide +kernel) (by decide +kernel)
theorem gf_X5_9 : FI 5 RX5 TX5 10 tyX5 9 0 := ⟨rfl, inb_X5, tyX5_ok, nmX5, by decide, by decide, rfl, rfl, rfl⟩
theorem inb_X8 : ∀ w ∈ u_ws RX8 TX8 3, w ∈ tb := by decide +kernel
theorem fl_X8_15 : Cond.fieldLink RX8 15 RX8 (TX8 1).2.1 (TX8 1).2.2.1 ∈ tb := tb_of 300 (by decide +kernel) (by decide +kernel)
theorem gf_X8_1 : FI 8 RX8 TX8 3 tyX8 1 2 := ⟨rfl, inb_X8, tyX8_ok, nmX8, by decide, by decide, rfl, rfl, rfl⟩
theorem fl_X8_24 : Cond.fieldLink RX8 24 RX8 (TX8 2).2.1 (TX8 2).2.2.1 ∈ tb := tb_of 301 (by decide +kernel) (by decide +kernel)
theorem gf_X8_2 : FI 8 RX8 TX8 3 tyX8 2 0 := ⟨rfl, inb_X8, tyX8_ok, nmX8, by decide, by decide, rfl, rfl, rfl⟩
theorem pf_X8_2 : PI 8 RX8 TX8 3 tyX8 2 0 .boolean := ⟨gf_X8_2, rfl, rfl⟩
theorem ml_X8_74 : Cond.methodLink RX8 74 yX0_size ∈ tb := tb_of 1244 (by decide +kernel) (by decide +kernel)
theorem cw_X0_add : Cond.code yX0_add cX0_add 3 none ∈ tb := tb_of 1248 (by decide +kernel) (by decide +kernel)
theorem mw_X0_add : MW yX0_add cX0_add 3 none 2 := ⟨cw_X0_add, ini_X0, by decide +kernel⟩
theorem im_X0_add : Cond.instanceMethod yX0_add ∈ tb := tb_of 1246 (by decide +kernel) (by decide +kernel)
theorem se_X0_add : Cond.selects (yX0_add).cls yX0_add yX0_add ∈ tb := tb_of 1247 (by decide +kernel) (by decide +kernel)
theorem ml_X8_103 : Cond.methodLink RX8 103 yX0_add ∈ tb := tb_of 1245 (by decide +kernel) (by decide +kernel)
theorem cw_X12_step : Cond.code yX12_step cX12_step 5 (some .int) ∈ tb := tb_of 2338 (by decide +kernel) (by decide +kernel)
theorem mw_X12_step : MW yX12_step cX12_step 5 (some .int) 1 := ⟨cw_X12_step, ini_X12, by decide +kernel⟩
theorem im_X12_step : Cond.instanceMethod yX12_step ∈ tb := tb_of 2337 (by decide +kernel) (by decide +kernel)
theorem se_X12_step : Cond.selects (yX12_step).cls yX12_step yX12_step ∈ tb := tb_of 159 (by decide +kernel) (by decide +kernel)
theorem ml_X12_508 : Cond.methodLink RX12 508 yX12_step ∈ tb := tb_of 2335 (by decide +kernel) (by decide +kernel)
def f_X5_roleHere_b37 (s0 : Int32) (D : Dat) : Option (Int32 × Dat) :=
  some (s0, D)
set_option maxHeartbeats 4000000 in
theorem w_X5_roleHere_b37 {X : Cx} {n nu c u : Nat} {K : Nat → Nat} {z : Int32 × Dat} (O : Ok X cX5_roleHere RX5 (some .int) 0 0) (hm : wlm (xw X) = true) (hn : xn X = 1) (hz : Z0 X (Ax nu K c u)) (s0 : Int32) (D : Dat) (h : f_X5_roleHere_b37 s0 D = some z) : V X (Q0 X n (Ax nu K c u) (some (.int z.1)) z.2) n (Ax nu K c u) D 37 [] [.int s0] := by
  unfold f_X5_roleHere_b37 at h
  obtain rfl := Option.some.inj h
  exact v_iret (pc := 37) O hz dX5_roleHere_37
def f_X5_roleHere_b36 (D : Dat) : Option (Int32 × Dat) :=
  f_X5_roleHere_b37 (-1) D
set_option maxHeartbeats 4000000 in
theorem w_X5_roleHere_b36 {X : Cx} {n nu c u : Nat} {K : Nat → Nat} {z : Int32 × Dat} (O : Ok X cX5_roleHere RX5 (some .int) 0 0) (hm : wlm (xw X) = true) (hn : xn X = 1) (hz : Z0 X (Ax nu K c u)) (D : Dat) (h : f_X5_roleHere_b36 D = some z) : V X (Q0 X n (Ax nu K c u) (some (.int z.1)) z.2) n (Ax nu K c u) D 36 [] [] := by
  unfold f_X5_roleHere_b36 at h
  refine v_iconst (pc := 36) O dX5_roleHere_36 ic_m1 ?_
  refine v_sub [] rfl ?_
  exact w_X5_roleHere_b37 O hm hn hz (-1) D h
def f_X5_roleHere (D : Dat) : Option (Int32 × Dat) :=
  if (dI D 3 6) = 1 then (if (dI D 3 9) < 0 then (f_X5_roleHere_b36 D) else (if 26 ≤ (dI D 3 9) then (f_X5_roleHere_b36 D) else (if (dI D 3 9) < 0 ∨ 26 ≤ ((dI D 3 9)).toNatClampNeg then none else (f_X5_roleHere_b37 (dI D 5 (dI D 3 9).toNatClampNeg) D)))) else (f_X5_roleHere_b36 D)
set_option maxHeartbeats 4000000 in
theorem w_X5_roleHere {X : Cx} {n nu c u : Nat} {K : Nat → Nat} {z : Int32 × Dat} (O : Ok X cX5_roleHere RX5 (some .int) 0 0) (hm : wlm (xw X) = true) (hn : xn X = 1) (hz : Z0 X (Ax nu K c u)) (D : Dat) (h : f_X5_roleHere D = some z) : V X (Q0 X n (Ax nu K c u) (some (.int z.1)) z.2) n (Ax nu K c u) D 0 [(0, .ref (bo X + 3))] [] := by
  unfold f_X5_roleHere at h
  refine v_aload_n (pc := 0) O dX5_roleHere_0 0 rfl ?_
  refine v_getI (pc := 1) (a := 3) O gf_X5_6 fl_X5_120 kq_3 dX5_roleHere_1 ?_
  refine v_iconst (pc := 4) O dX5_roleHere_4 ic_1 ?_
  refine v_icmpne (pc := 5) 36 O dX5_roleHere_5 (by decide) (fun c1 => ?_) (fun c1 => ?_)
  · have h := (if_neg c1).symm.trans h
    refine v_sub [] rfl ?_
    exact w_X5_roleHere_b36 O hm hn hz D h
  · have h := (if_pos c1).symm.trans h
    refine v_aload_n (pc := 8) O dX5_roleHere_8 0 rfl ?_
    refine v_getI (pc := 9) (a := 3) O gf_X5_9 fl_X5_216 kq_3 dX5_roleHere_9 ?_
    refine v_iflt (pc := 12) 36 O dX5_roleHere_12 (by decide) (fun c2 => ?_) (fun c2 => ?_)
    · have h := (if_pos c2).symm.trans h
      refine v_sub [] rfl ?_
      exact w_X5_roleHere_b36 O hm hn hz D h
    · have h := (if_neg c2).symm.trans h
      refine v_aload_n (pc := 15) O dX5_roleHere_15 0 rfl ?_
      refine v_getI (pc := 16) (a := 3) O gf_X5_9 fl_X5_216 kq_3 dX5_roleHere_16 ?_
      refine v_bipush (pc := 19) O dX5_roleHere_19 bp_26 ?_
      refine v_icmpge (pc := 21) 36 O dX5_roleHere_21 (by decide) (fun c3 => ?_) (fun c3 => ?_)
      · have h := (if_pos c3).symm.trans h
        refine v_sub [] rfl ?_
        exact w_X5_roleHere_b36 O hm hn hz D h
      · have h := (if_neg c3).symm.trans h
        refine v_aload_n (pc := 24) O dX5_roleHere_24 0 rfl ?_
        refine v_getK (pc := 25) (a := 3) O hm gf_X5_3 fl_X5_15 kq_3 lk_3_3 dX5_roleHere_25 ?_
        refine v_aload_n (pc := 28) O dX5_roleHere_28 0 rfl ?_
        refine v_getI (pc := 29) (a := 3) O gf_X5_9 fl_X5_216 kq_3 dX5_roleHere_29 ?_
        obtain ⟨c4, h⟩ := or_none h
        refine v_iald (pc := 32) (a := 5) O kq_5 (inq lq_5 c4) dX5_roleHere_32 ?_
        refine v_goto (pc := 33) 37 O dX5_roleHere_33 (by decide) ?_
        refine v_sub [] rfl ?_
        exact w_X5_roleHere_b37 O hm hn hz (dI D 5 (dI D 3 9).toNatClampNeg) D h
theorem c_X5_roleHere {l : Launch} {w : Wx} {n nu c u : Nat} {K : Nat → Nat} (hm : wlm w = true) {D : Dat} {z : Int32 × Dat} (h : f_X5_roleHere D = some z) : C0 l w yX5_roleHere cX5_roleHere 1 (some .int) 0 0 [.ref (wb w + 3)] n (Ax nu K c u) D (some (.int z.1)) z.2 :=
  C0.of (by decide) (Nat.le_of_ble_eq_true rfl) (fun X e1 e2 e3 hz O => by
  subst e1
  subst e2
  exact w_X5_roleHere O hm e3 hz  D h)
def f_X5_setRole_b17 (D : Dat) : Option (Dat) :=
  some D
set_option maxHeartbeats 4000000 in
theorem w_X5_setRole_b17 {X : Cx} {n nu c u : Nat} {K : Nat → Nat} {z : Dat} (O : Ok X cX5_setRole RX5 none 0 0) (hm : wlm (xw X) = true) (hn : xn X = 3) (hz : Z0 X (Ax nu K c u)) (D : Dat) (h : f_X5_setRole_b17 D = some z) : V X (Q0 X n (Ax nu K c u) none z) n (Ax nu K c u) D 17 [] [] := by
  unfold f_X5_setRole_b17 at h
  obtain rfl := Option.some.inj h
  exact v_ret (pc := 17) O hz dX5_setRole_17
def f_X5_setRole (x1 : Int32) (x2 : Int32) (D : Dat) : Option (Dat) :=
  if x1 < 0 then (f_X5_setRole_b17 D) else (if 26 ≤ x1 then (f_X5_setRole_b17 D) else (if x1 < 0 ∨ 26 ≤ (x1).toNatClampNeg then none else (f_X5_setRole_b17 (sI D 5 (x1).toNatClampNeg x2))))
set_option maxHeartbeats 4000000 in
theorem w_X5_setRole {X : Cx} {n nu c u : Nat} {K : Nat → Nat} {z : Dat} (O : Ok X cX5_setRole RX5 none 0 0) (hm : wlm (xw X) = true) (hn : xn X = 3) (hz : Z0 X (Ax nu K c u)) (x1 : Int32) (x2 : Int32) (D : Dat) (h : f_X5_setRole x1 x2 D = some z) : V X (Q0 X n (Ax nu K c u) none z) n (Ax nu K c u) D 0 [(0, .ref (bo X + 3)), (1, .int x1), (2, .int x2)] [] := by
  unfold f_X5_setRole at h
  refine v_iload_n (pc := 0) O dX5_setRole_0 1 rfl ?_
  refine v_iflt (pc := 1) 17 O dX5_setRole_1 (by decide) (fun c1 => ?_) (fun c1 => ?_)
  · have h := (if_pos c1).symm.trans h
    refine v_sub [] rfl ?_
    exact w_X5_setRole_b17 O hm hn hz D h
  · have h := (if_neg c1).symm.trans h
    refine v_iload_n (pc := 4) O dX5_setRole_4 1 rfl ?_
    refine v_bipush (pc := 5) O dX5_setRole_5 bp_26 ?_
    refine v_icmpge (pc := 7) 17 O dX5_setRole_7 (by decide) (fun c2 => ?_) (fun c2 => ?_)
    · have h := (if_pos c2).symm.trans h
      refine v_sub [] rfl ?_
      exact w_X5_setRole_b17 O hm hn hz D h
    · have h := (if_neg c2).symm.trans h
      refine v_aload_n (pc := 10) O dX5_setRole_10 0 rfl ?_
      refine v_getK (pc := 11) (a := 3) O hm gf_X5_3 fl_X5_15 kq_3 lk_3_3 dX5_setRole_11 ?_
      refine v_iload_n (pc := 14) O dX5_setRole_14 1 rfl ?_
      refine v_iload_n (pc := 15) O dX5_setRole_15 2 rfl ?_
      obtain ⟨c3, h⟩ := or_none h
      refine v_iast (pc := 16) (a := 5) O kq_5 (inq lq_5 c3) dX5_setRole_16 ?_
      refine v_sub [] rfl ?_
      exact w_X5_setRole_b17 O hm hn hz (sI D 5 (x1).toNatClampNeg x2) h
theorem c_X5_setRole {l : Launch} {w : Wx} {n nu c u : Nat} {K : Nat → Nat} (hm : wlm w = true) {x1 : Int32} {x2 : Int32} {D : Dat} {z : Dat} (h : f_X5_setRole x1 x2 D = some z) : C0 l w yX5_setRole cX5_setRole 3 none 0 0 [.ref (wb w + 3), .int x1, .int x2] n (Ax nu K c u) D none z :=
  C0.of (by decide) (Nat.le_of_ble_eq_true rfl) (fun X e1 e2 e3 hz O => by
  subst e1
  subst e2
  exact w_X5_setRole O hm e3 hz x1 x2 D h)
def f_X5_numberHere_b44 (N : Nat) (x1 : Int32) (D : Dat) : Option (Int32 × Dat) :=
  some (x1, D)
set_option maxHeartbeats 4000000 in
theorem w_X5_numberHere_b44 {X : Cx} {n nu c u : Nat} {K : Nat → Nat} {N : Nat} {z : Int32 × Dat} (O : Ok X cX5_numberHere RX5 (some .int) 0 0) (hm : wlm (xw X) = true) (hn : xn X = 3) (hz : Z0 X (Ax nu K c u)) (x1 : Int32) (D : Dat) (h : f_X5_numberHere_b44 N x1 D = some z) : V X (Q0 X n (Ax nu K c u) (some (.int z.1)) z.2) n (Ax nu K c u) D 44 [(1, .int x1)] [] := by
  unfold f_X5_numberHere_b44 at h
  refine v_iload_n (pc := 44) O dX5_numberHere_44 0 rfl ?_
  obtain rfl := Option.some.inj h
  exact v_iret (pc := 45) O hz dX5_numberHere_45
def f_X5_numberHere_b7 (N : Nat) : Nat → Int32 → Int32 → Dat → Option (Int32 × Dat)
  | 0, _, _, _ => none
  | g + 1, x1, x2, D => if (dI D 3 8) ≤ x2 then (f_X5_numberHere_b44 N x1 D) else (if (dI D 3 2) ≤ x2 then (f_X5_numberHere_b44 N x1 D) else (if x2 < 0 ∨ 240 ≤ (x2).toNatClampNeg then none else ((f_X5_numberHere_b7 N g) (((10 : Int32) * x1) + ((dI D 4 (x2).toNatClampNeg) - (48 : Int32))) (x2 + 1) D)))
set_option maxHeartbeats 4000000 in
theorem w_X5_numberHere_b7 {X : Cx} {n nu c u : Nat} {K : Nat → Nat} {N : Nat} {z : Int32 × Dat} (O : Ok X cX5_numberHere RX5 (some .int) 0 0) (hm : wlm (xw X) = true) (hn : xn X = 3) (hz : Z0 X (Ax nu K c u)) : ∀ (g : Nat) (x1 : Int32) (x2 : Int32) (D : Dat), f_X5_numberHere_b7 N g x1 x2 D = some z → V X (Q0 X n (Ax nu K c u) (some (.int z.1)) z.2) n (Ax nu K c u) D 7 [(0, .ref (bo X + 3)), (1, .int x1), (2, .int x2)] [] := by
  intro g
  induction g with
  | zero => intro x1 x2 D h; exact absurd h (by simp [f_X5_numberHere_b7])
  | succ g ih =>
    intro x1 x2 D h
    rw [f_X5_numberHere_b7] at h
    refine v_iload_n (pc := 7) O dX5_numberHere_7 2 rfl ?_
    refine v_aload_n (pc := 8) O dX5_numberHere_8 0 rfl ?_
    refine v_getI (pc := 9) (a := 3) O gf_X5_8 fl_X5_54 kq_3 dX5_numberHere_9 ?_
    refine v_icmpge (pc := 12) 44 O dX5_numberHere_12 (by decide) (fun c1 => ?_) (fun c1 => ?_)
    · have h := (if_pos c1).symm.trans h
      refine v_sub [1] rfl ?_
      exact w_X5_numberHere_b44 O hm hn hz x1 D h
    · have h := (if_neg c1).symm.trans h
      refine v_iload_n (pc := 15) O dX5_numberHere_15 2 rfl ?_
      refine v_aload_n (pc := 16) O dX5_numberHere_16 0 rfl ?_
      refine v_getI (pc := 17) (a := 3) O gf_X5_2 fl_X5_23 kq_3 dX5_numberHere_17 ?_
      refine v_icmpge (pc := 20) 44 O dX5_numberHere_20 (by decide) (fun c2 => ?_) (fun c2 => ?_)
      · have h := (if_pos c2).symm.trans h
        refine v_sub [1] rfl ?_
        exact w_X5_numberHere_b44 O hm hn hz x1 D h
      · have h := (if_neg c2).symm.trans h
        refine v_bipush (pc := 23) O dX5_numberHere_23 bp_10 ?_
        refine v_iload_n (pc := 25) O dX5_numberHere_25 1 rfl ?_
        refine v_imul (pc := 26) O dX5_numberHere_26 ?_
        refine v_aload_n (pc := 27) O dX5_numberHere_27 0 rfl ?_
        refine v_getK (pc := 28) (a := 3) O hm gf_X5_1 fl_X5_9 kq_3 lk_3_1 dX5_numberHere_28 ?_
        refine v_iload_n (pc := 31) O dX5_numberHere_31 2 rfl ?_
        obtain ⟨c3, h⟩ := or_none h
        refine v_cald (pc := 32) (a := 4) O kq_4 (inq lq_4 c3) dX5_numberHere_32 ?_
        refine v_bipush (pc := 33) O dX5_numberHere_33 bp_48 ?_
        refine v_isub (pc := 35) O dX5_numberHere_35 ?_
        refine v_iadd (pc := 36) O dX5_numberHere_36 ?_
        refine v_istore_n (pc := 37) (lv' := [(1, .int (((10 : Int32) * x1) + ((dI D 4 (x2).toNatClampNeg) - (48 : Int32)))), (0, .ref (bo X + 3)), (2, .int x2)]) O dX5_numberHere_37 rfl (by rw [hn]; decide) rfl ?_
        refine v_iinc (pc := 38) (lv' := [(2, .int (x2 + 1)), (1, .int (((10 : Int32) * x1) + ((dI D 4 (x2).toNatClampNeg) - (48 : Int32)))), (0, .ref (bo X + 3))]) O dX5_numberHere_38 2 rfl (congrArg (fun q => x2 + q) ic_1) (by rw [hn]; decide) rfl ?_
        refine v_goto (pc := 41) 7 O dX5_numberHere_41 (by decide) ?_
        refine v_sub [2, 1, 0] rfl ?_
        exact ih (((10 : Int32) * x1) + ((dI D 4 (x2).toNatClampNeg) - (48 : Int32))) (x2 + 1) D h
def f_X5_numberHere (N : Nat) (D : Dat) : Option (Int32 × Dat) :=
  f_X5_numberHere_b7 N N 0 (dI D 3 7) D
set_option maxHeartbeats 4000000 in
theorem w_X5_numberHere {X : Cx} {n nu c u : Nat} {K : Nat → Nat} {N : Nat} {z : Int32 × Dat} (O : Ok X cX5_numberHere RX5 (some .int) 0 0) (hm : wlm (xw X) = true) (hn : xn X = 3) (hz : Z0 X (Ax nu K c u)) (D : Dat) (h : f_X5_numberHere N D = some z) : V X (Q0 X n (Ax nu K c u) (some (.int z.1)) z.2) n (Ax nu K c u) D 0 [(0, .ref (bo X + 3))] [] := by
  unfold f_X5_numberHere at h
  refine v_iconst (pc := 0) O dX5_numberHere_0 ic_0 ?_
  refine v_istore_n (pc := 1) (lv' := [(1, .int 0), (0, .ref (bo X + 3))]) O dX5_numberHere_1 rfl (by rw [hn]; decide) rfl ?_
  refine v_aload_n (pc := 2) O dX5_numberHere_2 1 rfl ?_
  refine v_getI (pc := 3) (a := 3) O gf_X5_7 fl_X5_27 kq_3 dX5_numberHere_3 ?_
  refine v_istore_n (pc := 6) (lv' := [(2, .int (dI D 3 7)), (1, .int 0), (0, .ref (bo X + 3))]) O dX5_numberHere_6 rfl (by rw [hn]; decide) rfl ?_
  refine v_sub [2, 1, 0] rfl ?_
  exact w_X5_numberHere_b7 O hm hn hz N 0 (dI D 3 7) D h
theorem c_X5_numberHere {l : Launch} {w : Wx} {n nu c u : Nat} {K : Nat → Nat} {N : Nat} (hm : wlm w = true) {D : Dat} {z : Int32 × Dat} (h : f_X5_numberHere N D = some z) : C0 l w yX5_numberHere cX5_numberHere 3 (some .int) 0 0 [.ref (wb w + 3)] n (Ax nu K c u) D (some (.int z.1)) z.2 :=
  C0.of (by decide) (Nat.le_of_ble_eq_true rfl) (fun X e1 e2 e3 hz O => by
  subst e1
  subst e2
  exact w_X5_numberHere O hm e3 hz  D h)
def f_X5_nameHere_b40 (s0 : Int32) (D : Dat) : Option (Int32 × Dat) :=
  some (s0, D)
set_option maxHeartbeats 4000000 in
theorem w_X5_nameHere_b40 {X : Cx} {n nu c u : Nat} {K : Nat → Nat} {z : Int32 × Dat} (O : Ok X cX5_nameHere RX5 (some .int) 0 0) (hm : wlm (xw X) = true) (hn : xn X = 1) (hz : Z0 X (Ax nu K c u)) (s0 : Int32) (D : Dat) (h : f_X5_nameHere_b40 s0 D = some z) : V X (Q0 X n (Ax nu K c u) (some (.int z.1)) z.2) n (Ax nu K c u) D 40 [] [.int s0] := by
  unfold f_X5_nameHere_b40 at h
  obtain rfl := Option.some.inj h
  exact v_iret (pc := 40) O hz dX5_nameHere_40
def f_X5_nameHere_b39 (D : Dat) : Option (Int32 × Dat) :=
  f_X5_nameHere_b40 (-1) D
set_option maxHeartbeats 4000000 in
theorem w_X5_nameHere_b39 {X : Cx} {n nu c u : Nat} {K : Nat → Nat} {z : Int32 × Dat} (O : Ok X cX5_nameHere RX5 (some .int) 0 0) (hm : wlm (xw X) = true) (hn : xn X = 1) (hz : Z0 X (Ax nu K c u)) (D : Dat) (h : f_X5_nameHere_b39 D = some z) : V X (Q0 X n (Ax nu K c u) (some (.int z.1)) z.2) n (Ax nu K c u) D 39 [] [] := by
  unfold f_X5_nameHere_b39 at h
  refine v_iconst (pc := 39) O dX5_nameHere_39 ic_m1 ?_
  refine v_sub [] rfl ?_
  exact w_X5_nameHere_b40 O hm hn hz (-1) D h
def f_X5_nameHere (D : Dat) : Option (Int32 × Dat) :=
  if ((dI D 3 8) - (dI D 3 7)) = 1 then (if (dI D 3 2) ≤ (dI D 3 7) then (f_X5_nameHere_b39 D) else (if (dI D 3 7) < 0 ∨ 240 ≤ ((dI D 3 7)).toNatClampNeg then none else (f_X5_nameHere_b40 ((dI D 4 (dI D 3 7).toNatClampNeg) - (97 : Int32)) D))) else (f_X5_nameHere_b39 D)
set_option maxHeartbeats 4000000 in
theorem w_X5_nameHere {X : Cx} {n nu c u : Nat} {K : Nat → Nat} {z : Int32 × Dat} (O : Ok X cX5_nameHere RX5 (some .int) 0 0) (hm : wlm (xw X) = true) (hn : xn X = 1) (hz : Z0 X (Ax nu K c u)) (D : Dat) (h : f_X5_nameHere D = some z) : V X (Q0 X n (Ax nu K c u) (some (.int z.1)) z.2) n (Ax nu K c u) D 0 [(0, .ref (bo X + 3))] [] := by
  unfold f_X5_nameHere at h
  refine v_aload_n (pc := 0) O dX5_nameHere_0 0 rfl ?_
  refine v_getI (pc := 1) (a := 3) O gf_X5_8 fl_X5_54 kq_3 dX5_nameHere_1 ?_
  refine v_aload_n (pc := 4) O dX5_nameHere_4 0 rfl ?_
  refine v_getI (pc := 5) (a := 3) O gf_X5_7 fl_X5_27 kq_3 dX5_nameHere_5 ?_
  refine v_isub (pc := 8) O dX5_nameHere_8 ?_
  refine v_iconst (pc := 9) O dX5_nameHere_9 ic_1 ?_
  refine v_icmpne (pc := 10) 39 O dX5_nameHere_10 (by decide) (fun c1 => ?_) (fun c1 => ?_)
  · have h := (if_neg c1).symm.trans h
    refine v_sub [] rfl ?_
    exact w_X5_nameHere_b39 O hm hn hz D h
  · have h := (if_pos c1).symm.trans h
    refine v_aload_n (pc := 13) O dX5_nameHere_13 0 rfl ?_
    refine v_getI (pc := 14) (a := 3) O gf_X5_7 fl_X5_27 kq_3 dX5_nameHere_14 ?_
    refine v_aload_n (pc := 17) O dX5_nameHere_17 0 rfl ?_
    refine v_getI (pc := 18) (a := 3) O gf_X5_2 fl_X5_23 kq_3 dX5_nameHere_18 ?_
    refine v_icmpge (pc := 21) 39 O dX5_nameHere_21 (by decide) (fun c2 => ?_) (fun c2 => ?_)
    · have h := (if_pos c2).symm.trans h
      refine v_sub [] rfl ?_
      exact w_X5_nameHere_b39 O hm hn hz D h
    · have h := (if_neg c2).symm.trans h
      refine v_aload_n (pc := 24) O dX5_nameHere_24 0 rfl ?_
      refine v_getK (pc := 25) (a := 3) O hm gf_X5_1 fl_X5_9 kq_3 lk_3_1 dX5_nameHere_25 ?_
      refine v_aload_n (pc := 28) O dX5_nameHere_28 0 rfl ?_
      refine v_getI (pc := 29) (a := 3) O gf_X5_7 fl_X5_27 kq_3 dX5_nameHere_29 ?_
      obtain ⟨c3, h⟩ := or_none h
      refine v_cald (pc := 32) (a := 4) O kq_4 (inq lq_4 c3) dX5_nameHere_32 ?_
      refine v_bipush (pc := 33) O dX5_nameHere_33 bp_97 ?_
      refine v_isub (pc := 35) O dX5_nameHere_35 ?_
      refine v_goto (pc := 36) 40 O dX5_nameHere_36 (by decide) ?_
      refine v_sub [] rfl ?_
      exact w_X5_nameHere_b40 O hm hn hz ((dI D 4 (dI D 3 7).toNatClampNeg) - (97 : Int32)) D h
theorem c_X5_nameHere {l : Launch} {w : Wx} {n nu c u : Nat} {K : Nat → Nat} (hm : wlm w = true) {D : Dat} {z : Int32 × Dat} (h : f_X5_nameHere D = some z) : C0 l w yX5_nameHere cX5_nameHere 1 (some .int) 0 0 [.ref (wb w + 3)] n (Ax nu K c u) D (some (.int z.1)) z.2 :=
  C0.of (by decide) (Nat.le_of_ble_eq_true rfl) (fun X e1 e2 e3 hz O => by
  subst e1
  subst e2
  exact w_X5_nameHere O hm e3 hz  D h)
def f_X8_emit_b17 (x1 : Int32) (x2 : Int32) (D : Dat) : Option (Dat) :=
  ((dR D 106 1)).bind (fun a1 => if a1 = 201 ∨ a1 = 204 then ((f_X0_add a1 x1 x2 D).bind (fun p4 => some p4)) else none)
set_option maxHeartbeats 4000000 in
theorem w_X8_emit_b17 {X : Cx} {n nu c u : Nat} {K : Nat → Nat} {z : Dat} (O : Ok X cX8_emit RX8 none 1 22) (hm : wlm (xw X) = true) (hn : xn X = 3) (hz : Z0 X (Ax nu K c u)) (x1 : Int32) (x2 : Int32) (D : Dat) (h : f_X8_emit_b17 x1 x2 D = some z) : V X (Q0 X n (Ax nu K c u) none z) n (Ax nu K c u) D 17 [(0, .ref (bo X + 106)), (1, .int x1), (2, .int x2)] [] := by
  unfold f_X8_emit_b17 at h
  refine v_aload_n (pc := 17) O dX8_emit_17 0 rfl ?_
  refine v_getR (pc := 18) (a := 106) O gf_X8_1 fl_X8_15 kq_106 dX8_emit_18 ?_
  refine v_iload_n (pc := 21) O dX8_emit_21 1 rfl ?_
  refine v_iload_n (pc := 22) O dX8_emit_22 2 rfl ?_
  obtain ⟨a1, e2, h⟩ := bind_some h
  rw [e2]
  obtain ⟨c3, h⟩ := if_none h
  obtain ⟨p4, e5, h⟩ := bind_some h
  refine v_callV (pc := 23) (a := a1) (As := [.int x1, .int x2]) (rest := []) (r := none) (D' := p4) O (bb0 hz) (c_X0_add hm c3 e5) mw_X0_add im_X0_add se_X0_add ml_X8_103 (kt_X0 c3) (by decide) rfl rfl rfl (by decide) (by decide) (Nat.le_of_ble_eq_true rfl) dX8_emit_23 rfl rfl ?_
  obtain rfl := Option.some.inj h
  exact v_ret (pc := 26) O hz dX8_emit_26
def f_X8_emit (x1 : Int32) (x2 : Int32) (D : Dat) : Option (Dat) :=
  ((dR D 106 1)).bind (fun a6 => if a6 = 201 ∨ a6 = 204 then ((f_X0_size a6 D).bind (fun p9 => if p9.1 < 64 then (f_X8_emit_b17 x1 x2 p9.2) else (f_X8_emit_b17 x1 x2 (sI p9.2 106 2 1)))) else none)
set_option maxHeartbeats 4000000 in
theorem w_X8_emit {X : Cx} {n nu c u : Nat} {K : Nat → Nat} {z : Dat} (O : Ok X cX8_emit RX8 none 1 22) (hm : wlm (xw X) = true) (hn : xn X = 3) (hz : Z0 X (Ax nu K c u)) (x1 : Int32) (x2 : Int32) (D : Dat) (h : f_X8_emit x1 x2 D = some z) : V X (Q0 X n (Ax nu K c u) none z) n (Ax nu K c u) D 0 [(0, .ref (bo X + 106)), (1, .int x1), (2, .int x2)] [] := by
  unfold f_X8_emit at h
  refine v_aload_n (pc := 0) O dX8_emit_0 0 rfl ?_
  refine v_getR (pc := 1) (a := 106) O gf_X8_1 fl_X8_15 kq_106 dX8_emit_1 ?_
  obtain ⟨a6, e7, h⟩ := bind_some h
  rw [e7]
  obtain ⟨c8, h⟩ := if_none h
  obtain ⟨p9, e10, h⟩ := bind_some h
  refine v_callV (pc := 4) (a := a6) (As := []) (rest := []) (r := (some (.int p9.1))) (D' := p9.2) O (bb0 hz) (c_X0_size hm c8 e10) mw_X0_size im_X0_size se_X0_size ml_X8_74 (kt_X0 c8) (by decide) rfl rfl rfl (by decide) (by decide) (Nat.le_of_ble_eq_true rfl) dX8_emit_4 rfl rfl ?_
  refine v_bipush (pc := 7) O dX8_emit_7 bp_64 ?_
  refine v_icmplt (pc := 9) 17 O dX8_emit_9 (by decide) (fun c11 => ?_) (fun c11 => ?_)
  · have h := (if_pos c11).symm.trans h
    refine v_sub [0, 1, 2] rfl ?_
    exact w_X8_emit_b17 O hm hn hz x1 x2 p9.2 h
  · have h := (if_neg c11).symm.trans h
    refine v_aload_n (pc := 12) O dX8_emit_12 0 rfl ?_
    refine v_iconst (pc := 13) O dX8_emit_13 ic_1 ?_
    refine v_putZ (pc := 14) (a := 106) O pf_X8_2 fl_X8_24 kq_106 narrow_b1 dX8_emit_14 ?_
    refine v_sub [0, 1, 2] rfl ?_
    exact w_X8_emit_b17 O hm hn hz x1 x2 (sI p9.2 106 2 1) h
theorem c_X8_emit {l : Launch} {w : Wx} {n nu c u : Nat} {K : Nat → Nat} (hm : wlm w = true) {x1 : Int32} {x2 : Int32} {D : Dat} {z : Dat} (h : f_X8_emit x1 x2 D = some z) : C0 l w yX8_emit cX8_emit 3 none 1 22 [.ref (wb w + 106), .int x1, .int x2] n (Ax nu K c u) D none z :=
  C0.of (by decide) (Nat.le_of_ble_eq_true rfl) (fun X e1 e2 e3 hz O => by
  subst e1
  subst e2
  exact w_X8_emit O hm e3 hz x1 x2 D h)
def f_X12_step_b294 (N : Nat) (x1 : Int32) (D : Dat) : Option (Int32 × Dat) :=
  if x1 < 0 ∨ 128 ≤ (x1).toNatClampNeg then none else (some ((dI D 224 (x1).toNatClampNeg), D))
set_option maxHeartbeats 4000000 in
theorem w_X12_step_b294 {X : Cx} {n nu c u : Nat} {K : Nat → Nat} {N : Nat} {z : Int32 × Dat} (O : Ok X cX12_step RX12 (some .int) 5 111) (hm : wlm (xw X) = true) (hn : xn X = 5) (hz : Z0 X (Ax nu K c u)) (x1 : Int32) (D : Dat) (h : f_X12_step_b294 N x1 D = some z) : V X (Q0 X n (Ax nu K c u) (some (.int z.1)) z.2) n (Ax nu K c u) D 294 [(0, .ref (bo X + 207)), (1, .int x1)] [] := by
  unfold f_X12_step_b294 at h
  refine v_aload_n (pc := 294) O dX12_step_294 0 rfl ?_
  refine v_getK (pc := 295) (a := 207) O hm gf_X12_28 fl_X12_66 kq_207 lk_207_28 dX12_step_295 ?_
  refine v_iload_n (pc := 298) O dX12_step_298 1 rfl ?_
  obtain ⟨c1, h⟩ := or_none h
  refine v_iald (pc := 299) (a := 224) O kq_224 (inq lq_224 c1) dX12_step_299 ?_
  obtain rfl := Option.some.inj h
  exact v_iret (pc := 300) O hz dX12_step_300
def f_X12_step_b140 (N : Nat) (x1 : Int32) (x3 : Int32) (x4 : Int32) (D : Dat) : Option (Int32 × Dat) :=
  if 0 ≤ (dI D 207 84) then (f_X12_step_b294 N x1 D) else (if x1 < 0 ∨ 128 ≤ (x1).toNatClampNeg then none else (if (((8 : Int32) * (dI D 218 (x1).toNatClampNeg)) + x3) < 0 ∨ 208 ≤ ((((8 : Int32) * (dI D 218 (x1).toNatClampNeg)) + x3)).toNatClampNeg then none else (f_X12_step_b294 N x1 (sI D 260 (((8 : Int32) * (dI D 218 (x1).toNatClampNeg)) + x3).toNatClampNeg x4))))
set_option maxHeartbeats 4000000 in
theorem w_X12_step_b140 {X : Cx} {n nu c u : Nat} {K : Nat → Nat} {N : Nat} {z : Int32 × Dat} (O : Ok X cX12_step RX12 (some .int) 5 111) (hm : wlm (xw X) = true) (hn : xn X = 5) (hz : Z0 X (Ax nu K c u)) (x1 : Int32) (x3 : Int32) (x4 : Int32) (D : Dat) (h : f_X12_step_b140 N x1 x3 x4 D = some z) : V X (Q0 X n (Ax nu K c u) (some (.int z.1)) z.2) n (Ax nu K c u) D 140 [(0, .ref (bo X + 207)), (1, .int x1), (3, .int x3), (4, .int x4)] [] := by
  unfold f_X12_step_b140 at h
  refine v_aload_n (pc := 140) O dX12_step_140 0 rfl ?_
  refine v_getI (pc := 141) (a := 207) O gf_X12_84 fl_X12_475 kq_207 dX12_step_141 ?_
  refine v_ifge (pc := 144) 294 O dX12_step_144 (by decide) (fun c2 => ?_) (fun c2 => ?_)
  · have h := (if_pos c2).symm.trans h
    refine v_sub [0, 1] rfl ?_
    exact w_X12_step_b294 O hm hn hz x1 D h
  · have h := (if_neg c2).symm.trans h
    refine v_aload_n (pc := 147) O dX12_step_147 0 rfl ?_
    refine v_getK (pc := 148) (a := 207) O hm gf_X12_80 fl_X12_174 kq_207 lk_207_80 dX12_step_148 ?_
    refine v_bipush (pc := 151) O dX12_step_151 bp_8 ?_
    refine v_aload_n (pc := 153) O dX12_step_153 0 rfl ?_
    refine v_getK (pc := 154) (a := 207) O hm gf_X12_22 fl_X12_48 kq_207 lk_207_22 dX12_step_154 ?_
    refine v_iload_n (pc := 157) O dX12_step_157 1 rfl ?_
    obtain ⟨c3, h⟩ := or_none h
    refine v_iald (pc := 158) (a := 218) O kq_218 (inq lq_218 c3) dX12_step_158 ?_
    refine v_imul (pc := 159) O dX12_step_159 ?_
    refine v_iload_n (pc := 160) O dX12_step_160 2 rfl ?_
    refine v_iadd (pc := 161) O dX12_step_161 ?_
    refine v_iload (pc := 162) O dX12_step_162 3 rfl ?_
    obtain ⟨c4, h⟩ := or_none h
    refine v_iast (pc := 164) (a := 260) O kq_260 (inq lq_260 c4) dX12_step_164 ?_
    refine v_goto (pc := 165) 294 O dX12_step_165 (by decide) ?_
    refine v_sub [0, 1] rfl ?_
    exact w_X12_step_b294 O hm hn hz x1 (sI D 260 (((8 : Int32) * (dI D 218 (x1).toNatClampNeg)) + x3).toNatClampNeg x4) h
def f_X12_step_b113 (N : Nat) (x1 : Int32) (x3 : Int32) (s0 : Int32) (D : Dat) : Option (Int32 × Dat) :=
  if 0 ≤ (dI D 207 84) then (f_X12_step_b140 N x1 x3 s0 D) else ((f_X12_out x3 8 D).bind (fun p6 => if p6.1 = 0 then (f_X12_step_b140 N x1 x3 s0 p6.2) else (f_X12_step_b294 N x1 (sI p6.2 207 84 2))))
set_option maxHeartbeats 4000000 in
theorem w_X12_step_b113 {X : Cx} {n nu c u : Nat} {K : Nat → Nat} {N : Nat} {z : Int32 × Dat} (O : Ok X cX12_step RX12 (some .int) 5 111) (hm : wlm (xw X) = true) (hn : xn X = 5) (hz : Z0 X (Ax nu K c u)) (x1 : Int32) (x3 : Int32) (s0 : Int32) (D : Dat) (h : f_X12_step_b113 N x1 x3 s0 D = some z) : V X (Q0 X n (Ax nu K c u) (some (.int z.1)) z.2) n (Ax nu K c u) D 113 [(0, .ref (bo X + 207)), (1, .int x1), (3, .int x3)] [.int s0] := by
  unfold f_X12_step_b113 at h
  refine v_istore (pc := 113) (lv' := [(4, .int s0), (0, .ref (bo X + 207)), (1, .int x1), (3, .int x3)]) O dX12_step_113 (by rw [hn]; decide) rfl ?_
  refine v_aload_n (pc := 115) O dX12_step_115 1 rfl ?_
  refine v_getI (pc := 116) (a := 207) O gf_X12_84 fl_X12_475 kq_207 dX12_step_116 ?_
  refine v_ifge (pc := 119) 140 O dX12_step_119 (by decide) (fun c5 => ?_) (fun c5 => ?_)
  · have h := (if_pos c5).symm.trans h
    refine v_sub [1, 2, 3, 0] rfl ?_
    exact w_X12_step_b140 O hm hn hz x1 x3 s0 D h
  · have h := (if_neg c5).symm.trans h
    refine v_aload_n (pc := 122) O dX12_step_122 1 rfl ?_
    refine v_iload_n (pc := 123) O dX12_step_123 3 rfl ?_
    refine v_bipush (pc := 124) O dX12_step_124 bp_8 ?_
    obtain ⟨p6, e7, h⟩ := bind_some h
    refine v_callV (pc := 126) (a := 207) (As := [.int x3, .int 8]) (rest := []) (r := (some (.int p6.1))) (D' := p6.2) O (bb0 hz) (c_X12_out hm e7) mw_X12_out im_X12_out se_X12_out ml_X12_186 kq_207 (by decide) rfl rfl rfl (by decide) (by decide) (Nat.le_of_ble_eq_true rfl) dX12_step_126 rfl rfl ?_
    refine v_ifeq (pc := 129) 140 O dX12_step_129 (by decide) (fun c8 => ?_) (fun c8 => ?_)
    · have h := (if_pos c8).symm.trans h
      refine v_sub [1, 2, 3, 0] rfl ?_
      exact w_X12_step_b140 O hm hn hz x1 x3 s0 p6.2 h
    · have h := (if_neg c8).symm.trans h
      refine v_aload_n (pc := 132) O dX12_step_132 1 rfl ?_
      refine v_iconst (pc := 133) O dX12_step_133 ic_2 ?_
      refine v_putI (pc := 134) (a := 207) O pf_X12_84 fl_X12_475 kq_207 dX12_step_134 ?_
      refine v_goto (pc := 137) 294 O dX12_step_137 (by decide) ?_
      refine v_sub [1, 2] rfl ?_
      exact w_X12_step_b294 O hm hn hz x1 (sI p6.2 207 84 2) h
def f_X12_step_b287 (N : Nat) (s0 : Int32) (D : Dat) : Option (Int32 × Dat) :=
  some (s0, D)
set_option maxHeartbeats 4000000 in
theorem w_X12_step_b287 {X : Cx} {n nu c u : Nat} {K : Nat → Nat} {N : Nat} {z : Int32 × Dat} (O : Ok X cX12_step RX12 (some .int) 5 111) (hm : wlm (xw X) = true) (hn : xn X = 5) (hz : Z0 X (Ax nu K c u)) (s0 : Int32) (D : Dat) (h : f_X12_step_b287 N s0 D = some z) : V X (Q0 X n (Ax nu K c u) (some (.int z.1)) z.2) n (Ax nu K c u) D 287 [] [.int s0] := by
  unfold f_X12_step_b287 at h
  obtain rfl := Option.some.inj h
  exact v_iret (pc := 287) O hz dX12_step_287
def f_X12_step_b288 (N : Nat) (x1 : Int32) (D : Dat) : Option (Int32 × Dat) :=
  (f_X12_round N x1 D).bind (fun p9 => some (p9.1, p9.2))
set_option maxHeartbeats 4000000 in
theorem w_X12_step_b288 {X : Cx} {n nu c u : Nat} {K : Nat → Nat} {N : Nat} {z : Int32 × Dat} (O : Ok X cX12_step RX12 (some .int) 5 111) (hm : wlm (xw X) = true) (hn : xn X = 5) (hz : Z0 X (Ax nu K c u)) (x1 : Int32) (D : Dat) (h : f_X12_step_b288 N x1 D = some z) : V X (Q0 X n (Ax nu K c u) (some (.int z.1)) z.2) n (Ax nu K c u) D 288 [(0, .ref (bo X + 207)), (1, .int x1)] [] := by
  unfold f_X12_step_b288 at h
  refine v_aload_n (pc := 288) O dX12_step_288 0 rfl ?_
  refine v_iload_n (pc := 289) O dX12_step_289 1 rfl ?_
  obtain ⟨p9, e10, h⟩ := bind_some h
  refine v_callV (pc := 290) (a := 207) (As := [.int x1]) (rest := []) (r := (some (.int p9.1))) (D' := p9.2) O (bb0 hz) (c_X12_round hm e10) mw_X12_round im_X12_round se_X12_round ml_X12_502 kq_207 (by decide) rfl rfl rfl (by decide) (by decide) (Nat.le_of_ble_eq_true rfl) dX12_step_290 rfl rfl ?_
  obtain rfl := Option.some.inj h
  exact v_iret (pc := 293) O hz dX12_step_293
def f_X12_step (N : Nat) (x1 : Int32) (D : Dat) : Option (Int32 × Dat) :=
  if x1 < 0 ∨ 128 ≤ (x1).toNatClampNeg then none else (if (dI D 216 (x1).toNatClampNeg) = (1 : Int32) then (if x1 < 0 ∨ 128 ≤ (x1).toNatClampNeg then none else ((f_X12_worth N (dI D 221 (x1).toNatClampNeg) D).bind (fun p14 => if 0 ≤ (dI p14.2 207 84) then (f_X12_step_b294 N x1 p14.2) else (if x1 < 0 ∨ 128 ≤ (x1).toNatClampNeg then none else (if (dI p14.2 218 (x1).toNatClampNeg) < 0 ∨ 26 ≤ ((dI p14.2 218 (x1).toNatClampNeg)).toNatClampNeg then none else (f_X12_step_b294 N x1 (sI p14.2 259 (dI p14.2 218 (x1).toNatClampNeg).toNatClampNeg p14.1))))))) else (if (dI D 216 (x1).toNatClampNeg) = (2 : Int32) then (if x1 < 0 ∨ 128 ≤ (x1).toNatClampNeg then none else ((f_X12_worth N (dI D 220 (x1).toNatClampNeg) D).bind (fun p21 => if 0 ≤ (dI p21.2 207 84) then (f_X12_step_b113 N x1 p21.1 0 p21.2) else (if x1 < 0 ∨ 128 ≤ (x1).toNatClampNeg then none else ((f_X12_worth N (dI p21.2 221 (x1).toNatClampNeg) p21.2).bind (fun p25 => f_X12_step_b113 N x1 p21.1 p25.1 p25.2)))))) else (if (dI D 216 (x1).toNatClampNeg) = (3 : Int32) then ((f_X12_push 3 x1 D).bind (fun p28 => if x1 < 0 ∨ 128 ≤ (x1).toNatClampNeg then none else ((f_X12_worth N (dI p28 220 (x1).toNatClampNeg) p28).bind (fun p31 => if p31.1 = 0 then (if x1 < 0 ∨ 128 ≤ (x1).toNatClampNeg then none else (f_X12_step_b287 N (dI p31.2 223 (x1).toNatClampNeg) p31.2)) else (if x1 < 0 ∨ 128 ≤ (x1).toNatClampNeg then none else (f_X12_step_b287 N (dI p31.2 222 (x1).toNatClampNeg) p31.2)))))) else (if (dI D 216 (x1).toNatClampNeg) = (5 : Int32) then (if x1 < 0 ∨ 128 ≤ (x1).toNatClampNeg then none else (if x1 < 0 ∨ 128 ≤ (x1).toNatClampNeg then none else ((f_X12_input (dI D 219 (x1).toNatClampNeg) D).bind (fun p39 => if (dI D 218 (x1).toNatClampNeg) < 0 ∨ 26 ≤ ((dI D 218 (x1).toNatClampNeg)).toNatClampNeg then none else (f_X12_step_b294 N x1 (sI p39.2 259 (dI D 218 (x1).toNatClampNeg).toNatClampNeg p39.1)))))) else (if (dI D 216 (x1).toNatClampNeg) = (6 : Int32) then (if x1 < 0 ∨ 128 ≤ (x1).toNatClampNeg then none else ((f_X12_worth N (dI D 220 (x1).toNatClampNeg) D).bind (fun p44 => (f_X12_give p44.1 p44.2).bind (fun p46 => if 0 ≤ (dI p46 207 84) then (f_X12_step_b294 N x1 p46) else (if x1 < 0 ∨ 128 ≤ (x1).toNatClampNeg then none else ((f_X12_write (dI p46 219 (x1).toNatClampNeg) p46).bind (fun p50 => f_X12_step_b294 N x1 p50))))))) else (if (dI D 216 (x1).toNatClampNeg) = (7 : Int32) then ((f_X12_push 7 x1 D).bind (fun p53 => if x1 < 0 ∨ 128 ≤ (x1).toNatClampNeg then none else (if (((26 : Int32) * (dI p53 207 19)) + (dI p53 218 (x1).toNatClampNeg)) < 0 ∨ 52 ≤ ((((26 : Int32) * (dI p53 207 19)) + (dI p53 218 (x1).toNatClampNeg))).toNatClampNeg then none else (some ((dI p53 227 (((26 : Int32) * (dI p53 207 19)) + (dI p53 218 (x1).toNatClampNeg)).toNatClampNeg), p53))))) else (f_X12_step_b288 N x1 D)))))))
set_option maxHeartbeats 4000000 in
theorem w_X12_step {X : Cx} {n nu c u : Nat} {K : Nat → Nat} {N : Nat} {z : Int32 × Dat} (O : Ok X cX12_step RX12 (some .int) 5 111) (hm : wlm (xw X) = true) (hn : xn X = 5) (hz : Z0 X (Ax nu K c u)) (x1 : Int32) (D : Dat) (h : f_X12_step N x1 D = some z) : V X (Q0 X n (Ax nu K c u) (some (.int z.1)) z.2) n (Ax nu K c u) D 0 [(0, .ref (bo X + 207)), (1, .int x1)] [] := by
  unfold f_X12_step at h
  refine v_aload_n (pc := 0) O dX12_step_0 0 rfl ?_
  refine v_getK (pc := 1) (a := 207) O hm gf_X12_20 fl_X12_42 kq_207 lk_207_20 dX12_step_1 ?_
  refine v_iload_n (pc := 4) O dX12_step_4 1 rfl ?_
  obtain ⟨c11, h⟩ := or_none h
  refine v_iald (pc := 5) (a := 216) O kq_216 (inq lq_216 c11) dX12_step_5 ?_
  by_cases c12 : (dI D 216 (x1).toNatClampNeg) = (1 : Int32)
  · have h := (if_pos c12).symm.trans h
    refine v_tableIn (pc := 6) 48 O dX12_step_6 (by rw [c12]; decide) (by rw [c12]; decide) (by rw [c12]; rfl) (by decide) ?_
    refine v_aload_n (pc := 48) O dX12_step_48 0 rfl ?_
    refine v_aload_n (pc := 49) O dX12_step_49 0 rfl ?_
    refine v_getK (pc := 50) (a := 207) O hm gf_X12_25 fl_X12_57 kq_207 lk_207_25 dX12_step_50 ?_
    refine v_iload_n (pc := 53) O dX12_step_53 1 rfl ?_
    obtain ⟨c13, h⟩ := or_none h
    refine v_iald (pc := 54) (a := 221) O kq_221 (inq lq_221 c13) dX12_step_54 ?_
    obtain ⟨p14, e15, h⟩ := bind_some h
    refine v_callV (pc := 55) (a := 207) (As := [.int (dI D 221 (x1).toNatClampNeg)]) (rest := []) (r := (some (.int p14.1))) (D' := p14.2) O (bb0 hz) (c_X12_worth hm e15) mw_X12_worth im_X12_worth se_X12_worth ml_X12_499 kq_207 (by decide) rfl rfl rfl (by decide) (by decide) (Nat.le_of_ble_eq_true rfl) dX12_step_55 rfl rfl ?_
    refine v_istore_n (pc := 58) (lv' := [(2, .int p14.1), (0, .ref (bo X + 207)), (1, .int x1)]) O dX12_step_58 rfl (by rw [hn]; decide) rfl ?_
    refine v_aload_n (pc := 59) O dX12_step_59 1 rfl ?_
    refine v_getI (pc := 60) (a := 207) O gf_X12_84 fl_X12_475 kq_207 dX12_step_60 ?_
    refine v_ifge (pc := 63) 294 O dX12_step_63 (by decide) (fun c16 => ?_) (fun c16 => ?_)
    · have h := (if_pos c16).symm.trans h
      refine v_sub [1, 2] rfl ?_
      exact w_X12_step_b294 O hm hn hz x1 p14.2 h
    · have h := (if_neg c16).symm.trans h
      refine v_aload_n (pc := 66) O dX12_step_66 1 rfl ?_
      refine v_getK (pc := 67) (a := 207) O hm gf_X12_79 fl_X12_171 kq_207 lk_207_79 dX12_step_67 ?_
      refine v_aload_n (pc := 70) O dX12_step_70 1 rfl ?_
      refine v_getK (pc := 71) (a := 207) O hm gf_X12_22 fl_X12_48 kq_207 lk_207_22 dX12_step_71 ?_
      refine v_iload_n (pc := 74) O dX12_step_74 2 rfl ?_
      obtain ⟨c17, h⟩ := or_none h
      refine v_iald (pc := 75) (a := 218) O kq_218 (inq lq_218 c17) dX12_step_75 ?_
      refine v_iload_n (pc := 76) O dX12_step_76 0 rfl ?_
      obtain ⟨c18, h⟩ := or_none h
      refine v_iast (pc := 77) (a := 259) O kq_259 (inq lq_259 c18) dX12_step_77 ?_
      refine v_goto (pc := 78) 294 O dX12_step_78 (by decide) ?_
      refine v_sub [1, 2] rfl ?_
      exact w_X12_step_b294 O hm hn hz x1 (sI p14.2 259 (dI p14.2 218 (x1).toNatClampNeg).toNatClampNeg p14.1) h
  · have h := (if_neg c12).symm.trans h
    by_cases c19 : (dI D 216 (x1).toNatClampNeg) = (2 : Int32)
    · have h := (if_pos c19).symm.trans h
      refine v_tableIn (pc := 6) 81 O dX12_step_6 (by rw [c19]; decide) (by rw [c19]; decide) (by rw [c19]; rfl) (by decide) ?_
      refine v_aload_n (pc := 81) O dX12_step_81 0 rfl ?_
      refine v_aload_n (pc := 82) O dX12_step_82 0 rfl ?_
      refine v_getK (pc := 83) (a := 207) O hm gf_X12_24 fl_X12_54 kq_207 lk_207_24 dX12_step_83 ?_
      refine v_iload_n (pc := 86) O dX12_step_86 1 rfl ?_
      obtain ⟨c20, h⟩ := or_none h
      refine v_iald (pc := 87) (a := 220) O kq_220 (inq lq_220 c20) dX12_step_87 ?_
      obtain ⟨p21, e22, h⟩ := bind_some h
      refine v_callV (pc := 88) (a := 207) (As := [.int (dI D 220 (x1).toNatClampNeg)]) (rest := []) (r := (some (.int p21.1))) (D' := p21.2) O (bb0 hz) (c_X12_worth hm e22) mw_X12_worth im_X12_worth se_X12_worth ml_X12_499 kq_207 (by decide) rfl rfl rfl (by decide) (by decide) (Nat.le_of_ble_eq_true rfl) dX12_step_88 rfl rfl ?_
      refine v_istore_n (pc := 91) (lv' := [(3, .int p21.1), (0, .ref (bo X + 207)), (1, .int x1)]) O dX12_step_91 rfl (by rw [hn]; decide) rfl ?_
      refine v_aload_n (pc := 92) O dX12_step_92 1 rfl ?_
      refine v_getI (pc := 93) (a := 207) O gf_X12_84 fl_X12_475 kq_207 dX12_step_93 ?_
      refine v_ifge (pc := 96) 112 O dX12_step_96 (by decide) (fun c23 => ?_) (fun c23 => ?_)
      · have h := (if_pos c23).symm.trans h
        refine v_iconst (pc := 112) O dX12_step_112 ic_0 ?_
        refine v_sub [1, 2, 0] rfl ?_
        exact w_X12_step_b113 O hm hn hz x1 p21.1 0 p21.2 h
      · have h := (if_neg c23).symm.trans h
        refine v_aload_n (pc := 99) O dX12_step_99 1 rfl ?_
        refine v_aload_n (pc := 100) O dX12_step_100 1 rfl ?_
        refine v_getK (pc := 101) (a := 207) O hm gf_X12_25 fl_X12_57 kq_207 lk_207_25 dX12_step_101 ?_
        refine v_iload_n (pc := 104) O dX12_step_104 2 rfl ?_
        obtain ⟨c24, h⟩ := or_none h
        refine v_iald (pc := 105) (a := 221) O kq_221 (inq lq_221 c24) dX12_step_105 ?_
        obtain ⟨p25, e26, h⟩ := bind_some h
        refine v_callV (pc := 106) (a := 207) (As := [.int (dI p21.2 221 (x1).toNatClampNeg)]) (rest := []) (r := (some (.int p25.1))) (D' := p25.2) O (bb0 hz) (c_X12_worth hm e26) mw_X12_worth im_X12_worth se_X12_worth ml_X12_499 kq_207 (by decide) rfl rfl rfl (by decide) (by decide) (Nat.le_of_ble_eq_true rfl) dX12_step_106 rfl rfl ?_
        refine v_goto (pc := 109) 113 O dX12_step_109 (by decide) ?_
        refine v_sub [1, 2, 0] rfl ?_
        exact w_X12_step_b113 O hm hn hz x1 p21.1 p25.1 p25.2 h
    · have h := (if_neg c19).symm.trans h
      by_cases c27 : (dI D 216 (x1).toNatClampNeg) = (3 : Int32)
      · have h := (if_pos c27).symm.trans h
        refine v_tableIn (pc := 6) 253 O dX12_step_6 (by rw [c27]; decide) (by rw [c27]; decide) (by rw [c27]; rfl) (by decide) ?_
        refine v_aload_n (pc := 253) O dX12_step_253 0 rfl ?_
        refine v_iconst (pc := 254) O dX12_step_254 ic_3 ?_
        refine v_iload_n (pc := 255) O dX12_step_255 1 rfl ?_
        obtain ⟨p28, e29, h⟩ := bind_some h
        refine v_callV (pc := 256) (a := 207) (As := [.int 3, .int x1]) (rest := []) (r := none) (D' := p28) O (bb0 hz) (c_X12_push hm e29) mw_X12_push im_X12_push se_X12_push ml_X12_367 kq_207 (by decide) rfl rfl rfl (by decide) (by decide) (Nat.le_of_ble_eq_true rfl) dX12_step_256 rfl rfl ?_
        refine v_aload_n (pc := 259) O dX12_step_259 0 rfl ?_
        refine v_aload_n (pc := 260) O dX12_step_260 0 rfl ?_
        refine v_getK (pc := 261) (a := 207) O hm gf_X12_24 fl_X12_54 kq_207 lk_207_24 dX12_step_261 ?_
        refine v_iload_n (pc := 264) O dX12_step_264 1 rfl ?_
        obtain ⟨c30, h⟩ := or_none h
        refine v_iald (pc := 265) (a := 220) O kq_220 (inq lq_220 c30) dX12_step_265 ?_
        obtain ⟨p31, e32, h⟩ := bind_some h
        refine v_callV (pc := 266) (a := 207) (As := [.int (dI p28 220 (x1).toNatClampNeg)]) (rest := []) (r := (some (.int p31.1))) (D' := p31.2) O (bb0 hz) (c_X12_worth hm e32) mw_X12_worth im_X12_worth se_X12_worth ml_X12_499 kq_207 (by decide) rfl rfl rfl (by decide) (by decide) (Nat.le_of_ble_eq_true rfl) dX12_step_266 rfl rfl ?_
        refine v_ifeq (pc := 269) 281 O dX12_step_269 (by decide) (fun c33 => ?_) (fun c33 => ?_)
        · have h := (if_pos c33).symm.trans h
          refine v_aload_n (pc := 281) O dX12_step_281 0 rfl ?_
          refine v_getK (pc := 282) (a := 207) O hm gf_X12_27 fl_X12_63 kq_207 lk_207_27 dX12_step_282 ?_
          refine v_iload_n (pc := 285) O dX12_step_285 1 rfl ?_
          obtain ⟨c34, h⟩ := or_none h
          refine v_iald (pc := 286) (a := 223) O kq_223 (inq lq_223 c34) dX12_step_286 ?_
          refine v_sub [] rfl ?_
          exact w_X12_step_b287 O hm hn hz (dI p31.2 223 (x1).toNatClampNeg) p31.2 h
        · have h := (if_neg c33).symm.trans h
          refine v_aload_n (pc := 272) O dX12_step_272 0 rfl ?_
          refine v_getK (pc := 273) (a := 207) O hm gf_X12_26 fl_X12_60 kq_207 lk_207_26 dX12_step_273 ?_
          refine v_iload_n (pc := 276) O dX12_step_276 1 rfl ?_
          obtain ⟨c35, h⟩ := or_none h
          refine v_iald (pc := 277) (a := 222) O kq_222 (inq lq_222 c35) dX12_step_277 ?_
          refine v_goto (pc := 278) 287 O dX12_step_278 (by decide) ?_
          refine v_sub [] rfl ?_
          exact w_X12_step_b287 O hm hn hz (dI p31.2 222 (x1).toNatClampNeg) p31.2 h
      · have h := (if_neg c27).symm.trans h
        by_cases c36 : (dI D 216 (x1).toNatClampNeg) = (5 : Int32)
        · have h := (if_pos c36).symm.trans h
          refine v_tableIn (pc := 6) 168 O dX12_step_6 (by rw [c36]; decide) (by rw [c36]; decide) (by rw [c36]; rfl) (by decide) ?_
          refine v_aload_n (pc := 168) O dX12_step_168 0 rfl ?_
          refine v_getK (pc := 169) (a := 207) O hm gf_X12_79 fl_X12_171 kq_207 lk_207_79 dX12_step_169 ?_
          refine v_aload_n (pc := 172) O dX12_step_172 0 rfl ?_
          refine v_getK (pc := 173) (a := 207) O hm gf_X12_22 fl_X12_48 kq_207 lk_207_22 dX12_step_173 ?_
          refine v_iload_n (pc := 176) O dX12_step_176 1 rfl ?_
          obtain ⟨c37, h⟩ := or_none h
          refine v_iald (pc := 177) (a := 218) O kq_218 (inq lq_218 c37) dX12_step_177 ?_
          refine v_aload_n (pc := 178) O dX12_step_178 0 rfl ?_
          refine v_aload_n (pc := 179) O dX12_step_179 0 rfl ?_
          refine v_getK (pc := 180) (a := 207) O hm gf_X12_23 fl_X12_51 kq_207 lk_207_23 dX12_step_180 ?_
          refine v_iload_n (pc := 183) O dX12_step_183 1 rfl ?_
          obtain ⟨c38, h⟩ := or_none h
          refine v_iald (pc := 184) (a := 219) O kq_219 (inq lq_219 c38) dX12_step_184 ?_
          obtain ⟨p39, e40, h⟩ := bind_some h
          refine v_callV (pc := 185) (a := 207) (As := [.int (dI D 219 (x1).toNatClampNeg)]) (rest := [.int (dI D 218 (x1).toNatClampNeg), .ref (bo X + 259)]) (r := (some (.int p39.1))) (D' := p39.2) O (bb0 hz) (c_X12_input hm e40) mw_X12_input im_X12_input se_X12_input ml_X12_484 kq_207 (by decide) rfl rfl rfl (by decide) (by decide) (Nat.le_of_ble_eq_true rfl) dX12_step_185 rfl rfl ?_
          obtain ⟨c41, h⟩ := or_none h
          refine v_iast (pc := 188) (a := 259) O kq_259 (inq lq_259 c41) dX12_step_188 ?_
          refine v_goto (pc := 189) 294 O dX12_step_189 (by decide) ?_
          refine v_sub [0, 1] rfl ?_
          exact w_X12_step_b294 O hm hn hz x1 (sI p39.2 259 (dI D 218 (x1).toNatClampNeg).toNatClampNeg p39.1) h
        · have h := (if_neg c36).symm.trans h
          by_cases c42 : (dI D 216 (x1).toNatClampNeg) = (6 : Int32)
          · have h := (if_pos c42).symm.trans h
            refine v_tableIn (pc := 6) 192 O dX12_step_6 (by rw [c42]; decide) (by rw [c42]; decide) (by rw [c42]; rfl) (by decide) ?_
            refine v_aload_n (pc := 192) O dX12_step_192 0 rfl ?_
            refine v_aload_n (pc := 193) O dX12_step_193 0 rfl ?_
            refine v_aload_n (pc := 194) O dX12_step_194 0 rfl ?_
            refine v_getK (pc := 195) (a := 207) O hm gf_X12_24 fl_X12_54 kq_207 lk_207_24 dX12_step_195 ?_
            refine v_iload_n (pc := 198) O dX12_step_198 1 rfl ?_
            obtain ⟨c43, h⟩ := or_none h
            refine v_iald (pc := 199) (a := 220) O kq_220 (inq lq_220 c43) dX12_step_199 ?_
            obtain ⟨p44, e45, h⟩ := bind_some h
            refine v_callV (pc := 200) (a := 207) (As := [.int (dI D 220 (x1).toNatClampNeg)]) (rest := [.ref (bo X + 207)]) (r := (some (.int p44.1))) (D' := p44.2) O (bb0 hz) (c_X12_worth hm e45) mw_X12_worth im_X12_worth se_X12_worth ml_X12_499 kq_207 (by decide) rfl rfl rfl (by decide) (by decide) (Nat.le_of_ble_eq_true rfl) dX12_step_200 rfl rfl ?_
            obtain ⟨p46, e47, h⟩ := bind_some h
            refine v_callV (pc := 203) (a := 207) (As := [.int p44.1]) (rest := []) (r := none) (D' := p46) O (bb0 hz) (c_X12_give hm e47) mw_X12_give im_X12_give se_X12_give ml_X12_481 kq_207 (by decide) rfl rfl rfl (by decide) (by decide) (Nat.le_of_ble_eq_true rfl) dX12_step_203 rfl rfl ?_
            refine v_aload_n (pc := 206) O dX12_step_206 0 rfl ?_
            refine v_getI (pc := 207) (a := 207) O gf_X12_84 fl_X12_475 kq_207 dX12_step_207 ?_
            refine v_ifge (pc := 210) 294 O dX12_step_210 (by decide) (fun c48 => ?_) (fun c48 => ?_)
            · have h := (if_pos c48).symm.trans h
              refine v_sub [0, 1] rfl ?_
              exact w_X12_step_b294 O hm hn hz x1 p46 h
            · have h := (if_neg c48).symm.trans h
              refine v_aload_n (pc := 213) O dX12_step_213 0 rfl ?_
              refine v_aload_n (pc := 214) O dX12_step_214 0 rfl ?_
              refine v_getK (pc := 215) (a := 207) O hm gf_X12_23 fl_X12_51 kq_207 lk_207_23 dX12_step_215 ?_
              refine v_iload_n (pc := 218) O dX12_step_218 1 rfl ?_
              obtain ⟨c49, h⟩ := or_none h
              refine v_iald (pc := 219) (a := 219) O kq_219 (inq lq_219 c49) dX12_step_219 ?_
              obtain ⟨p50, e51, h⟩ := bind_some h
              refine v_callV (pc := 220) (a := 207) (As := [.int (dI p46 219 (x1).toNatClampNeg)]) (rest := []) (r := none) (D' := p50) O (bb0 hz) (c_X12_write hm e51) mw_X12_write im_X12_write se_X12_write ml_X12_487 kq_207 (by decide) rfl rfl rfl (by decide) (by decide) (Nat.le_of_ble_eq_true rfl) dX12_step_220 rfl rfl ?_
              refine v_goto (pc := 223) 294 O dX12_step_223 (by decide) ?_
              refine v_sub [0, 1] rfl ?_
              exact w_X12_step_b294 O hm hn hz x1 p50 h
          · have h := (if_neg c42).symm.trans h
            by_cases c52 : (dI D 216 (x1).toNatClampNeg) = (7 : Int32)
            · have h := (if_pos c52).symm.trans h
              refine v_tableIn (pc := 6) 226 O dX12_step_6 (by rw [c52]; decide) (by rw [c52]; decide) (by rw [c52]; rfl) (by decide) ?_
              refine v_aload_n (pc := 226) O dX12_step_226 0 rfl ?_
              refine v_bipush (pc := 227) O dX12_step_227 bp_7 ?_
              refine v_iload_n (pc := 229) O dX12_step_229 1 rfl ?_
              obtain ⟨p53, e54, h⟩ := bind_some h
              refine v_callV (pc := 230) (a := 207) (As := [.int 7, .int x1]) (rest := []) (r := none) (D' := p53) O (bb0 hz) (c_X12_push hm e54) mw_X12_push im_X12_push se_X12_push ml_X12_367 kq_207 (by decide) rfl rfl rfl (by decide) (by decide) (Nat.le_of_ble_eq_true rfl) dX12_step_230 rfl rfl ?_
              refine v_aload_n (pc := 233) O dX12_step_233 0 rfl ?_
              refine v_getK (pc := 234) (a := 207) O hm gf_X12_31 fl_X12_75 kq_207 lk_207_31 dX12_step_234 ?_
              refine v_bipush (pc := 237) O dX12_step_237 bp_26 ?_
              refine v_aload_n (pc := 239) O dX12_step_239 0 rfl ?_
              refine v_getI (pc := 240) (a := 207) O gf_X12_19 fl_X12_335 kq_207 dX12_step_240 ?_
              refine v_imul (pc := 243) O dX12_step_243 ?_
              refine v_aload_n (pc := 244) O dX12_step_244 0 rfl ?_
              refine v_getK (pc := 245) (a := 207) O hm gf_X12_22 fl_X12_48 kq_207 lk_207_22 dX12_step_245 ?_
              refine v_iload_n (pc := 248) O dX12_step_248 1 rfl ?_
              obtain ⟨c55, h⟩ := or_none h
              refine v_iald (pc := 249) (a := 218) O kq_218 (inq lq_218 c55) dX12_step_249 ?_
              refine v_iadd (pc := 250) O dX12_step_250 ?_
              obtain ⟨c56, h⟩ := or_none h
              refine v_iald (pc := 251) (a := 227) O kq_227 (inq lq_227 c56) dX12_step_251 ?_
              obtain rfl := Option.some.inj h
              exact v_iret (pc := 252) O hz dX12_step_252
            · have h := (if_neg c52).symm.trans h
              refine v_table (pc := 6) 288 O dX12_step_6 (fun g1 g2 => by
                  have c12i := ne_i (1) rfl c12
                  have c19i := ne_i (2) rfl c19
                  have c27i := ne_i (3) rfl c27
                  have c36i := ne_i (5) rfl c36
                  have c42i := ne_i (6) rfl c42
                  have c52i := ne_i (7) rfl c52
                  have e9 : (dI D 216 (x1).toNatClampNeg).toInt = 4 := by omega
                  rw [e9]; exact ⟨_, rfl, by decide⟩) (by decide) ?_
              refine v_sub [0, 1] rfl ?_
              exact w_X12_step_b288 O hm hn hz x1 D h
theorem c_X12_step {l : Launch} {w : Wx} {n nu c u : Nat} {K : Nat → Nat} {N : Nat} (hm : wlm w = true) {x1 : Int32} {D : Dat} {z : Int32 × Dat} (h : f_X12_step N x1 D = some z) : C0 l w yX12_step cX12_step 5 (some .int) 5 111 [.ref (wb w + 207), .int x1] n (Ax nu K c u) D (some (.int z.1)) z.2 :=
  C0.of (by decide) (Nat.le_of_ble_eq_true rfl) (fun X e1 e2 e3 hz O => by
  subst e1
  subst e2
  exact w_X12_step O hm e3 hz x1 D h)
def f_X12_walk_b17 (N : Nat) (D : Dat) : Option (Int32 × Dat) :=
  (f_X12_fail 1 D).bind (fun p1 => some (p1.1, p1.2))
set_option maxHeartbeats 4000000 in
theorem w_X12_walk_b17 {X : Cx} {n nu c u : Nat} {K : Nat → Nat} {N : Nat} {z : Int32 × Dat} (O : Ok X cX12_walk RX12 (some .int) 6 135) (hm : wlm (xw X) = true) (hn : xn X = 3) (hz : Z0 X (Ax nu K c u)) (D : Dat) (h : f_X12_walk_b17 N D = some z) : V X (Q0 X n (Ax nu K c u) (some (.int z.1)) z.2) n (Ax nu K c u) D 17 [(0, .ref (bo X + 207))] [] := by
  unfold f_X12_walk_b17 at h
  refine v_aload_n (pc := 17) O dX12_walk_17 0 rfl ?_
  refine v_iconst (pc := 18) O dX12_walk_18 ic_1 ?_
  obtain ⟨p1, e2, h⟩ := bind_some h
  refine v_callV (pc := 19) (a := 207) (As := [.int 1]) (rest := []) (r := (some (.int p1.1))) (D' := p1.2) O (bb0 hz) (c_X12_fail hm e2) mw_X12_fail im_X12_fail se_X12_fail ml_X12_190 kq_207 (by decide) rfl rfl rfl (by decide) (by decide) (Nat.le_of_ble_eq_true rfl) dX12_walk_19 rfl rfl ?_
  obtain rfl := Option.some.inj h
  exact v_iret (pc := 22) O hz dX12_walk_22
def f_X12_walk_b142 (N : Nat) (rec_55 : Int32 → Int32 → Dat → Option (Int32 × Dat)) (x1 : Int32) (x2 : Int32) (D : Dat) : Option (Int32 × Dat) :=
  rec_55 x1 x2 D
set_option maxHeartbeats 4000000 in
theorem w_X12_walk_b142 {X : Cx} {n nu c u : Nat} {K : Nat → Nat} {N : Nat} {rec_55 : Int32 → Int32 → Dat → Option (Int32 × Dat)} {z : Int32 × Dat} (O : Ok X cX12_walk RX12 (some .int) 6 135) (hm : wlm (xw X) = true) (hn : xn X = 3) (hz : Z0 X (Ax nu K c u)) (hrec_55 : ∀ (x1 : Int32) (x2 : Int32) (D : Dat), rec_55 x1 x2 D = some z → V X (Q0 X n (Ax nu K c u) (some (.int z.1)) z.2) n (Ax nu K c u) D 55 [(0, .ref (bo X + 207)), (1, .int x1), (2, .int x2)] []) (x1 : Int32) (x2 : Int32) (D : Dat) (h : f_X12_walk_b142 N rec_55 x1 x2 D = some z) : V X (Q0 X n (Ax nu K c u) (some (.int z.1)) z.2) n (Ax nu K c u) D 142 [(0, .ref (bo X + 207)), (1, .int x1), (2, .int x2)] [] := by
  unfold f_X12_walk_b142 at h
  refine v_goto (pc := 142) 55 O dX12_walk_142 (by decide) ?_
  refine v_sub [0, 1, 2] rfl ?_
  exact hrec_55 x1 x2 D h
def f_X12_walk_b81 (N : Nat) (rec_55 : Int32 → Int32 → Dat → Option (Int32 × Dat)) (x1 : Int32) (x2 : Int32) (D : Dat) : Option (Int32 × Dat) :=
  if x2 < 0 then (if (dI (sI D 207 55 ((dI D 207 55) - (1 : Int32))) 207 55) < 0 ∨ 300 ≤ ((dI (sI D 207 55 ((dI D 207 55) - (1 : Int32))) 207 55)).toNatClampNeg then none else (if (dI (sI D 207 55 ((dI D 207 55) - (1 : Int32))) 207 55) < 0 ∨ 300 ≤ ((dI (sI D 207 55 ((dI D 207 55) - (1 : Int32))) 207 55)).toNatClampNeg then none else (if (dI (sI D 207 55 ((dI D 207 55) - (1 : Int32))) 238 (dI (sI D 207 55 ((dI D 207 55) - (1 : Int32))) 207 55).toNatClampNeg) = 4 then ((f_X12_fuelled x1 (sI D 207 55 ((dI D 207 55) - (1 : Int32)))).bind (fun p7 => if p7.1 = 0 then (rec_55 x1 (dI (sI D 207 55 ((dI D 207 55) - (1 : Int32))) 239 (dI (sI D 207 55 ((dI D 207 55) - (1 : Int32))) 207 55).toNatClampNeg) p7.2) else ((f_X12_round N (dI (sI D 207 55 ((dI D 207 55) - (1 : Int32))) 239 (dI (sI D 207 55 ((dI D 207 55) - (1 : Int32))) 207 55).toNatClampNeg) p7.2).bind (fun p10 => rec_55 x1 p10.1 p10.2)))) else (if (dI (sI D 207 55 ((dI D 207 55) - (1 : Int32))) 239 (dI (sI D 207 55 ((dI D 207 55) - (1 : Int32))) 207 55).toNatClampNeg) < 0 ∨ 128 ≤ ((dI (sI D 207 55 ((dI D 207 55) - (1 : Int32))) 239 (dI (sI D 207 55 ((dI D 207 55) - (1 : Int32))) 207 55).toNatClampNeg)).toNatClampNeg then none else (f_X12_walk_b142 N rec_55 x1 (dI (sI D 207 55 ((dI D 207 55) - (1 : Int32))) 224 (dI (sI D 207 55 ((dI D 207 55) - (1 : Int32))) 239 (dI (sI D 207 55 ((dI D 207 55) - (1 : Int32))) 207 55).toNatClampNeg).toNatClampNeg) (sI D 207 55 ((dI D 207 55) - (1 : Int32)))))))) else ((f_X12_fuelled x1 D).bind (fun p13 => if p13.1 = 0 then (rec_55 x1 x2 p13.2) else ((f_X12_step N x2 p13.2).bind (fun p16 => rec_55 x1 p16.1 p16.2))))
set_option maxHeartbeats 4000000 in
theorem w_X12_walk_b81 {X : Cx} {n nu c u : Nat} {K : Nat → Nat} {N : Nat} {rec_55 : Int32 → Int32 → Dat → Option (Int32 × Dat)} {z : Int32 × Dat} (O : Ok X cX12_walk RX12 (some .int) 6 135) (hm : wlm (xw X) = true) (hn : xn X = 3) (hz : Z0 X (Ax nu K c u)) (hrec_55 : ∀ (x1 : Int32) (x2 : Int32) (D : Dat), rec_55 x1 x2 D = some z → V X (Q0 X n (Ax nu K c u) (some (.int z.1)) z.2) n (Ax nu K c u) D 55 [(0, .ref (bo X + 207)), (1, .int x1), (2, .int x2)] []) (x1 : Int32) (x2 : Int32) (D : Dat) (h : f_X12_walk_b81 N rec_55 x1 x2 D = some z) : V X (Q0 X n (Ax nu K c u) (some (.int z.1)) z.2) n (Ax nu K c u) D 81 [(0, .ref (bo X + 207)), (1, .int x1), (2, .int x2)] [] := by
  unfold f_X12_walk_b81 at h
  refine v_iload_n (pc := 81) O dX12_walk_81 2 rfl ?_
  refine v_iflt (pc := 82) 102 O dX12_walk_82 (by decide) (fun c3 => ?_) (fun c3 => ?_)
  · have h := (if_pos c3).symm.trans h
    refine v_aload_n (pc := 102) O dX12_walk_102 0 rfl ?_
    refine v_dup (pc := 103) O dX12_walk_103 rfl ?_
    refine v_getI (pc := 104) (a := 207) O gf_X12_55 fl_X12_351 kq_207 dX12_walk_104 ?_
    refine v_iconst (pc := 107) O dX12_walk_107 ic_1 ?_
    refine v_isub (pc := 108) O dX12_walk_108 ?_
    refine v_putI (pc := 109) (a := 207) O pf_X12_55 fl_X12_351 kq_207 dX12_walk_109 ?_
    refine v_aload_n (pc := 112) O dX12_walk_112 0 rfl ?_
    refine v_getK (pc := 113) (a := 207) O hm gf_X12_58 fl_X12_111 kq_207 lk_207_58 dX12_walk_113 ?_
    refine v_aload_n (pc := 116) O dX12_walk_116 0 rfl ?_
    refine v_getI (pc := 117) (a := 207) O gf_X12_55 fl_X12_351 kq_207 dX12_walk_117 ?_
    obtain ⟨c4, h⟩ := or_none h
    refine v_iald (pc := 120) (a := 239) O kq_239 (inq lq_239 c4) dX12_walk_120 ?_
    refine v_istore_n (pc := 121) (lv' := [(2, .int (dI (sI D 207 55 ((dI D 207 55) - (1 : Int32))) 239 (dI (sI D 207 55 ((dI D 207 55) - (1 : Int32))) 207 55).toNatClampNeg)), (0, .ref (bo X + 207)), (1, .int x1)]) O dX12_walk_121 rfl (by rw [hn]; decide) rfl ?_
    refine v_aload_n (pc := 122) O dX12_walk_122 1 rfl ?_
    refine v_getK (pc := 123) (a := 207) O hm gf_X12_57 fl_X12_108 kq_207 lk_207_57 dX12_walk_123 ?_
    refine v_aload_n (pc := 126) O dX12_walk_126 1 rfl ?_
    refine v_getI (pc := 127) (a := 207) O gf_X12_55 fl_X12_351 kq_207 dX12_walk_127 ?_
    obtain ⟨c5, h⟩ := or_none h
    refine v_iald (pc := 130) (a := 238) O kq_238 (inq lq_238 c5) dX12_walk_130 ?_
    refine v_iconst (pc := 131) O dX12_walk_131 ic_4 ?_
    refine v_icmpeq (pc := 132) 145 O dX12_walk_132 (by decide) (fun c6 => ?_) (fun c6 => ?_)
    · have h := (if_pos c6).symm.trans h
      refine v_aload_n (pc := 145) O dX12_walk_145 1 rfl ?_
      refine v_iload_n (pc := 146) O dX12_walk_146 2 rfl ?_
      obtain ⟨p7, e8, h⟩ := bind_some h
      refine v_callV (pc := 147) (a := 207) (As := [.int x1]) (rest := []) (r := (some (.int p7.1))) (D' := p7.2) O (bb0 hz) (c_X12_fuelled hm e8) mw_X12_fuelled im_X12_fuelled se_X12_fuelled ml_X12_505 kq_207 (by decide) rfl rfl rfl (by decide) (by decide) (Nat.le_of_ble_eq_true rfl) dX12_walk_147 rfl rfl ?_
      refine v_ifeq (pc := 150) 55 O dX12_walk_150 (by decide) (fun c9 => ?_) (fun c9 => ?_)
      · have h := (if_pos c9).symm.trans h
        refine v_sub [1, 2, 0] rfl ?_
        exact hrec_55 x1 (dI (sI D 207 55 ((dI D 207 55) - (1 : Int32))) 239 (dI (sI D 207 55 ((dI D 207 55) - (1 : Int32))) 207 55).toNatClampNeg) p7.2 h
      · have h := (if_neg c9).symm.trans h
        refine v_aload_n (pc := 153) O dX12_walk_153 1 rfl ?_
        refine v_iload_n (pc := 154) O dX12_walk_154 0 rfl ?_
        obtain ⟨p10, e11, h⟩ := bind_some h
        refine v_callV (pc := 155) (a := 207) (As := [.int (dI (sI D 207 55 ((dI D 207 55) - (1 : Int32))) 239 (dI (sI D 207 55 ((dI D 207 55) - (1 : Int32))) 207 55).toNatClampNeg)]) (rest := []) (r := (some (.int p10.1))) (D' := p10.2) O (bb0 hz) (c_X12_round hm e11) mw_X12_round im_X12_round se_X12_round ml_X12_502 kq_207 (by decide) rfl rfl rfl (by decide) (by decide) (Nat.le_of_ble_eq_true rfl) dX12_walk_155 rfl rfl ?_
        refine v_istore_n (pc := 158) (lv' := [(2, .int p10.1), (0, .ref (bo X + 207)), (1, .int x1)]) O dX12_walk_158 rfl (by rw [hn]; decide) rfl ?_
        refine v_goto (pc := 159) 55 O dX12_walk_159 (by decide) ?_
        refine v_sub [1, 2, 0] rfl ?_
        exact hrec_55 x1 p10.1 p10.2 h
    · have h := (if_neg c6).symm.trans h
      refine v_aload_n (pc := 135) O dX12_walk_135 1 rfl ?_
      refine v_getK (pc := 136) (a := 207) O hm gf_X12_28 fl_X12_66 kq_207 lk_207_28 dX12_walk_136 ?_
      refine v_iload_n (pc := 139) O dX12_walk_139 0 rfl ?_
      obtain ⟨c12, h⟩ := or_none h
      refine v_iald (pc := 140) (a := 224) O kq_224 (inq lq_224 c12) dX12_walk_140 ?_
      refine v_istore_n (pc := 141) (lv' := [(2, .int (dI (sI D 207 55 ((dI D 207 55) - (1 : Int32))) 224 (dI (sI D 207 55 ((dI D 207 55) - (1 : Int32))) 239 (dI (sI D 207 55 ((dI D 207 55) - (1 : Int32))) 207 55).toNatClampNeg).toNatClampNeg)), (0, .ref (bo X + 207)), (1, .int x1)]) O dX12_walk_141 rfl (by rw [hn]; decide) rfl ?_
      refine v_sub [1, 2, 0] rfl ?_
      exact w_X12_walk_b142 O hm hn hz hrec_55 x1 (dI (sI D 207 55 ((dI D 207 55) - (1 : Int32))) 224 (dI (sI D 207 55 ((dI D 207 55) - (1 : Int32))) 239 (dI (sI D 207 55 ((dI D 207 55) - (1 : Int32))) 207 55).toNatClampNeg).toNatClampNeg) (sI D 207 55 ((dI D 207 55) - (1 : Int32))) h
  · have h := (if_neg c3).symm.trans h
    refine v_aload_n (pc := 85) O dX12_walk_85 0 rfl ?_
    refine v_iload_n (pc := 86) O dX12_walk_86 1 rfl ?_
    obtain ⟨p13, e14, h⟩ := bind_some h
    refine v_callV (pc := 87) (a := 207) (As := [.int x1]) (rest := []) (r := (some (.int p13.1))) (D' := p13.2) O (bb0 hz) (c_X12_fuelled hm e14) mw_X12_fuelled im_X12_fuelled se_X12_fuelled ml_X12_505 kq_207 (by decide) rfl rfl rfl (by decide) (by decide) (Nat.le_of_ble_eq_true rfl) dX12_walk_87 rfl rfl ?_
    refine v_ifeq (pc := 90) 55 O dX12_walk_90 (by decide) (fun c15 => ?_) (fun c15 => ?_)
    · have h := (if_pos c15).symm.trans h
      refine v_sub [0, 1, 2] rfl ?_
      exact hrec_55 x1 x2 p13.2 h
    · have h := (if_neg c15).symm.trans h
      refine v_aload_n (pc := 93) O dX12_walk_93 0 rfl ?_
      refine v_iload_n (pc := 94) O dX12_walk_94 2 rfl ?_
      obtain ⟨p16, e17, h⟩ := bind_some h
      refine v_callV (pc := 95) (a := 207) (As := [.int x2]) (rest := []) (r := (some (.int p16.1))) (D' := p16.2) O (bb0 hz) (c_X12_step hm e17) mw_X12_step im_X12_step se_X12_step ml_X12_508 kq_207 (by decide) rfl rfl rfl (by decide) (by decide) (Nat.le_of_ble_eq_true rfl) dX12_walk_95 rfl rfl ?_
      refine v_istore_n (pc := 98) (lv' := [(2, .int p16.1), (0, .ref (bo X + 207)), (1, .int x1)]) O dX12_walk_98 rfl (by rw [hn]; decide) rfl ?_
      refine v_goto (pc := 99) 55 O dX12_walk_99 (by decide) ?_
      refine v_sub [1, 2, 0] rfl ?_
      exact hrec_55 x1 p16.1 p16.2 h
def f_X12_walk_b55 (N : Nat) : Nat → Int32 → Int32 → Dat → Option (Int32 × Dat)
  | 0, _, _, _ => none
  | g + 1, x1, x2, D => if 0 ≤ (dI D 207 84) then (some ((dI D 207 84), D)) else (if 0 ≤ x2 then (f_X12_walk_b81 N (f_X12_walk_b55 N g) x1 x2 D) else (if (dI D 207 55) = 0 then ((f_X12_walk_b55 N g) x1 x2 (sI D 207 84 0)) else (f_X12_walk_b81 N (f_X12_walk_b55 N g) x1 x2 D)))
set_option maxHeartbeats 4000000 in
theorem w_X12_walk_b55 {X : Cx} {n nu c u : Nat} {K : Nat → Nat} {N : Nat} {z : Int32 × Dat} (O : Ok X cX12_walk RX12 (some .int) 6 135) (hm : wlm (xw X) = true) (hn : xn X = 3) (hz : Z0 X (Ax nu K c u)) : ∀ (g : Nat) (x1 : Int32) (x2 : Int32) (D : Dat), f_X12_walk_b55 N g x1 x2 D = some z → V X (Q0 X n (Ax nu K c u) (some (.int z.1)) z.2) n (Ax nu K c u) D 55 [(0, .ref (bo X + 207)), (1, .int x1), (2, .int x2)] [] := by
  intro g
  induction g with
  | zero => intro x1 x2 D h; exact absurd h (by simp [f_X12_walk_b55])
  | succ g ih =>
    intro x1 x2 D h
    rw [f_X12_walk_b55] at h
    refine v_aload_n (pc := 55) O dX12_walk_55 0 rfl ?_
    refine v_getI (pc := 56) (a := 207) O gf_X12_84 fl_X12_475 kq_207 dX12_walk_56 ?_
    refine v_ifge (pc := 59) 162 O dX12_walk_59 (by decide) (fun c18 => ?_) (fun c18 => ?_)
    · have h := (if_pos c18).symm.trans h
      refine v_aload_n (pc := 162) O dX12_walk_162 0 rfl ?_
      refine v_getI (pc := 163) (a := 207) O gf_X12_84 fl_X12_475 kq_207 dX12_walk_163 ?_
      obtain rfl := Option.some.inj h
      exact v_iret (pc := 166) O hz dX12_walk_166
    · have h := (if_neg c18).symm.trans h
      refine v_iload_n (pc := 62) O dX12_walk_62 2 rfl ?_
      refine v_ifge (pc := 63) 81 O dX12_walk_63 (by decide) (fun c19 => ?_) (fun c19 => ?_)
      · have h := (if_pos c19).symm.trans h
        refine v_sub [0, 1, 2] rfl ?_
        exact w_X12_walk_b81 O hm hn hz ih x1 x2 D h
      · have h := (if_neg c19).symm.trans h
        refine v_aload_n (pc := 66) O dX12_walk_66 0 rfl ?_
        refine v_getI (pc := 67) (a := 207) O gf_X12_55 fl_X12_351 kq_207 dX12_walk_67 ?_
        refine v_ifne (pc := 70) 81 O dX12_walk_70 (by decide) (fun c20 => ?_) (fun c20 => ?_)
        · have h := (if_neg c20).symm.trans h
          refine v_sub [0, 1, 2] rfl ?_
          exact w_X12_walk_b81 O hm hn hz ih x1 x2 D h
        · have h := (if_pos c20).symm.trans h
          refine v_aload_n (pc := 73) O dX12_walk_73 0 rfl ?_
          refine v_iconst (pc := 74) O dX12_walk_74 ic_0 ?_
          refine v_putI (pc := 75) (a := 207) O pf_X12_84 fl_X12_475 kq_207 dX12_walk_75 ?_
          refine v_goto (pc := 78) 55 O dX12_walk_78 (by decide) ?_
          refine v_sub [0, 1, 2] rfl ?_
          exact ih x1 x2 (sI D 207 84 0) h
def f_X12_walk (N : Nat) (x1 : Int32) (D : Dat) : Option (Int32 × Dat) :=
  if x1 < 1 then (f_X12_walk_b17 N (sI D 207 0 0)) else (if x1 ≤ 600 then (if (dI (sI D 207 0 0) 207 18) = 0 then ((f_X12_fail 2 (sI D 207 0 0)).bind (fun p27 => some (p27.1, p27.2))) else ((f_X12_begin N (sI D 207 0 0)).bind (fun p24 => if (dI (sI p24 207 55 0) 207 19) < 0 ∨ 2 ≤ ((dI (sI p24 207 55 0) 207 19)).toNatClampNeg then none else (f_X12_walk_b55 N N x1 (dI (sI p24 207 55 0) 228 (dI (sI p24 207 55 0) 207 19).toNatClampNeg) (sI p24 207 55 0))))) else (f_X12_walk_b17 N (sI D 207 0 0)))
set_option maxHeartbeats 4000000 in
theorem w_X12_walk {X : Cx} {n nu c u : Nat} {K : Nat → Nat} {N : Nat} {z : Int32 × Dat} (O : Ok X cX12_walk RX12 (some .int) 6 135) (hm : wlm (xw X) = true) (hn : xn X = 3) (hz : Z0 X (Ax nu K c u)) (x1 : Int32) (D : Dat) (h : f_X12_walk N x1 D = some z) : V X (Q0 X n (Ax nu K c u) (some (.int z.1)) z.2) n (Ax nu K c u) D 0 [(0, .ref (bo X + 207)), (1, .int x1)] [] := by
  unfold f_X12_walk at h
  refine v_aload_n (pc := 0) O dX12_walk_0 0 rfl ?_
  refine v_iconst (pc := 1) O dX12_walk_1 ic_0 ?_
  refine v_putI (pc := 2) (a := 207) O pf_X12_0 fl_X12_183 kq_207 dX12_walk_2 ?_
  refine v_iload_n (pc := 5) O dX12_walk_5 1 rfl ?_
  refine v_iconst (pc := 6) O dX12_walk_6 ic_1 ?_
  refine v_icmplt (pc := 7) 17 O dX12_walk_7 (by decide) (fun c21 => ?_) (fun c21 => ?_)
  · have h := (if_pos c21).symm.trans h
    refine v_sub [0] rfl ?_
    exact w_X12_walk_b17 O hm hn hz (sI D 207 0 0) h
  · have h := (if_neg c21).symm.trans h
    refine v_iload_n (pc := 10) O dX12_walk_10 1 rfl ?_
    refine v_sipush (pc := 11) O dX12_walk_11 sp_600 ?_
    refine v_icmple (pc := 14) 23 O dX12_walk_14 (by decide) (fun c22 => ?_) (fun c22 => ?_)
    · have h := (if_pos c22).symm.trans h
      refine v_aload_n (pc := 23) O dX12_walk_23 0 rfl ?_
      refine v_getI (pc := 24) (a := 207) O gf_X12_18 fl_X12_332 kq_207 dX12_walk_24 ?_
      refine v_ifne (pc := 27) 36 O dX12_walk_27 (by decide) (fun c23 => ?_) (fun c23 => ?_)
      · have h := (if_neg c23).symm.trans h
        refine v_aload_n (pc := 36) O dX12_walk_36 0 rfl ?_
        obtain ⟨p24, e25, h⟩ := bind_some h
        refine v_callV (pc := 37) (a := 207) (As := []) (rest := []) (r := none) (D' := p24) O (bb0 hz) (c_X12_begin hm e25) mw_X12_begin im_X12_begin se_X12_begin ml_X12_493 kq_207 (by decide) rfl rfl rfl (by decide) (by decide) (Nat.le_of_ble_eq_true rfl) dX12_walk_37 rfl rfl ?_
        refine v_aload_n (pc := 40) O dX12_walk_40 0 rfl ?_
        refine v_iconst (pc := 41) O dX12_walk_41 ic_0 ?_
        refine v_putI (pc := 42) (a := 207) O pf_X12_55 fl_X12_351 kq_207 dX12_walk_42 ?_
        refine v_aload_n (pc := 45) O dX12_walk_45 0 rfl ?_
        refine v_getK (pc := 46) (a := 207) O hm gf_X12_32 fl_X12_78 kq_207 lk_207_32 dX12_walk_46 ?_
        refine v_aload_n (pc := 49) O dX12_walk_49 0 rfl ?_
        refine v_getI (pc := 50) (a := 207) O gf_X12_19 fl_X12_335 kq_207 dX12_walk_50 ?_
        obtain ⟨c26, h⟩ := or_none h
        refine v_iald (pc := 53) (a := 228) O kq_228 (inq lq_228 c26) dX12_walk_53 ?_
        refine v_istore_n (pc := 54) (lv' := [(2, .int (dI (sI p24 207 55 0) 228 (dI (sI p24 207 55 0) 207 19).toNatClampNeg)), (0, .ref (bo X + 207)), (1, .int x1)]) O dX12_walk_54 rfl (by rw [hn]; decide) rfl ?_
        refine v_sub [1, 2, 0] rfl ?_
        exact w_X12_walk_b55 O hm hn hz N x1 (dI (sI p24 207 55 0) 228 (dI (sI p24 207 55 0) 207 19).toNatClampNeg) (sI p24 207 55 0) h
      · have h := (if_pos c23).symm.trans h
        refine v_aload_n (pc := 30) O dX12_walk_30 0 rfl ?_
        refine v_iconst (pc := 31) O dX12_walk_31 ic_2 ?_
        obtain ⟨p27, e28, h⟩ := bind_some h
        refine v_callV (pc := 32) (a := 207) (As := [.int 2]) (rest := []) (r := (some (.int p27.1))) (D' := p27.2) O (bb0 hz) (c_X12_fail hm e28) mw_X12_fail im_X12_fail se_X12_fail ml_X12_190 kq_207 (by decide) rfl rfl rfl (by decide) (by decide) (Nat.le_of_ble_eq_true rfl) dX12_walk_32 rfl rfl ?_
        obtain rfl := Option.some.inj h
        exact v_iret (pc := 35) O hz dX12_walk_35
    · have h := (if_neg c22).symm.trans h
      refine v_sub [0] rfl ?_
      exact w_X12_walk_b17 O hm hn hz (sI D 207 0 0) h
theorem c_X12_walk {l : Launch} {w : Wx} {n nu c u : Nat} {K : Nat → Nat} {N : Nat} (hm : wlm w = true) {x1 : Int32} {D : Dat} {z : Int32 × Dat} (h : f_X12_walk N x1 D = some z) : C0 l w yX12_walk cX12_walk 3 (some .int) 6 135 [.ref (wb w + 207), .int x1] n (Ax nu K c u) D (some (.int z.1)) z.2 :=
  C0.of (by decide) (Nat.le_of_ble_eq_true rfl) (fun X e1 e2 e3 hz O => by
  subst e1
  subst e2
  exact w_X12_walk O hm e3 hz x1 D h)
