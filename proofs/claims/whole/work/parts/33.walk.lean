theorem fl_X6_22 : Cond.fieldLink RX6 22 RX6 (TX6 3).2.1 (TX6 3).2.2.1 ∈ tb := tb_of 333 (by decide +kernel) (by decide +kernel)
theorem gf_X6_3 : FI 6 RX6 TX6 6 tyX6 3 3 := ⟨rfl, inb_X6, tyX6_ok, nmX6, by decide, by decide, rfl, rfl, rfl⟩
theorem lk_108_3 : lks 108 3 = some 112 := by decide +kernel
theorem kq_112 {nu c u : Nat} {K : Nat → Nat} : (Ax nu K c u).1 112 = 15 := kd_lt (K := K) (a := 112) (by decide) rfl
theorem lq_112 {nu c u : Nat} {K : Nat → Nat} : (Ax nu K c u).2.1 112 = 64 := rfl
theorem fl_X6_44 : Cond.fieldLink RX6 44 RX6 (TX6 5).2.1 (TX6 5).2.2.1 ∈ tb := tb_of 335 (by decide +kernel) (by decide +kernel)
theorem gf_X6_5 : FI 6 RX6 TX6 6 tyX6 5 1 := ⟨rfl, inb_X6, tyX6_ok, nmX6, by decide, by decide, rfl, rfl, rfl⟩
theorem pf_X6_5 : PI 6 RX6 TX6 6 tyX6 5 1 .long := ⟨gf_X6_5, rfl, rfl⟩
theorem fl_X6_15 : Cond.fieldLink RX6 15 RX6 (TX6 1).2.1 (TX6 1).2.2.1 ∈ tb := tb_of 331 (by decide +kernel) (by decide +kernel)
theorem gf_X6_1 : FI 6 RX6 TX6 6 tyX6 1 3 := ⟨rfl, inb_X6, tyX6_ok, nmX6, by decide, by decide, rfl, rfl, rfl⟩
theorem lk_108_1 : lks 108 1 = some 110 := by decide +kernel
theorem kq_110 {nu c u : Nat} {K : Nat → Nat} : (Ax nu K c u).1 110 = 15 := kd_lt (K := K) (a := 110) (by decide) rfl
theorem lq_110 {nu c u : Nat} {K : Nat → Nat} : (Ax nu K c u).2.1 110 = 64 := rfl
theorem cl_X6_58 : Cond.constantLong RX6 58 (-1) ∈ tb := tb_of 1381 (by decide +kernel) (by decide +kernel)
theorem fl_X6_9 : Cond.fieldLink RX6 9 RX6 (TX6 0).2.1 (TX6 0).2.2.1 ∈ tb := tb_of 330 (by decide +kernel) (by decide +kernel)
theorem gf_X6_0 : FI 6 RX6 TX6 6 tyX6 0 3 := ⟨rfl, inb_X6, tyX6_ok, nmX6, by decide, by decide, rfl, rfl, rfl⟩
theorem lk_108_0 : lks 108 0 = some 109 := by decide +kernel
theorem kq_109 {nu c u : Nat} {K : Nat → Nat} : (Ax nu K c u).1 109 = 15 := kd_lt (K := K) (a := 109) (by decide) rfl
theorem lq_109 {nu c u : Nat} {K : Nat → Nat} : (Ax nu K c u).2.1 109 = 64 := rfl
theorem nl_X6_29 : (RX6, 29, yX11_holds) ∈ nestl := by decide +kernel
theorem cw_X11_holds : Cond.code yX11_holds cX11_holds 3 (some .boolean) ∈ tb := tb_of 1388 (by decide +kernel) (by decide +kernel)
theorem mw_X11_holds : MW yX11_holds cX11_holds 3 (some .boolean) 2 := ⟨cw_X11_holds, ini_X11, by decide +kernel⟩
theorem sm_X11_holds : Cond.static yX11_holds ∈ tb := tb_of 1387 (by decide +kernel) (by decide +kernel)
theorem nl_X6_55 : (RX6, 55, yX11_bit) ∈ nestl := by decide +kernel
theorem nl_X6_76 : (RX6, 76, yX11_least) ∈ nestl := by decide +kernel
theorem cw_X11_least : Cond.code yX11_least cX11_least 2 (some .int) ∈ tb := tb_of 1338 (by decide +kernel) (by decide +kernel)
theorem mw_X11_least : MW yX11_least cX11_least 2 (some .int) 1 := ⟨cw_X11_least, ini_X11, by decide +kernel⟩
theorem sm_X11_least : Cond.static yX11_least ∈ tb := tb_of 1337 (by decide +kernel) (by decide +kernel)
theorem cw_X6_sureBehind : Cond.code yX6_sureBehind cX6_sureBehind 7 (some .long) ∈ tb := tb_of 1396 (by decide +kernel) (by decide +kernel)
theorem mw_X6_sureBehind : MW yX6_sureBehind cX6_sureBehind 7 (some .long) 1 := ⟨cw_X6_sureBehind, ini_X6, by decide +kernel⟩
theorem im_X6_sureBehind : Cond.instanceMethod yX6_sureBehind ∈ tb := tb_of 1395 (by decide +kernel) (by decide +kernel)
theorem se_X6_sureBehind : Cond.selects (yX6_sureBehind).cls yX6_sureBehind yX6_sureBehind ∈ tb := tb_of 57 (by decide +kernel) (by decide +kernel)
theorem ml_X6_73 : Cond.methodLink RX6 73 yX6_sureBehind ∈ tb := tb_of 1393 (by decide +kernel) (by decide +kernel)
theorem nl_X9_58 : (RX9, 58, yX11_holds) ∈ nestl := by decide +kernel
theorem cw_X6_isInside : Cond.code yX6_isInside cX6_isInside 3 (some .boolean) ∈ tb := tb_of 1440 (by decide +kernel) (by decide +kernel)
theorem mw_X6_isInside : MW yX6_isInside cX6_isInside 3 (some .boolean) 2 := ⟨cw_X6_isInside, ini_X6, by decide +kernel⟩
theorem im_X6_isInside : Cond.instanceMethod yX6_isInside ∈ tb := tb_of 1438 (by decide +kernel) (by decide +kernel)
theorem se_X6_isInside : Cond.selects (yX6_isInside).cls yX6_isInside yX6_isInside ∈ tb := tb_of 1439 (by decide +kernel) (by decide +kernel)
theorem ml_X9_66 : Cond.methodLink RX9 66 yX6_isInside ∈ tb := tb_of 1437 (by decide +kernel) (by decide +kernel)
theorem cw_X9_hasHeight : Cond.code yX9_hasHeight cX9_hasHeight 2 (some .boolean) ∈ tb := tb_of 1452 (by decide +kernel) (by decide +kernel)
theorem mw_X9_hasHeight : MW yX9_hasHeight cX9_hasHeight 2 (some .boolean) 1 := ⟨cw_X9_hasHeight, ini_X9, by decide +kernel⟩
theorem im_X9_hasHeight : Cond.instanceMethod yX9_hasHeight ∈ tb := tb_of 1450 (by decide +kernel) (by decide +kernel)
theorem se_X9_hasHeight : Cond.selects (yX9_hasHeight).cls yX9_hasHeight yX9_hasHeight ∈ tb := tb_of 1451 (by decide +kernel) (by decide +kernel)
theorem ml_X9_70 : Cond.methodLink RX9 70 yX9_hasHeight ∈ tb := tb_of 1449 (by decide +kernel) (by decide +kernel)
theorem cw_X2_labelOf : Cond.code yX2_labelOf cX2_labelOf 3 (some .int) ∈ tb := tb_of 1490 (by decide +kernel) (by decide +kernel)
theorem mw_X2_labelOf : MW yX2_labelOf cX2_labelOf 3 (some .int) 1 := ⟨cw_X2_labelOf, ini_X2, by decide +kernel⟩
theorem im_X2_labelOf : Cond.instanceMethod yX2_labelOf ∈ tb := tb_of 1488 (by decide +kernel) (by decide +kernel)
theorem se_X2_labelOf : Cond.selects (yX2_labelOf).cls yX2_labelOf yX2_labelOf ∈ tb := tb_of 1489 (by decide +kernel) (by decide +kernel)
theorem ml_X9_78 : Cond.methodLink RX9 78 yX2_labelOf ∈ tb := tb_of 1487 (by decide +kernel) (by decide +kernel)
theorem cw_X9_argumentFits : Cond.code yX9_argumentFits cX9_argumentFits 3 (some .boolean) ∈ tb := tb_of 1316 (by decide +kernel) (by decide +kernel)
theorem mw_X9_argumentFits : MW yX9_argumentFits cX9_argumentFits 3 (some .boolean) 2 := ⟨cw_X9_argumentFits, ini_X9, by decide +kernel⟩
theorem im_X9_argumentFits : Cond.instanceMethod yX9_argumentFits ∈ tb := tb_of 1315 (by decide +kernel) (by decide +kernel)
theorem se_X9_argumentFits : Cond.selects (yX9_argumentFits).cls yX9_argumentFits yX9_argumentFits ∈ tb := tb_of 50 (by decide +kernel) (by decide +kernel)
theorem ml_X9_122 : Cond.methodLink RX9 122 yX9_argumentFits ∈ tb := tb_of 1313 (by decide +kernel) (by decide +kernel)
def f_X6_isInside_b30 (s0 : Int32) (D : Dat) : Option (Int32 × Dat) :=
  if s0 &&& 1 = s0 then some (s0, D) else none
set_option maxHeartbeats 4000000 in
theorem w_X6_isInside_b30 {X : Cx} {n nu c u : Nat} {K : Nat → Nat} {z : Int32 × Dat} (O : Ok X cX6_isInside RX6 (some .boolean) 1 22) (hm : wlm (xw X) = true) (hn : xn X = 3) (hz : Z0 X (Ax nu K c u)) (s0 : Int32) (D : Dat) (h : f_X6_isInside_b30 s0 D = some z) : V X (Q0 X n (Ax nu K c u) (some (.int z.1)) z.2) n (Ax nu K c u) D 30 [] [.int s0] := by
  unfold f_X6_isInside_b30 at h
  obtain ⟨c1, h⟩ := if_none h
  obtain rfl := Option.some.inj h
  exact v_zret (pc := 30) O hz (congrArg Value.int c1) dX6_isInside_30
def f_X6_isInside_b29 (D : Dat) : Option (Int32 × Dat) :=
  f_X6_isInside_b30 0 D
set_option maxHeartbeats 4000000 in
theorem w_X6_isInside_b29 {X : Cx} {n nu c u : Nat} {K : Nat → Nat} {z : Int32 × Dat} (O : Ok X cX6_isInside RX6 (some .boolean) 1 22) (hm : wlm (xw X) = true) (hn : xn X = 3) (hz : Z0 X (Ax nu K c u)) (D : Dat) (h : f_X6_isInside_b29 D = some z) : V X (Q0 X n (Ax nu K c u) (some (.int z.1)) z.2) n (Ax nu K c u) D 29 [] [] := by
  unfold f_X6_isInside_b29 at h
  refine v_iconst (pc := 29) O dX6_isInside_29 ic_0 ?_
  refine v_sub [] rfl ?_
  exact w_X6_isInside_b30 O hm hn hz 0 D h
def f_X6_isInside (x1 : Int32) (x2 : Int32) (D : Dat) : Option (Int32 × Dat) :=
  if x1 < 0 then (f_X6_isInside_b29 D) else (if (dI D 108 4) ≤ x1 then (f_X6_isInside_b29 D) else (if x1 < 0 ∨ 64 ≤ (x1).toNatClampNeg then none else ((f_X11_holds (dL D 112 (x1).toNatClampNeg) x2 D).bind (fun p5 => if p5.1 = 0 then (f_X6_isInside_b29 p5.2) else (f_X6_isInside_b30 1 p5.2)))))
set_option maxHeartbeats 4000000 in
theorem w_X6_isInside {X : Cx} {n nu c u : Nat} {K : Nat → Nat} {z : Int32 × Dat} (O : Ok X cX6_isInside RX6 (some .boolean) 1 22) (hm : wlm (xw X) = true) (hn : xn X = 3) (hz : Z0 X (Ax nu K c u)) (x1 : Int32) (x2 : Int32) (D : Dat) (h : f_X6_isInside x1 x2 D = some z) : V X (Q0 X n (Ax nu K c u) (some (.int z.1)) z.2) n (Ax nu K c u) D 0 [(0, .ref (bo X + pp 108)), (1, .int x1), (2, .int x2)] [] := by
  unfold f_X6_isInside at h
  refine v_iload_n (pc := 0) O dX6_isInside_0 1 rfl ?_
  refine v_iflt (pc := 1) 29 O dX6_isInside_1 (by decide) (fun c2 => ?_) (fun c2 => ?_)
  · have h := (if_pos c2).symm.trans h
    refine v_sub [] rfl ?_
    exact w_X6_isInside_b29 O hm hn hz D h
  · have h := (if_neg c2).symm.trans h
    refine v_iload_n (pc := 4) O dX6_isInside_4 1 rfl ?_
    refine v_aload_n (pc := 5) O dX6_isInside_5 0 rfl ?_
    refine v_getI (pc := 6) (a := 108) O gf_X6_4 fl_X6_25 kq_108 dX6_isInside_6 ?_
    refine v_icmpge (pc := 9) 29 O dX6_isInside_9 (by decide) (fun c3 => ?_) (fun c3 => ?_)
    · have h := (if_pos c3).symm.trans h
      refine v_sub [] rfl ?_
      exact w_X6_isInside_b29 O hm hn hz D h
    · have h := (if_neg c3).symm.trans h
      refine v_aload_n (pc := 12) O dX6_isInside_12 0 rfl ?_
      refine v_getK (pc := 13) (a := 108) O hm gf_X6_3 fl_X6_22 kq_108 lk_108_3 dX6_isInside_13 ?_
      refine v_iload_n (pc := 16) O dX6_isInside_16 1 rfl ?_
      obtain ⟨c4, h⟩ := or_none h
      refine v_lald (pc := 17) (a := 112) O kq_112 (inq lq_112 c4) dX6_isInside_17 ?_
      refine v_iload_n (pc := 18) O dX6_isInside_18 2 rfl ?_
      obtain ⟨p5, e6, h⟩ := bind_some h
      refine v_callN (pc := 19) (As := [.long (dL D 112 (x1).toNatClampNeg), .int x2]) (rest := []) (r := (some (.int p5.1))) (D' := p5.2) O (bb0 hz) (c_X11_holds hm e6) mw_X11_holds sm_X11_holds nl_X6_29 rfl (by decide) (by decide) (Nat.le_of_ble_eq_true rfl) dX6_isInside_19 rfl rfl ?_
      refine v_ifeq (pc := 22) 29 O dX6_isInside_22 (by decide) (fun c7 => ?_) (fun c7 => ?_)
      · have h := (if_pos c7).symm.trans h
        refine v_sub [] rfl ?_
        exact w_X6_isInside_b29 O hm hn hz p5.2 h
      · have h := (if_neg c7).symm.trans h
        refine v_iconst (pc := 25) O dX6_isInside_25 ic_1 ?_
        refine v_goto (pc := 26) 30 O dX6_isInside_26 (by decide) ?_
        refine v_sub [] rfl ?_
        exact w_X6_isInside_b30 O hm hn hz 1 p5.2 h
theorem c_X6_isInside {l : Launch} {w : Wx} {n nu c u : Nat} {K : Nat → Nat} (hm : wlm w = true) {x1 : Int32} {x2 : Int32} {D : Dat} {z : Int32 × Dat} (h : f_X6_isInside x1 x2 D = some z) : C0 l w yX6_isInside cX6_isInside 3 (some .boolean) 1 22 [.ref (wb w + pp 108), .int x1, .int x2] n (Ax nu K c u) D (some (.int z.1)) z.2 :=
  C0.of (by decide) (Nat.le_of_ble_eq_true rfl) (fun X e1 e2 e3 hz O => by
  subst e1
  subst e2
  exact w_X6_isInside O hm e3 hz x1 x2 D h)
def f_X6_findEnding_b71 (N : Nat) (rec_4 : Int32 → Int32 → Dat → Option (Dat)) (rec_25 : Int32 → Int32 → Int32 → Dat → Option (Dat)) (x1 : Int32) (x2 : Int32) (x3 : Int32) (D : Dat) : Option (Dat) :=
  rec_25 x1 x2 (x3 + (-1)) D
set_option maxHeartbeats 4000000 in
theorem w_X6_findEnding_b71 {X : Cx} {n nu c u : Nat} {K : Nat → Nat} {N : Nat} {rec_4 : Int32 → Int32 → Dat → Option (Dat)} {rec_25 : Int32 → Int32 → Int32 → Dat → Option (Dat)} {z : Dat} (O : Ok X cX6_findEnding RX6 none 1 22) (hm : wlm (xw X) = true) (hn : xn X = 4) (hz : Z0 X (Ax nu K c u)) (hrec_4 : ∀ (x1 : Int32) (x2 : Int32) (D : Dat), rec_4 x1 x2 D = some z → V X (Q0 X n (Ax nu K c u) none z) n (Ax nu K c u) D 4 [(0, .ref (bo X + pp 108)), (1, .int x1), (2, .int x2)] []) (hrec_25 : ∀ (x1 : Int32) (x2 : Int32) (x3 : Int32) (D : Dat), rec_25 x1 x2 x3 D = some z → V X (Q0 X n (Ax nu K c u) none z) n (Ax nu K c u) D 25 [(0, .ref (bo X + pp 108)), (1, .int x1), (2, .int x2), (3, .int x3)] []) (x1 : Int32) (x2 : Int32) (x3 : Int32) (D : Dat) (h : f_X6_findEnding_b71 N rec_4 rec_25 x1 x2 x3 D = some z) : V X (Q0 X n (Ax nu K c u) none z) n (Ax nu K c u) D 71 [(0, .ref (bo X + pp 108)), (1, .int x1), (2, .int x2), (3, .int x3)] [] := by
  unfold f_X6_findEnding_b71 at h
  refine v_iinc (pc := 71) (lv' := [(3, .int (x3 + (-1))), (0, .ref (bo X + pp 108)), (1, .int x1), (2, .int x2)]) O dX6_findEnding_71 3 rfl (congrArg (fun q => x3 + q) ic_m1) (by rw [hn]; decide) rfl ?_
  refine v_goto (pc := 74) 25 O dX6_findEnding_74 (by decide) ?_
  refine v_sub [1, 2, 3, 0] rfl ?_
  exact hrec_25 x1 x2 (x3 + (-1)) D h
def f_X6_findEnding_b25 (N : Nat) (rec_4 : Int32 → Int32 → Dat → Option (Dat)) : Nat → Int32 → Int32 → Int32 → Dat → Option (Dat)
  | 0, _, _, _, _ => none
  | g + 1, x1, x2, x3, D => if x3 < 0 then (rec_4 x1 (x2 + 1) D) else ((f_X11_holds (dL D 108 5) x3 D).bind (fun p2 => if p2.1 = 0 then (if x3 < 0 ∨ 64 ≤ (x3).toNatClampNeg then none else (if (lg_cmp ((dL p2.2 109 (x3).toNatClampNeg) &&& (dL p2.2 108 5)) (0 : Int64)) = 0 then (f_X6_findEnding_b71 N rec_4 (f_X6_findEnding_b25 N rec_4 g) x1 x2 x3 p2.2) else ((f_X11_bit x3 p2.2).bind (fun p7 => f_X6_findEnding_b71 N rec_4 (f_X6_findEnding_b25 N rec_4 g) 1 x2 x3 (sL p7.2 108 5 ((dL p2.2 108 5) ||| p7.1)))))) else (f_X6_findEnding_b71 N rec_4 (f_X6_findEnding_b25 N rec_4 g) x1 x2 x3 p2.2)))
set_option maxHeartbeats 4000000 in
theorem w_X6_findEnding_b25 {X : Cx} {n nu c u : Nat} {K : Nat → Nat} {N : Nat} {rec_4 : Int32 → Int32 → Dat → Option (Dat)} {z : Dat} (O : Ok X cX6_findEnding RX6 none 1 22) (hm : wlm (xw X) = true) (hn : xn X = 4) (hz : Z0 X (Ax nu K c u)) (hrec_4 : ∀ (x1 : Int32) (x2 : Int32) (D : Dat), rec_4 x1 x2 D = some z → V X (Q0 X n (Ax nu K c u) none z) n (Ax nu K c u) D 4 [(0, .ref (bo X + pp 108)), (1, .int x1), (2, .int x2)] []) : ∀ (g : Nat) (x1 : Int32) (x2 : Int32) (x3 : Int32) (D : Dat), f_X6_findEnding_b25 N rec_4 g x1 x2 x3 D = some z → V X (Q0 X n (Ax nu K c u) none z) n (Ax nu K c u) D 25 [(0, .ref (bo X + pp 108)), (1, .int x1), (2, .int x2), (3, .int x3)] [] := by
  intro g
  induction g with
  | zero => intro x1 x2 x3 D h; exact absurd h (by simp [f_X6_findEnding_b25])
  | succ g ih =>
    intro x1 x2 x3 D h
    rw [f_X6_findEnding_b25] at h
    refine v_iload_n (pc := 25) O dX6_findEnding_25 3 rfl ?_
    refine v_iflt (pc := 26) 77 O dX6_findEnding_26 (by decide) (fun c1 => ?_) (fun c1 => ?_)
    · have h := (if_pos c1).symm.trans h
      refine v_iinc (pc := 77) (lv' := [(2, .int (x2 + 1)), (0, .ref (bo X + pp 108)), (1, .int x1), (3, .int x3)]) O dX6_findEnding_77 2 rfl (congrArg (fun q => x2 + q) ic_1) (by rw [hn]; decide) rfl ?_
      refine v_goto (pc := 80) 4 O dX6_findEnding_80 (by decide) ?_
      refine v_sub [1, 2, 0] rfl ?_
      exact hrec_4 x1 (x2 + 1) D h
    · have h := (if_neg c1).symm.trans h
      refine v_aload_n (pc := 29) O dX6_findEnding_29 0 rfl ?_
      refine v_getL (pc := 30) (a := 108) O gf_X6_5 fl_X6_44 kq_108 dX6_findEnding_30 ?_
      refine v_iload_n (pc := 33) O dX6_findEnding_33 3 rfl ?_
      obtain ⟨p2, e3, h⟩ := bind_some h
      refine v_callN (pc := 34) (As := [.long (dL D 108 5), .int x3]) (rest := []) (r := (some (.int p2.1))) (D' := p2.2) O (bb0 hz) (c_X11_holds hm e3) mw_X11_holds sm_X11_holds nl_X6_29 rfl (by decide) (by decide) (Nat.le_of_ble_eq_true rfl) dX6_findEnding_34 rfl rfl ?_
      refine v_ifne (pc := 37) 71 O dX6_findEnding_37 (by decide) (fun c4 => ?_) (fun c4 => ?_)
      · have h := (if_neg c4).symm.trans h
        refine v_sub [0, 1, 2, 3] rfl ?_
        exact w_X6_findEnding_b71 O hm hn hz hrec_4 ih x1 x2 x3 p2.2 h
      · have h := (if_pos c4).symm.trans h
        refine v_aload_n (pc := 40) O dX6_findEnding_40 0 rfl ?_
        refine v_getK (pc := 41) (a := 108) O hm gf_X6_0 fl_X6_9 kq_108 lk_108_0 dX6_findEnding_41 ?_
        refine v_iload_n (pc := 44) O dX6_findEnding_44 3 rfl ?_
        obtain ⟨c5, h⟩ := or_none h
        refine v_lald (pc := 45) (a := 109) O kq_109 (inq lq_109 c5) dX6_findEnding_45 ?_
        refine v_aload_n (pc := 46) O dX6_findEnding_46 0 rfl ?_
        refine v_getL (pc := 47) (a := 108) O gf_X6_5 fl_X6_44 kq_108 dX6_findEnding_47 ?_
        refine v_land (pc := 50) O dX6_findEnding_50 ?_
        refine v_lconst (pc := 51) (v := 0) O dX6_findEnding_51 rfl ?_
        refine v_lcmp (pc := 52) O dX6_findEnding_52 ?_
        refine v_ifeq (pc := 53) 71 O dX6_findEnding_53 (by decide) (fun c6 => ?_) (fun c6 => ?_)
        · have h := (if_pos c6).symm.trans h
          refine v_sub [0, 1, 2, 3] rfl ?_
          exact w_X6_findEnding_b71 O hm hn hz hrec_4 ih x1 x2 x3 p2.2 h
        · have h := (if_neg c6).symm.trans h
          refine v_aload_n (pc := 56) O dX6_findEnding_56 0 rfl ?_
          refine v_dup (pc := 57) O dX6_findEnding_57 rfl ?_
          refine v_getL (pc := 58) (a := 108) O gf_X6_5 fl_X6_44 kq_108 dX6_findEnding_58 ?_
          refine v_iload_n (pc := 61) O dX6_findEnding_61 3 rfl ?_
          obtain ⟨p7, e8, h⟩ := bind_some h
          refine v_callN (pc := 62) (As := [.int x3]) (rest := [.long (dL p2.2 108 5), .ref (bo X + pp 108)]) (r := (some (.long p7.1))) (D' := p7.2) O (bb0 hz) (c_X11_bit hm e8) mw_X11_bit sm_X11_bit nl_X6_55 rfl (by decide) (by decide) (Nat.le_of_ble_eq_true rfl) dX6_findEnding_62 rfl rfl ?_
          refine v_lor (pc := 65) O dX6_findEnding_65 ?_
          refine v_putL (pc := 66) (a := 108) O pf_X6_5 fl_X6_44 kq_108 dX6_findEnding_66 ?_
          refine v_iconst (pc := 69) O dX6_findEnding_69 ic_1 ?_
          refine v_istore_n (pc := 70) (lv' := [(1, .int 1), (0, .ref (bo X + pp 108)), (2, .int x2), (3, .int x3)]) O dX6_findEnding_70 rfl (by rw [hn]; decide) rfl ?_
          refine v_sub [1, 0, 2, 3] rfl ?_
          exact w_X6_findEnding_b71 O hm hn hz hrec_4 ih 1 x2 x3 (sL p7.2 108 5 ((dL p2.2 108 5) ||| p7.1)) h
def f_X6_findEnding_b83 (N : Nat) (D : Dat) : Option (Dat) :=
  some D
set_option maxHeartbeats 4000000 in
theorem w_X6_findEnding_b83 {X : Cx} {n nu c u : Nat} {K : Nat → Nat} {N : Nat} {z : Dat} (O : Ok X cX6_findEnding RX6 none 1 22) (hm : wlm (xw X) = true) (hn : xn X = 4) (hz : Z0 X (Ax nu K c u)) (D : Dat) (h : f_X6_findEnding_b83 N D = some z) : V X (Q0 X n (Ax nu K c u) none z) n (Ax nu K c u) D 83 [] [] := by
  unfold f_X6_findEnding_b83 at h
  obtain rfl := Option.some.inj h
  exact v_ret (pc := 83) O hz dX6_findEnding_83
def f_X6_findEnding_b4 (N : Nat) : Nat → Int32 → Int32 → Dat → Option (Dat)
  | 0, _, _, _ => none
  | g + 1, x1, x2, D => if (dI D 108 4) < x2 then (f_X6_findEnding_b83 N D) else (if x1 = 0 then (f_X6_findEnding_b83 N D) else (f_X6_findEnding_b25 N (f_X6_findEnding_b4 N g) N 0 x2 ((dI D 108 4) - (1 : Int32)) D))
set_option maxHeartbeats 4000000 in
theorem w_X6_findEnding_b4 {X : Cx} {n nu c u : Nat} {K : Nat → Nat} {N : Nat} {z : Dat} (O : Ok X cX6_findEnding RX6 none 1 22) (hm : wlm (xw X) = true) (hn : xn X = 4) (hz : Z0 X (Ax nu K c u)) : ∀ (g : Nat) (x1 : Int32) (x2 : Int32) (D : Dat), f_X6_findEnding_b4 N g x1 x2 D = some z → V X (Q0 X n (Ax nu K c u) none z) n (Ax nu K c u) D 4 [(0, .ref (bo X + pp 108)), (1, .int x1), (2, .int x2)] [] := by
  intro g
  induction g with
  | zero => intro x1 x2 D h; exact absurd h (by simp [f_X6_findEnding_b4])
  | succ g ih =>
    intro x1 x2 D h
    rw [f_X6_findEnding_b4] at h
    refine v_iload_n (pc := 4) O dX6_findEnding_4 2 rfl ?_
    refine v_aload_n (pc := 5) O dX6_findEnding_5 0 rfl ?_
    refine v_getI (pc := 6) (a := 108) O gf_X6_4 fl_X6_25 kq_108 dX6_findEnding_6 ?_
    refine v_icmpgt (pc := 9) 83 O dX6_findEnding_9 (by decide) (fun c9 => ?_) (fun c9 => ?_)
    · have h := (if_pos c9).symm.trans h
      refine v_sub [] rfl ?_
      exact w_X6_findEnding_b83 O hm hn hz D h
    · have h := (if_neg c9).symm.trans h
      refine v_iload_n (pc := 12) O dX6_findEnding_12 1 rfl ?_
      refine v_ifeq (pc := 13) 83 O dX6_findEnding_13 (by decide) (fun c10 => ?_) (fun c10 => ?_)
      · have h := (if_pos c10).symm.trans h
        refine v_sub [] rfl ?_
        exact w_X6_findEnding_b83 O hm hn hz D h
      · have h := (if_neg c10).symm.trans h
        refine v_iconst (pc := 16) O dX6_findEnding_16 ic_0 ?_
        refine v_istore_n (pc := 17) (lv' := [(1, .int 0), (0, .ref (bo X + pp 108)), (2, .int x2)]) O dX6_findEnding_17 rfl (by rw [hn]; decide) rfl ?_
        refine v_aload_n (pc := 18) O dX6_findEnding_18 1 rfl ?_
        refine v_getI (pc := 19) (a := 108) O gf_X6_4 fl_X6_25 kq_108 dX6_findEnding_19 ?_
        refine v_iconst (pc := 22) O dX6_findEnding_22 ic_1 ?_
        refine v_isub (pc := 23) O dX6_findEnding_23 ?_
        refine v_istore_n (pc := 24) (lv' := [(3, .int ((dI D 108 4) - (1 : Int32))), (1, .int 0), (0, .ref (bo X + pp 108)), (2, .int x2)]) O dX6_findEnding_24 rfl (by rw [hn]; decide) rfl ?_
        refine v_sub [2, 1, 3, 0] rfl ?_
        exact w_X6_findEnding_b25 O hm hn hz ih N 0 x2 ((dI D 108 4) - (1 : Int32)) D h
def f_X6_findEnding (N : Nat) (D : Dat) : Option (Dat) :=
  f_X6_findEnding_b4 N N 1 0 D
set_option maxHeartbeats 4000000 in
theorem w_X6_findEnding {X : Cx} {n nu c u : Nat} {K : Nat → Nat} {N : Nat} {z : Dat} (O : Ok X cX6_findEnding RX6 none 1 22) (hm : wlm (xw X) = true) (hn : xn X = 4) (hz : Z0 X (Ax nu K c u)) (D : Dat) (h : f_X6_findEnding N D = some z) : V X (Q0 X n (Ax nu K c u) none z) n (Ax nu K c u) D 0 [(0, .ref (bo X + pp 108))] [] := by
  unfold f_X6_findEnding at h
  refine v_iconst (pc := 0) O dX6_findEnding_0 ic_1 ?_
  refine v_istore_n (pc := 1) (lv' := [(1, .int 1), (0, .ref (bo X + pp 108))]) O dX6_findEnding_1 rfl (by rw [hn]; decide) rfl ?_
  refine v_iconst (pc := 2) O dX6_findEnding_2 ic_0 ?_
  refine v_istore_n (pc := 3) (lv' := [(2, .int 0), (1, .int 1), (0, .ref (bo X + pp 108))]) O dX6_findEnding_3 rfl (by rw [hn]; decide) rfl ?_
  refine v_sub [2, 1, 0] rfl ?_
  exact w_X6_findEnding_b4 O hm hn hz N 1 0 D h
theorem c_X6_findEnding {l : Launch} {w : Wx} {n nu c u : Nat} {K : Nat → Nat} {N : Nat} (hm : wlm w = true) {D : Dat} {z : Dat} (h : f_X6_findEnding N D = some z) : C0 l w yX6_findEnding cX6_findEnding 4 none 1 22 [.ref (wb w + pp 108)] n (Ax nu K c u) D none z :=
  C0.of (by decide) (Nat.le_of_ble_eq_true rfl) (fun X e1 e2 e3 hz O => by
  subst e1
  subst e2
  exact w_X6_findEnding O hm e3 hz  D h)
def f_X6_sureBehind_b61 (N : Nat) (x2 : Int64) (D : Dat) : Option (Int64 × Dat) :=
  some (x2, D)
set_option maxHeartbeats 4000000 in
theorem w_X6_sureBehind_b61 {X : Cx} {n nu c u : Nat} {K : Nat → Nat} {N : Nat} {z : Int64 × Dat} (O : Ok X cX6_sureBehind RX6 (some .long) 2 42) (hm : wlm (xw X) = true) (hn : xn X = 7) (hz : Z0 X (Ax nu K c u)) (x2 : Int64) (D : Dat) (h : f_X6_sureBehind_b61 N x2 D = some z) : V X (Q0 X n (Ax nu K c u) (some (.long z.1)) z.2) n (Ax nu K c u) D 61 [(2, .long x2)] [] := by
  unfold f_X6_sureBehind_b61 at h
  refine v_lload_n (pc := 61) O dX6_sureBehind_61 0 rfl ?_
  obtain rfl := Option.some.inj h
  exact v_lret (pc := 62) O hz dX6_sureBehind_62
def f_X6_sureBehind_b20 (N : Nat) : Nat → Int64 → Int64 → Int32 → Dat → Option (Int64 × Dat)
  | 0, _, _, _, _ => none
  | g + 1, x2, x4, x6, D => if 2 ≤ x6 then (f_X6_sureBehind_b61 N x2 D) else (if (lg_cmp x4 (0 : Int64)) = 0 then (f_X6_sureBehind_b61 N x2 D) else ((f_X11_least x4 D).bind (fun p3 => if p3.1 < 0 ∨ 64 ≤ (p3.1).toNatClampNeg then none else ((f_X6_sureBehind_b20 N g) (x2 &&& (dL p3.2 110 (p3.1).toNatClampNeg)) (x4 &&& (x4 - (1 : Int64))) (x6 + 1) p3.2))))
set_option maxHeartbeats 4000000 in
theorem w_X6_sureBehind_b20 {X : Cx} {n nu c u : Nat} {K : Nat → Nat} {N : Nat} {z : Int64 × Dat} (O : Ok X cX6_sureBehind RX6 (some .long) 2 42) (hm : wlm (xw X) = true) (hn : xn X = 7) (hz : Z0 X (Ax nu K c u)) : ∀ (g : Nat) (x2 : Int64) (x4 : Int64) (x6 : Int32) (D : Dat), f_X6_sureBehind_b20 N g x2 x4 x6 D = some z → V X (Q0 X n (Ax nu K c u) (some (.long z.1)) z.2) n (Ax nu K c u) D 20 [(0, .ref (bo X + pp 108)), (2, .long x2), (4, .long x4), (6, .int x6)] [] := by
  intro g
  induction g with
  | zero => intro x2 x4 x6 D h; exact absurd h (by simp [f_X6_sureBehind_b20])
  | succ g ih =>
    intro x2 x4 x6 D h
    rw [f_X6_sureBehind_b20] at h
    refine v_iload (pc := 20) O dX6_sureBehind_20 3 rfl ?_
    refine v_iconst (pc := 22) O dX6_sureBehind_22 ic_2 ?_
    refine v_icmpge (pc := 23) 61 O dX6_sureBehind_23 (by decide) (fun c1 => ?_) (fun c1 => ?_)
    · have h := (if_pos c1).symm.trans h
      refine v_sub [1] rfl ?_
      exact w_X6_sureBehind_b61 O hm hn hz x2 D h
    · have h := (if_neg c1).symm.trans h
      refine v_lload (pc := 26) O dX6_sureBehind_26 2 rfl ?_
      refine v_lconst (pc := 28) (v := 0) O dX6_sureBehind_28 rfl ?_
      refine v_lcmp (pc := 29) O dX6_sureBehind_29 ?_
      refine v_ifeq (pc := 30) 61 O dX6_sureBehind_30 (by decide) (fun c2 => ?_) (fun c2 => ?_)
      · have h := (if_pos c2).symm.trans h
        refine v_sub [1] rfl ?_
        exact w_X6_sureBehind_b61 O hm hn hz x2 D h
      · have h := (if_neg c2).symm.trans h
        refine v_lload_n (pc := 33) O dX6_sureBehind_33 1 rfl ?_
        refine v_aload_n (pc := 34) O dX6_sureBehind_34 0 rfl ?_
        refine v_getK (pc := 35) (a := 108) O hm gf_X6_1 fl_X6_15 kq_108 lk_108_1 dX6_sureBehind_35 ?_
        refine v_lload (pc := 38) O dX6_sureBehind_38 2 rfl ?_
        obtain ⟨p3, e4, h⟩ := bind_some h
        refine v_callN (pc := 40) (As := [.long x4]) (rest := [.ref (bo X + pp 110), .long x2]) (r := (some (.int p3.1))) (D' := p3.2) O (bb0 hz) (c_X11_least hm e4) mw_X11_least sm_X11_least nl_X6_76 rfl (by decide) (by decide) (Nat.le_of_ble_eq_true rfl) dX6_sureBehind_40 rfl rfl ?_
        obtain ⟨c5, h⟩ := or_none h
        refine v_lald (pc := 43) (a := 110) O kq_110 (inq lq_110 c5) dX6_sureBehind_43 ?_
        refine v_land (pc := 44) O dX6_sureBehind_44 ?_
        refine v_lstore_n (pc := 45) (lv' := [(2, .long (x2 &&& (dL p3.2 110 (p3.1).toNatClampNeg))), (0, .ref (bo X + pp 108)), (4, .long x4), (6, .int x6)]) O dX6_sureBehind_45 rfl (by rw [hn]; decide) rfl ?_
        refine v_lload (pc := 46) O dX6_sureBehind_46 2 rfl ?_
        refine v_lload (pc := 48) O dX6_sureBehind_48 2 rfl ?_
        refine v_lconst (pc := 50) (v := 1) O dX6_sureBehind_50 rfl ?_
        refine v_lsub (pc := 51) O dX6_sureBehind_51 ?_
        refine v_land (pc := 52) O dX6_sureBehind_52 ?_
        refine v_lstore (pc := 53) (lv' := [(4, .long (x4 &&& (x4 - (1 : Int64)))), (2, .long (x2 &&& (dL p3.2 110 (p3.1).toNatClampNeg))), (0, .ref (bo X + pp 108)), (6, .int x6)]) O dX6_sureBehind_53 (by rw [hn]; decide) rfl ?_
        refine v_iinc (pc := 55) (lv' := [(6, .int (x6 + 1)), (4, .long (x4 &&& (x4 - (1 : Int64)))), (2, .long (x2 &&& (dL p3.2 110 (p3.1).toNatClampNeg))), (0, .ref (bo X + pp 108))]) O dX6_sureBehind_55 3 rfl (congrArg (fun q => x6 + q) ic_1) (by rw [hn]; decide) rfl ?_
        refine v_goto (pc := 58) 20 O dX6_sureBehind_58 (by decide) ?_
        refine v_sub [3, 2, 1, 0] rfl ?_
        exact ih (x2 &&& (dL p3.2 110 (p3.1).toNatClampNeg)) (x4 &&& (x4 - (1 : Int64))) (x6 + 1) p3.2 h
def f_X6_sureBehind (N : Nat) (x1 : Int32) (D : Dat) : Option (Int64 × Dat) :=
  if x1 < 0 ∨ 64 ≤ (x1).toNatClampNeg then none else (f_X6_sureBehind_b20 N N (-1 : Int64) ((dL D 109 (x1).toNatClampNeg) &&& (dL D 108 5)) 0 D)
set_option maxHeartbeats 4000000 in
theorem w_X6_sureBehind {X : Cx} {n nu c u : Nat} {K : Nat → Nat} {N : Nat} {z : Int64 × Dat} (O : Ok X cX6_sureBehind RX6 (some .long) 2 42) (hm : wlm (xw X) = true) (hn : xn X = 7) (hz : Z0 X (Ax nu K c u)) (x1 : Int32) (D : Dat) (h : f_X6_sureBehind N x1 D = some z) : V X (Q0 X n (Ax nu K c u) (some (.long z.1)) z.2) n (Ax nu K c u) D 0 [(0, .ref (bo X + pp 108)), (1, .int x1)] [] := by
  unfold f_X6_sureBehind at h
  refine v_ldc2 (pc := 0) O dX6_sureBehind_0 cl_X6_58 ?_
  refine v_lstore_n (pc := 3) (lv' := [(2, .long (-1 : Int64)), (0, .ref (bo X + pp 108)), (1, .int x1)]) O dX6_sureBehind_3 rfl (by rw [hn]; decide) rfl ?_
  refine v_aload_n (pc := 4) O dX6_sureBehind_4 1 rfl ?_
  refine v_getK (pc := 5) (a := 108) O hm gf_X6_0 fl_X6_9 kq_108 lk_108_0 dX6_sureBehind_5 ?_
  refine v_iload_n (pc := 8) O dX6_sureBehind_8 2 rfl ?_
  obtain ⟨c6, h⟩ := or_none h
  refine v_lald (pc := 9) (a := 109) O kq_109 (inq lq_109 c6) dX6_sureBehind_9 ?_
  refine v_aload_n (pc := 10) O dX6_sureBehind_10 1 rfl ?_
  refine v_getL (pc := 11) (a := 108) O gf_X6_5 fl_X6_44 kq_108 dX6_sureBehind_11 ?_
  refine v_land (pc := 14) O dX6_sureBehind_14 ?_
  refine v_lstore (pc := 15) (lv' := [(4, .long ((dL D 109 (x1).toNatClampNeg) &&& (dL D 108 5))), (2, .long (-1 : Int64)), (0, .ref (bo X + pp 108)), (1, .int x1)]) O dX6_sureBehind_15 (by rw [hn]; decide) rfl ?_
  refine v_iconst (pc := 17) O dX6_sureBehind_17 ic_0 ?_
  refine v_istore (pc := 18) (lv' := [(6, .int 0), (4, .long ((dL D 109 (x1).toNatClampNeg) &&& (dL D 108 5))), (2, .long (-1 : Int64)), (0, .ref (bo X + pp 108)), (1, .int x1)]) O dX6_sureBehind_18 (by rw [hn]; decide) rfl ?_
  refine v_sub [3, 2, 1, 0] rfl ?_
  exact w_X6_sureBehind_b20 O hm hn hz N (-1 : Int64) ((dL D 109 (x1).toNatClampNeg) &&& (dL D 108 5)) 0 D h
theorem c_X6_sureBehind {l : Launch} {w : Wx} {n nu c u : Nat} {K : Nat → Nat} {N : Nat} (hm : wlm w = true) {x1 : Int32} {D : Dat} {z : Int64 × Dat} (h : f_X6_sureBehind N x1 D = some z) : C0 l w yX6_sureBehind cX6_sureBehind 7 (some .long) 2 42 [.ref (wb w + pp 108), .int x1] n (Ax nu K c u) D (some (.long z.1)) z.2 :=
  C0.of (by decide) (Nat.le_of_ble_eq_true rfl) (fun X e1 e2 e3 hz O => by
  subst e1
  subst e2
  exact w_X6_sureBehind O hm e3 hz x1 D h)
def f_X6_findNext_b75 (N : Nat) (rec_36 : Int64 → Int32 → Dat → Option (Int32 × Dat)) (x2 : Int64) (x4 : Int32) (D : Dat) : Option (Int32 × Dat) :=
  rec_36 x2 (x4 + 1) D
set_option maxHeartbeats 4000000 in
theorem w_X6_findNext_b75 {X : Cx} {n nu c u : Nat} {K : Nat → Nat} {N : Nat} {rec_36 : Int64 → Int32 → Dat → Option (Int32 × Dat)} {z : Int32 × Dat} (O : Ok X cX6_findNext RX6 (some .int) 3 68) (hm : wlm (xw X) = true) (hn : xn X = 5) (hz : Z0 X (Ax nu K c u)) (hrec_36 : ∀ (x2 : Int64) (x4 : Int32) (D : Dat), rec_36 x2 x4 D = some z → V X (Q0 X n (Ax nu K c u) (some (.int z.1)) z.2) n (Ax nu K c u) D 36 [(0, .ref (bo X + pp 108)), (2, .long x2), (4, .int x4)] []) (x2 : Int64) (x4 : Int32) (D : Dat) (h : f_X6_findNext_b75 N rec_36 x2 x4 D = some z) : V X (Q0 X n (Ax nu K c u) (some (.int z.1)) z.2) n (Ax nu K c u) D 75 [(0, .ref (bo X + pp 108)), (2, .long x2), (4, .int x4)] [] := by
  unfold f_X6_findNext_b75 at h
  refine v_iinc (pc := 75) (lv' := [(4, .int (x4 + 1)), (0, .ref (bo X + pp 108)), (2, .long x2)]) O dX6_findNext_75 2 rfl (congrArg (fun q => x4 + q) ic_1) (by rw [hn]; decide) rfl ?_
  refine v_goto (pc := 78) 36 O dX6_findNext_78 (by decide) ?_
  refine v_sub [1, 2, 0] rfl ?_
  exact hrec_36 x2 (x4 + 1) D h
def f_X6_findNext_b36 (N : Nat) : Nat → Int64 → Int32 → Dat → Option (Int32 × Dat)
  | 0, _, _, _ => none
  | g + 1, x2, x4, D => if (dI D 108 4) ≤ x4 then (some ((-1), D)) else ((f_X11_holds x2 x4 D).bind (fun p2 => if p2.1 = 0 then (f_X6_findNext_b75 N (f_X6_findNext_b36 N g) x2 x4 p2.2) else (if x4 < 0 ∨ 64 ≤ (x4).toNatClampNeg then none else (if (lg_cmp (x2 &&& ((dL p2.2 110 (x4).toNatClampNeg) ^^^ (-1 : Int64))) (0 : Int64)) = 0 then (some (x4, p2.2)) else (f_X6_findNext_b75 N (f_X6_findNext_b36 N g) x2 x4 p2.2)))))
set_option maxHeartbeats 4000000 in
theorem w_X6_findNext_b36 {X : Cx} {n nu c u : Nat} {K : Nat → Nat} {N : Nat} {z : Int32 × Dat} (O : Ok X cX6_findNext RX6 (some .int) 3 68) (hm : wlm (xw X) = true) (hn : xn X = 5) (hz : Z0 X (Ax nu K c u)) : ∀ (g : Nat) (x2 : Int64) (x4 : Int32) (D : Dat), f_X6_findNext_b36 N g x2 x4 D = some z → V X (Q0 X n (Ax nu K c u) (some (.int z.1)) z.2) n (Ax nu K c u) D 36 [(0, .ref (bo X + pp 108)), (2, .long x2), (4, .int x4)] [] := by
  intro g
  induction g with
  | zero => intro x2 x4 D h; exact absurd h (by simp [f_X6_findNext_b36])
  | succ g ih =>
    intro x2 x4 D h
    rw [f_X6_findNext_b36] at h
    refine v_iload (pc := 36) O dX6_findNext_36 2 rfl ?_
    refine v_aload_n (pc := 38) O dX6_findNext_38 0 rfl ?_
    refine v_getI (pc := 39) (a := 108) O gf_X6_4 fl_X6_25 kq_108 dX6_findNext_39 ?_
    refine v_icmpge (pc := 42) 81 O dX6_findNext_42 (by decide) (fun c1 => ?_) (fun c1 => ?_)
    · have h := (if_pos c1).symm.trans h
      refine v_iconst (pc := 81) O dX6_findNext_81 ic_m1 ?_
      obtain rfl := Option.some.inj h
      exact v_iret (pc := 82) O hz dX6_findNext_82
    · have h := (if_neg c1).symm.trans h
      refine v_lload_n (pc := 45) O dX6_findNext_45 1 rfl ?_
      refine v_iload (pc := 46) O dX6_findNext_46 2 rfl ?_
      obtain ⟨p2, e3, h⟩ := bind_some h
      refine v_callN (pc := 48) (As := [.long x2, .int x4]) (rest := []) (r := (some (.int p2.1))) (D' := p2.2) O (bb0 hz) (c_X11_holds hm e3) mw_X11_holds sm_X11_holds nl_X6_29 rfl (by decide) (by decide) (Nat.le_of_ble_eq_true rfl) dX6_findNext_48 rfl rfl ?_
      refine v_ifeq (pc := 51) 75 O dX6_findNext_51 (by decide) (fun c4 => ?_) (fun c4 => ?_)
      · have h := (if_pos c4).symm.trans h
        refine v_sub [0, 1, 2] rfl ?_
        exact w_X6_findNext_b75 O hm hn hz ih x2 x4 p2.2 h
      · have h := (if_neg c4).symm.trans h
        refine v_lload_n (pc := 54) O dX6_findNext_54 1 rfl ?_
        refine v_aload_n (pc := 55) O dX6_findNext_55 0 rfl ?_
        refine v_getK (pc := 56) (a := 108) O hm gf_X6_1 fl_X6_15 kq_108 lk_108_1 dX6_findNext_56 ?_
        refine v_iload (pc := 59) O dX6_findNext_59 2 rfl ?_
        obtain ⟨c5, h⟩ := or_none h
        refine v_lald (pc := 61) (a := 110) O kq_110 (inq lq_110 c5) dX6_findNext_61 ?_
        refine v_ldc2 (pc := 62) O dX6_findNext_62 cl_X6_58 ?_
        refine v_lxor (pc := 65) O dX6_findNext_65 ?_
        refine v_land (pc := 66) O dX6_findNext_66 ?_
        refine v_lconst (pc := 67) (v := 0) O dX6_findNext_67 rfl ?_
        refine v_lcmp (pc := 68) O dX6_findNext_68 ?_
        refine v_ifne (pc := 69) 75 O dX6_findNext_69 (by decide) (fun c6 => ?_) (fun c6 => ?_)
        · have h := (if_neg c6).symm.trans h
          refine v_sub [0, 1, 2] rfl ?_
          exact w_X6_findNext_b75 O hm hn hz ih x2 x4 p2.2 h
        · have h := (if_pos c6).symm.trans h
          refine v_iload (pc := 72) O dX6_findNext_72 2 rfl ?_
          obtain rfl := Option.some.inj h
          exact v_iret (pc := 74) O hz dX6_findNext_74
def f_X6_findNext (N : Nat) (x1 : Int32) (D : Dat) : Option (Int32 × Dat) :=
  if x1 < 0 ∨ 64 ≤ (x1).toNatClampNeg then none else (if (lg_cmp ((dL D 109 (x1).toNatClampNeg) &&& (dL D 108 5)) (0 : Int64)) = 0 then (some ((-1), D)) else ((f_X6_sureBehind N x1 D).bind (fun p9 => (f_X11_bit x1 p9.2).bind (fun p11 => f_X6_findNext_b36 N N (p9.1 &&& (p11.1 ^^^ (-1 : Int64))) 0 p11.2))))
set_option maxHeartbeats 4000000 in
theorem w_X6_findNext {X : Cx} {n nu c u : Nat} {K : Nat → Nat} {N : Nat} {z : Int32 × Dat} (O : Ok X cX6_findNext RX6 (some .int) 3 68) (hm : wlm (xw X) = true) (hn : xn X = 5) (hz : Z0 X (Ax nu K c u)) (x1 : Int32) (D : Dat) (h : f_X6_findNext N x1 D = some z) : V X (Q0 X n (Ax nu K c u) (some (.int z.1)) z.2) n (Ax nu K c u) D 0 [(0, .ref (bo X + pp 108)), (1, .int x1)] [] := by
  unfold f_X6_findNext at h
  refine v_aload_n (pc := 0) O dX6_findNext_0 0 rfl ?_
  refine v_getK (pc := 1) (a := 108) O hm gf_X6_0 fl_X6_9 kq_108 lk_108_0 dX6_findNext_1 ?_
  refine v_iload_n (pc := 4) O dX6_findNext_4 1 rfl ?_
  obtain ⟨c7, h⟩ := or_none h
  refine v_lald (pc := 5) (a := 109) O kq_109 (inq lq_109 c7) dX6_findNext_5 ?_
  refine v_aload_n (pc := 6) O dX6_findNext_6 0 rfl ?_
  refine v_getL (pc := 7) (a := 108) O gf_X6_5 fl_X6_44 kq_108 dX6_findNext_7 ?_
  refine v_land (pc := 10) O dX6_findNext_10 ?_
  refine v_lconst (pc := 11) (v := 0) O dX6_findNext_11 rfl ?_
  refine v_lcmp (pc := 12) O dX6_findNext_12 ?_
  refine v_ifne (pc := 13) 18 O dX6_findNext_13 (by decide) (fun c8 => ?_) (fun c8 => ?_)
  · have h := (if_neg c8).symm.trans h
    refine v_aload_n (pc := 18) O dX6_findNext_18 0 rfl ?_
    refine v_iload_n (pc := 19) O dX6_findNext_19 1 rfl ?_
    obtain ⟨p9, e10, h⟩ := bind_some h
    refine v_callV (pc := 20) (a := 108) (As := [.int x1]) (rest := []) (r := (some (.long p9.1))) (D' := p9.2) O (bb0 hz) (c_X6_sureBehind hm e10) mw_X6_sureBehind im_X6_sureBehind se_X6_sureBehind ml_X6_73 kq_108 (by decide) rfl rfl rfl (by decide) (by decide) (Nat.le_of_ble_eq_true rfl) dX6_findNext_20 rfl rfl ?_
    refine v_iload_n (pc := 23) O dX6_findNext_23 1 rfl ?_
    obtain ⟨p11, e12, h⟩ := bind_some h
    refine v_callN (pc := 24) (As := [.int x1]) (rest := [.long p9.1]) (r := (some (.long p11.1))) (D' := p11.2) O (bb0 hz) (c_X11_bit hm e12) mw_X11_bit sm_X11_bit nl_X6_55 rfl (by decide) (by decide) (Nat.le_of_ble_eq_true rfl) dX6_findNext_24 rfl rfl ?_
    refine v_ldc2 (pc := 27) O dX6_findNext_27 cl_X6_58 ?_
    refine v_lxor (pc := 30) O dX6_findNext_30 ?_
    refine v_land (pc := 31) O dX6_findNext_31 ?_
    refine v_lstore_n (pc := 32) (lv' := [(2, .long (p9.1 &&& (p11.1 ^^^ (-1 : Int64)))), (0, .ref (bo X + pp 108)), (1, .int x1)]) O dX6_findNext_32 rfl (by rw [hn]; decide) rfl ?_
    refine v_iconst (pc := 33) O dX6_findNext_33 ic_0 ?_
    refine v_istore (pc := 34) (lv' := [(4, .int 0), (2, .long (p9.1 &&& (p11.1 ^^^ (-1 : Int64)))), (0, .ref (bo X + pp 108)), (1, .int x1)]) O dX6_findNext_34 (by rw [hn]; decide) rfl ?_
    refine v_sub [2, 1, 0] rfl ?_
    exact w_X6_findNext_b36 O hm hn hz N (p9.1 &&& (p11.1 ^^^ (-1 : Int64))) 0 p11.2 h
  · have h := (if_pos c8).symm.trans h
    refine v_iconst (pc := 16) O dX6_findNext_16 ic_m1 ?_
    obtain rfl := Option.some.inj h
    exact v_iret (pc := 17) O hz dX6_findNext_17
theorem c_X6_findNext {l : Launch} {w : Wx} {n nu c u : Nat} {K : Nat → Nat} {N : Nat} (hm : wlm w = true) {x1 : Int32} {D : Dat} {z : Int32 × Dat} (h : f_X6_findNext N x1 D = some z) : C0 l w yX6_findNext cX6_findNext 5 (some .int) 3 68 [.ref (wb w + pp 108), .int x1] n (Ax nu K c u) D (some (.int z.1)) z.2 :=
  C0.of (by decide) (Nat.le_of_ble_eq_true rfl) (fun X e1 e2 e3 hz O => by
  subst e1
  subst e2
  exact w_X6_findNext O hm e3 hz x1 D h)
def f_X6_reachedFrom_b99 (N : Nat) (x5 : Int64) (D : Dat) : Option (Int64 × Dat) :=
  some (x5, D)
set_option maxHeartbeats 4000000 in
theorem w_X6_reachedFrom_b99 {X : Cx} {n nu c u : Nat} {K : Nat → Nat} {N : Nat} {z : Int64 × Dat} (O : Ok X cX6_reachedFrom RX6 (some .long) 2 42) (hm : wlm (xw X) = true) (hn : xn X = 12) (hz : Z0 X (Ax nu K c u)) (x5 : Int64) (D : Dat) (h : f_X6_reachedFrom_b99 N x5 D = some z) : V X (Q0 X n (Ax nu K c u) (some (.long z.1)) z.2) n (Ax nu K c u) D 99 [(5, .long x5)] [] := by
  unfold f_X6_reachedFrom_b99 at h
  refine v_lload (pc := 99) O dX6_reachedFrom_99 0 rfl ?_
  obtain rfl := Option.some.inj h
  exact v_lret (pc := 101) O hz dX6_reachedFrom_101
def f_X6_reachedFrom_b37 (N : Nat) : Nat → Int64 → Int64 → Int64 → Int32 → Dat → Option (Int64 × Dat)
  | 0, _, _, _, _, _ => none
  | g + 1, x3, x5, x7, x9, D => if (dI D 108 4) ≤ x9 then (f_X6_reachedFrom_b99 N x5 D) else (if (lg_cmp x7 (0 : Int64)) = 0 then (f_X6_reachedFrom_b99 N x5 D) else ((f_X11_least x7 D).bind (fun p3 => if p3.1 < 0 ∨ 64 ≤ (p3.1).toNatClampNeg then none else ((f_X6_reachedFrom_b37 N g) x3 (x5 ||| (((dL p3.2 109 (p3.1).toNatClampNeg) &&& x3) &&& (x5 ^^^ (-1 : Int64)))) ((x7 &&& (x7 - (1 : Int64))) ||| (((dL p3.2 109 (p3.1).toNatClampNeg) &&& x3) &&& (x5 ^^^ (-1 : Int64)))) (x9 + 1) p3.2))))
set_option maxHeartbeats 4000000 in
theorem w_X6_reachedFrom_b37 {X : Cx} {n nu c u : Nat} {K : Nat → Nat} {N : Nat} {z : Int64 × Dat} (O : Ok X cX6_reachedFrom RX6 (some .long) 2 42) (hm : wlm (xw X) = true) (hn : xn X = 12) (hz : Z0 X (Ax nu K c u)) : ∀ (g : Nat) (x3 : Int64) (x5 : Int64) (x7 : Int64) (x9 : Int32) (D : Dat), f_X6_reachedFrom_b37 N g x3 x5 x7 x9 D = some z → V X (Q0 X n (Ax nu K c u) (some (.long z.1)) z.2) n (Ax nu K c u) D 37 [(0, .ref (bo X + pp 108)), (3, .long x3), (5, .long x5), (7, .long x7), (9, .int x9)] [] := by
  intro g
  induction g with
  | zero => intro x3 x5 x7 x9 D h; exact absurd h (by simp [f_X6_reachedFrom_b37])
  | succ g ih =>
    intro x3 x5 x7 x9 D h
    rw [f_X6_reachedFrom_b37] at h
    refine v_iload (pc := 37) O dX6_reachedFrom_37 4 rfl ?_
    refine v_aload_n (pc := 39) O dX6_reachedFrom_39 0 rfl ?_
    refine v_getI (pc := 40) (a := 108) O gf_X6_4 fl_X6_25 kq_108 dX6_reachedFrom_40 ?_
    refine v_icmpge (pc := 43) 99 O dX6_reachedFrom_43 (by decide) (fun c1 => ?_) (fun c1 => ?_)
    · have h := (if_pos c1).symm.trans h
      refine v_sub [2] rfl ?_
      exact w_X6_reachedFrom_b99 O hm hn hz x5 D h
    · have h := (if_neg c1).symm.trans h
      refine v_lload (pc := 46) O dX6_reachedFrom_46 3 rfl ?_
      refine v_lconst (pc := 48) (v := 0) O dX6_reachedFrom_48 rfl ?_
      refine v_lcmp (pc := 49) O dX6_reachedFrom_49 ?_
      refine v_ifeq (pc := 50) 99 O dX6_reachedFrom_50 (by decide) (fun c2 => ?_) (fun c2 => ?_)
      · have h := (if_pos c2).symm.trans h
        refine v_sub [2] rfl ?_
        exact w_X6_reachedFrom_b99 O hm hn hz x5 D h
      · have h := (if_neg c2).symm.trans h
        refine v_aload_n (pc := 53) O dX6_reachedFrom_53 0 rfl ?_
        refine v_getK (pc := 54) (a := 108) O hm gf_X6_0 fl_X6_9 kq_108 lk_108_0 dX6_reachedFrom_54 ?_
        refine v_lload (pc := 57) O dX6_reachedFrom_57 3 rfl ?_
        obtain ⟨p3, e4, h⟩ := bind_some h
        refine v_callN (pc := 59) (As := [.long x7]) (rest := [.ref (bo X + pp 109)]) (r := (some (.int p3.1))) (D' := p3.2) O (bb0 hz) (c_X11_least hm e4) mw_X11_least sm_X11_least nl_X6_76 rfl (by decide) (by decide) (Nat.le_of_ble_eq_true rfl) dX6_reachedFrom_59 rfl rfl ?_
        obtain ⟨c5, h⟩ := or_none h
        refine v_lald (pc := 62) (a := 109) O kq_109 (inq lq_109 c5) dX6_reachedFrom_62 ?_
        refine v_lload_n (pc := 63) O dX6_reachedFrom_63 1 rfl ?_
        refine v_land (pc := 64) O dX6_reachedFrom_64 ?_
        refine v_lload (pc := 65) O dX6_reachedFrom_65 2 rfl ?_
        refine v_ldc2 (pc := 67) O dX6_reachedFrom_67 cl_X6_58 ?_
        refine v_lxor (pc := 70) O dX6_reachedFrom_70 ?_
        refine v_land (pc := 71) O dX6_reachedFrom_71 ?_
        refine v_lstore (pc := 72) (lv' := [(10, .long (((dL p3.2 109 (p3.1).toNatClampNeg) &&& x3) &&& (x5 ^^^ (-1 : Int64)))), (0, .ref (bo X + pp 108)), (3, .long x3), (5, .long x5), (7, .long x7), (9, .int x9)]) O dX6_reachedFrom_72 (by rw [hn]; decide) rfl ?_
        refine v_lload (pc := 74) O dX6_reachedFrom_74 4 rfl ?_
        refine v_lload (pc := 76) O dX6_reachedFrom_76 4 rfl ?_
        refine v_lconst (pc := 78) (v := 1) O dX6_reachedFrom_78 rfl ?_
        refine v_lsub (pc := 79) O dX6_reachedFrom_79 ?_
        refine v_land (pc := 80) O dX6_reachedFrom_80 ?_
        refine v_lload (pc := 81) O dX6_reachedFrom_81 0 rfl ?_
        refine v_lor (pc := 83) O dX6_reachedFrom_83 ?_
        refine v_lstore (pc := 84) (lv' := [(7, .long ((x7 &&& (x7 - (1 : Int64))) ||| (((dL p3.2 109 (p3.1).toNatClampNeg) &&& x3) &&& (x5 ^^^ (-1 : Int64))))), (10, .long (((dL p3.2 109 (p3.1).toNatClampNeg) &&& x3) &&& (x5 ^^^ (-1 : Int64)))), (0, .ref (bo X + pp 108)), (3, .long x3), (5, .long x5), (9, .int x9)]) O dX6_reachedFrom_84 (by rw [hn]; decide) rfl ?_
        refine v_lload (pc := 86) O dX6_reachedFrom_86 4 rfl ?_
        refine v_lload (pc := 88) O dX6_reachedFrom_88 1 rfl ?_
        refine v_lor (pc := 90) O dX6_reachedFrom_90 ?_
        refine v_lstore (pc := 91) (lv' := [(5, .long (x5 ||| (((dL p3.2 109 (p3.1).toNatClampNeg) &&& x3) &&& (x5 ^^^ (-1 : Int64))))), (7, .long ((x7 &&& (x7 - (1 : Int64))) ||| (((dL p3.2 109 (p3.1).toNatClampNeg) &&& x3) &&& (x5 ^^^ (-1 : Int64))))), (10, .long (((dL p3.2 109 (p3.1).toNatClampNeg) &&& x3) &&& (x5 ^^^ (-1 : Int64)))), (0, .ref (bo X + pp 108)), (3, .long x3), (9, .int x9)]) O dX6_reachedFrom_91 (by rw [hn]; decide) rfl ?_
        refine v_iinc (pc := 93) (lv' := [(9, .int (x9 + 1)), (5, .long (x5 ||| (((dL p3.2 109 (p3.1).toNatClampNeg) &&& x3) &&& (x5 ^^^ (-1 : Int64))))), (7, .long ((x7 &&& (x7 - (1 : Int64))) ||| (((dL p3.2 109 (p3.1).toNatClampNeg) &&& x3) &&& (x5 ^^^ (-1 : Int64))))), (10, .long (((dL p3.2 109 (p3.1).toNatClampNeg) &&& x3) &&& (x5 ^^^ (-1 : Int64)))), (0, .ref (bo X + pp 108)), (3, .long x3)]) O dX6_reachedFrom_93 5 rfl (congrArg (fun q => x9 + q) ic_1) (by rw [hn]; decide) rfl ?_
        refine v_goto (pc := 96) 37 O dX6_reachedFrom_96 (by decide) ?_
        refine v_sub [4, 5, 1, 2, 0] rfl ?_
        exact ih x3 (x5 ||| (((dL p3.2 109 (p3.1).toNatClampNeg) &&& x3) &&& (x5 ^^^ (-1 : Int64)))) ((x7 &&& (x7 - (1 : Int64))) ||| (((dL p3.2 109 (p3.1).toNatClampNeg) &&& x3) &&& (x5 ^^^ (-1 : Int64)))) (x9 + 1) p3.2 h
def f_X6_reachedFrom_b19 (N : Nat) (x1 : Int32) (s0 : Int64) (D : Dat) : Option (Int64 × Dat) :=
  if x1 < 0 ∨ 64 ≤ (x1).toNatClampNeg then none else (f_X6_reachedFrom_b37 N N s0 ((dL D 109 (x1).toNatClampNeg) &&& s0) ((dL D 109 (x1).toNatClampNeg) &&& s0) 0 D)
set_option maxHeartbeats 4000000 in
theorem w_X6_reachedFrom_b19 {X : Cx} {n nu c u : Nat} {K : Nat → Nat} {N : Nat} {z : Int64 × Dat} (O : Ok X cX6_reachedFrom RX6 (some .long) 2 42) (hm : wlm (xw X) = true) (hn : xn X = 12) (hz : Z0 X (Ax nu K c u)) (x1 : Int32) (s0 : Int64) (D : Dat) (h : f_X6_reachedFrom_b19 N x1 s0 D = some z) : V X (Q0 X n (Ax nu K c u) (some (.long z.1)) z.2) n (Ax nu K c u) D 19 [(0, .ref (bo X + pp 108)), (1, .int x1)] [.long s0] := by
  unfold f_X6_reachedFrom_b19 at h
  refine v_lstore_n (pc := 19) (lv' := [(3, .long s0), (0, .ref (bo X + pp 108)), (1, .int x1)]) O dX6_reachedFrom_19 rfl (by rw [hn]; decide) rfl ?_
  refine v_aload_n (pc := 20) O dX6_reachedFrom_20 1 rfl ?_
  refine v_getK (pc := 21) (a := 108) O hm gf_X6_0 fl_X6_9 kq_108 lk_108_0 dX6_reachedFrom_21 ?_
  refine v_iload_n (pc := 24) O dX6_reachedFrom_24 2 rfl ?_
  obtain ⟨c6, h⟩ := or_none h
  refine v_lald (pc := 25) (a := 109) O kq_109 (inq lq_109 c6) dX6_reachedFrom_25 ?_
  refine v_lload_n (pc := 26) O dX6_reachedFrom_26 0 rfl ?_
  refine v_land (pc := 27) O dX6_reachedFrom_27 ?_
  refine v_lstore (pc := 28) (lv' := [(5, .long ((dL D 109 (x1).toNatClampNeg) &&& s0)), (3, .long s0), (0, .ref (bo X + pp 108)), (1, .int x1)]) O dX6_reachedFrom_28 (by rw [hn]; decide) rfl ?_
  refine v_lload (pc := 30) O dX6_reachedFrom_30 0 rfl ?_
  refine v_lstore (pc := 32) (lv' := [(7, .long ((dL D 109 (x1).toNatClampNeg) &&& s0)), (5, .long ((dL D 109 (x1).toNatClampNeg) &&& s0)), (3, .long s0), (0, .ref (bo X + pp 108)), (1, .int x1)]) O dX6_reachedFrom_32 (by rw [hn]; decide) rfl ?_
  refine v_iconst (pc := 34) O dX6_reachedFrom_34 ic_0 ?_
  refine v_istore (pc := 35) (lv' := [(9, .int 0), (7, .long ((dL D 109 (x1).toNatClampNeg) &&& s0)), (5, .long ((dL D 109 (x1).toNatClampNeg) &&& s0)), (3, .long s0), (0, .ref (bo X + pp 108)), (1, .int x1)]) O dX6_reachedFrom_35 (by rw [hn]; decide) rfl ?_
  refine v_sub [4, 3, 2, 1, 0] rfl ?_
  exact w_X6_reachedFrom_b37 O hm hn hz N s0 ((dL D 109 (x1).toNatClampNeg) &&& s0) ((dL D 109 (x1).toNatClampNeg) &&& s0) 0 D h
def f_X6_reachedFrom (N : Nat) (x1 : Int32) (x2 : Int32) (D : Dat) : Option (Int64 × Dat) :=
  if x2 = (-1) then (f_X6_reachedFrom_b19 N x1 (-1 : Int64) D) else ((f_X11_bit x2 D).bind (fun p8 => f_X6_reachedFrom_b19 N x1 (p8.1 ^^^ (-1 : Int64)) p8.2))
set_option maxHeartbeats 4000000 in
theorem w_X6_reachedFrom {X : Cx} {n nu c u : Nat} {K : Nat → Nat} {N : Nat} {z : Int64 × Dat} (O : Ok X cX6_reachedFrom RX6 (some .long) 2 42) (hm : wlm (xw X) = true) (hn : xn X = 12) (hz : Z0 X (Ax nu K c u)) (x1 : Int32) (x2 : Int32) (D : Dat) (h : f_X6_reachedFrom N x1 x2 D = some z) : V X (Q0 X n (Ax nu K c u) (some (.long z.1)) z.2) n (Ax nu K c u) D 0 [(0, .ref (bo X + pp 108)), (1, .int x1), (2, .int x2)] [] := by
  unfold f_X6_reachedFrom at h
  refine v_iload_n (pc := 0) O dX6_reachedFrom_0 2 rfl ?_
  refine v_iconst (pc := 1) O dX6_reachedFrom_1 ic_m1 ?_
  refine v_icmpne (pc := 2) 11 O dX6_reachedFrom_2 (by decide) (fun c7 => ?_) (fun c7 => ?_)
  · have h := (if_neg c7).symm.trans h
    refine v_iload_n (pc := 11) O dX6_reachedFrom_11 2 rfl ?_
    obtain ⟨p8, e9, h⟩ := bind_some h
    refine v_callN (pc := 12) (As := [.int x2]) (rest := []) (r := (some (.long p8.1))) (D' := p8.2) O (bb0 hz) (c_X11_bit hm e9) mw_X11_bit sm_X11_bit nl_X6_55 rfl (by decide) (by decide) (Nat.le_of_ble_eq_true rfl) dX6_reachedFrom_12 rfl rfl ?_
    refine v_ldc2 (pc := 15) O dX6_reachedFrom_15 cl_X6_58 ?_
    refine v_lxor (pc := 18) O dX6_reachedFrom_18 ?_
    refine v_sub [0, 1] rfl ?_
    exact w_X6_reachedFrom_b19 O hm hn hz x1 (p8.1 ^^^ (-1 : Int64)) p8.2 h
  · have h := (if_pos c7).symm.trans h
    refine v_ldc2 (pc := 5) O dX6_reachedFrom_5 cl_X6_58 ?_
    refine v_goto (pc := 8) 19 O dX6_reachedFrom_8 (by decide) ?_
    refine v_sub [0, 1] rfl ?_
    exact w_X6_reachedFrom_b19 O hm hn hz x1 (-1 : Int64) D h
theorem c_X6_reachedFrom {l : Launch} {w : Wx} {n nu c u : Nat} {K : Nat → Nat} {N : Nat} (hm : wlm w = true) {x1 : Int32} {x2 : Int32} {D : Dat} {z : Int64 × Dat} (h : f_X6_reachedFrom N x1 x2 D = some z) : C0 l w yX6_reachedFrom cX6_reachedFrom 12 (some .long) 2 42 [.ref (wb w + pp 108), .int x1, .int x2] n (Ax nu K c u) D (some (.long z.1)) z.2 :=
  C0.of (by decide) (Nat.le_of_ble_eq_true rfl) (fun X e1 e2 e3 hz O => by
  subst e1
  subst e2
  exact w_X6_reachedFrom O hm e3 hz x1 x2 D h)
def f_X9_hasHeight (x1 : Int32) (D : Dat) : Option (Int32 × Dat) :=
  (f_X11_holds (dL D 107 5) x1 D).bind (fun p1 => if p1.1 &&& 1 = p1.1 then some (p1.1, p1.2) else none)
set_option maxHeartbeats 4000000 in
theorem w_X9_hasHeight {X : Cx} {n nu c u : Nat} {K : Nat → Nat} {z : Int32 × Dat} (O : Ok X cX9_hasHeight RX9 (some .boolean) 1 22) (hm : wlm (xw X) = true) (hn : xn X = 2) (hz : Z0 X (Ax nu K c u)) (x1 : Int32) (D : Dat) (h : f_X9_hasHeight x1 D = some z) : V X (Q0 X n (Ax nu K c u) (some (.int z.1)) z.2) n (Ax nu K c u) D 0 [(0, .ref (bo X + pp 107)), (1, .int x1)] [] := by
  unfold f_X9_hasHeight at h
  refine v_aload_n (pc := 0) O dX9_hasHeight_0 0 rfl ?_
  refine v_getL (pc := 1) (a := 107) O gf_X9_5 fl_X9_48 kq_107 dX9_hasHeight_1 ?_
  refine v_iload_n (pc := 4) O dX9_hasHeight_4 1 rfl ?_
  obtain ⟨p1, e2, h⟩ := bind_some h
  refine v_callN (pc := 5) (As := [.long (dL D 107 5), .int x1]) (rest := []) (r := (some (.int p1.1))) (D' := p1.2) O (bb0 hz) (c_X11_holds hm e2) mw_X11_holds sm_X11_holds nl_X9_58 rfl (by decide) (by decide) (Nat.le_of_ble_eq_true rfl) dX9_hasHeight_5 rfl rfl ?_
  obtain ⟨c3, h⟩ := if_none h
  obtain rfl := Option.some.inj h
  exact v_zret (pc := 8) O hz (congrArg Value.int c3) dX9_hasHeight_8
theorem c_X9_hasHeight {l : Launch} {w : Wx} {n nu c u : Nat} {K : Nat → Nat} (hm : wlm w = true) {x1 : Int32} {D : Dat} {z : Int32 × Dat} (h : f_X9_hasHeight x1 D = some z) : C0 l w yX9_hasHeight cX9_hasHeight 2 (some .boolean) 1 22 [.ref (wb w + pp 107), .int x1] n (Ax nu K c u) D (some (.int z.1)) z.2 :=
  C0.of (by decide) (Nat.le_of_ble_eq_true rfl) (fun X e1 e2 e3 hz O => by
  subst e1
  subst e2
  exact w_X9_hasHeight O hm e3 hz x1 D h)
def f_X9_isInside (x1 : Int32) (x2 : Int32) (D : Dat) : Option (Int32 × Dat) :=
  (f_X6_isInside x1 x2 D).bind (fun p1 => if p1.1 &&& 1 = p1.1 then some (p1.1, p1.2) else none)
set_option maxHeartbeats 4000000 in
theorem w_X9_isInside {X : Cx} {n nu c u : Nat} {K : Nat → Nat} {z : Int32 × Dat} (O : Ok X cX9_isInside RX9 (some .boolean) 2 44) (hm : wlm (xw X) = true) (hn : xn X = 3) (hz : Z0 X (Ax nu K c u)) (x1 : Int32) (x2 : Int32) (D : Dat) (h : f_X9_isInside x1 x2 D = some z) : V X (Q0 X n (Ax nu K c u) (some (.int z.1)) z.2) n (Ax nu K c u) D 0 [(0, .ref (bo X + pp 107)), (1, .int x1), (2, .int x2)] [] := by
  unfold f_X9_isInside at h
  refine v_aload_n (pc := 0) O dX9_isInside_0 0 rfl ?_
  refine v_getK (pc := 1) (a := 107) O hm gf_X9_1 fl_X9_14 kq_107 lk_107_1 dX9_isInside_1 ?_
  refine v_iload_n (pc := 4) O dX9_isInside_4 1 rfl ?_
  refine v_iload_n (pc := 5) O dX9_isInside_5 2 rfl ?_
  obtain ⟨p1, e2, h⟩ := bind_some h
  refine v_callV (pc := 6) (a := 108) (As := [.int x1, .int x2]) (rest := []) (r := (some (.int p1.1))) (D' := p1.2) O (bb0 hz) (c_X6_isInside hm e2) mw_X6_isInside im_X6_isInside se_X6_isInside ml_X9_66 kq_108 (by decide) rfl rfl rfl (by decide) (by decide) (Nat.le_of_ble_eq_true rfl) dX9_isInside_6 rfl rfl ?_
  obtain ⟨c3, h⟩ := if_none h
  obtain rfl := Option.some.inj h
  exact v_zret (pc := 9) O hz (congrArg Value.int c3) dX9_isInside_9
theorem c_X9_isInside {l : Launch} {w : Wx} {n nu c u : Nat} {K : Nat → Nat} (hm : wlm w = true) {x1 : Int32} {x2 : Int32} {D : Dat} {z : Int32 × Dat} (h : f_X9_isInside x1 x2 D = some z) : C0 l w yX9_isInside cX9_isInside 3 (some .boolean) 2 44 [.ref (wb w + pp 107), .int x1, .int x2] n (Ax nu K c u) D (some (.int z.1)) z.2 :=
  C0.of (by decide) (Nat.le_of_ble_eq_true rfl) (fun X e1 e2 e3 hz O => by
  subst e1
  subst e2
  exact w_X9_isInside O hm e3 hz x1 x2 D h)
def f_X9_mapped_b101 (N : Nat) (nu : Nat) (K : Nat → Nat) (s0 : Int32) (D : Dat) : Option (Int32 × Dat) :=
  some (s0, D)
set_option maxHeartbeats 4000000 in
theorem w_X9_mapped_b101 {X : Cx} {n nu c u : Nat} {K : Nat → Nat} {N : Nat} {z : Int32 × Dat} (O : Ok X cX9_mapped RX9 (some .int) 3 64) (hm : wlm (xw X) = true) (hn : xn X = 4) (hz : Z0 X (Ax nu K c u)) (s0 : Int32) (D : Dat) (h : f_X9_mapped_b101 N nu K s0 D = some z) : V X (Q0 X n (Ax nu K c u) (some (.int z.1)) z.2) n (Ax nu K c u) D 101 [] [.int s0] := by
  unfold f_X9_mapped_b101 at h
  obtain rfl := Option.some.inj h
  exact v_iret (pc := 101) O hz dX9_mapped_101
def f_X9_mapped (N : Nat) (nu : Nat) (K : Nat → Nat) (x1 : Int32) (x2 : Int32) (D : Dat) : Option (Int32 × Dat) :=
  (f_X9_hasHeight x1 D).bind (fun p1 => if p1.1 = 0 then (some ((-2), p1.2)) else (if 26 ≤ x2 then (if x2 = 26 then (if x1 < 0 ∨ 64 ≤ (x1).toNatClampNeg then none else ((f_X2_labelOf N nu K (dI p1.2 114 (x1).toNatClampNeg) p1.2).bind (fun p15 => some (p15.1, p15.2)))) else (if x2 = 27 then (if x1 < 0 ∨ 64 ≤ (x1).toNatClampNeg then none else (some ((dI p1.2 113 (x1).toNatClampNeg), p1.2))) else (if x1 < 0 ∨ 64 ≤ (x1).toNatClampNeg then none else (if (dI p1.2 113 (x1).toNatClampNeg) ≤ ((x2 - (26 : Int32)) - (2 : Int32)) then (f_X9_mapped_b101 N nu K (-1) p1.2) else ((f_X9_heldAt x1 ((26 : Int32) + ((x2 - (26 : Int32)) - (2 : Int32))) p1.2).bind (fun p9 => (f_X2_labelOf N nu K p9.1 p9.2).bind (fun p11 => f_X9_mapped_b101 N nu K p11.1 p11.2))))))) else ((f_X9_heldAt x1 x2 p1.2).bind (fun p17 => (f_X2_labelOf N nu K p17.1 p17.2).bind (fun p19 => some (p19.1, p19.2))))))
set_option maxHeartbeats 4000000 in
theorem w_X9_mapped {X : Cx} {n nu c u : Nat} {K : Nat → Nat} {N : Nat} {z : Int32 × Dat} (O : Ok X cX9_mapped RX9 (some .int) 3 64) (hm : wlm (xw X) = true) (hn : xn X = 4) (hz : Z0 X (Ax nu K c u)) (x1 : Int32) (x2 : Int32) (D : Dat) (h : f_X9_mapped N nu K x1 x2 D = some z) : V X (Q0 X n (Ax nu K c u) (some (.int z.1)) z.2) n (Ax nu K c u) D 0 [(0, .ref (bo X + pp 107)), (1, .int x1), (2, .int x2)] [] := by
  unfold f_X9_mapped at h
  refine v_aload_n (pc := 0) O dX9_mapped_0 0 rfl ?_
  refine v_iload_n (pc := 1) O dX9_mapped_1 1 rfl ?_
  obtain ⟨p1, e2, h⟩ := bind_some h
  refine v_callV (pc := 2) (a := 107) (As := [.int x1]) (rest := []) (r := (some (.int p1.1))) (D' := p1.2) O (bb0 hz) (c_X9_hasHeight hm e2) mw_X9_hasHeight im_X9_hasHeight se_X9_hasHeight ml_X9_70 kq_107 (by decide) rfl rfl rfl (by decide) (by decide) (Nat.le_of_ble_eq_true rfl) dX9_mapped_2 rfl rfl ?_
  refine v_ifne (pc := 5) 11 O dX9_mapped_5 (by decide) (fun c3 => ?_) (fun c3 => ?_)
  · have h := (if_neg c3).symm.trans h
    refine v_iload_n (pc := 11) O dX9_mapped_11 2 rfl ?_
    refine v_bipush (pc := 12) O dX9_mapped_12 bp_26 ?_
    refine v_icmpge (pc := 14) 31 O dX9_mapped_14 (by decide) (fun c4 => ?_) (fun c4 => ?_)
    · have h := (if_pos c4).symm.trans h
      refine v_iload_n (pc := 31) O dX9_mapped_31 2 rfl ?_
      refine v_bipush (pc := 32) O dX9_mapped_32 bp_26 ?_
      refine v_icmpne (pc := 34) 51 O dX9_mapped_34 (by decide) (fun c5 => ?_) (fun c5 => ?_)
      · have h := (if_neg c5).symm.trans h
        refine v_iload_n (pc := 51) O dX9_mapped_51 2 rfl ?_
        refine v_bipush (pc := 52) O dX9_mapped_52 bp_27 ?_
        refine v_icmpne (pc := 54) 64 O dX9_mapped_54 (by decide) (fun c6 => ?_) (fun c6 => ?_)
        · have h := (if_neg c6).symm.trans h
          refine v_iload_n (pc := 64) O dX9_mapped_64 2 rfl ?_
          refine v_bipush (pc := 65) O dX9_mapped_65 bp_26 ?_
          refine v_isub (pc := 67) O dX9_mapped_67 ?_
          refine v_iconst (pc := 68) O dX9_mapped_68 ic_2 ?_
          refine v_isub (pc := 69) O dX9_mapped_69 ?_
          refine v_istore_n (pc := 70) (lv' := [(3, .int ((x2 - (26 : Int32)) - (2 : Int32))), (0, .ref (bo X + pp 107)), (1, .int x1), (2, .int x2)]) O dX9_mapped_70 rfl (by rw [hn]; decide) rfl ?_
          refine v_iload_n (pc := 71) O dX9_mapped_71 0 rfl ?_
          refine v_aload_n (pc := 72) O dX9_mapped_72 1 rfl ?_
          refine v_getK (pc := 73) (a := 107) O hm gf_X9_4 fl_X9_18 kq_107 lk_107_4 dX9_mapped_73 ?_
          refine v_iload_n (pc := 76) O dX9_mapped_76 2 rfl ?_
          obtain ⟨c7, h⟩ := or_none h
          refine v_iald (pc := 77) (a := 113) O kq_113 (inq lq_113 c7) dX9_mapped_77 ?_
          refine v_icmpge (pc := 78) 100 O dX9_mapped_78 (by decide) (fun c8 => ?_) (fun c8 => ?_)
          · have h := (if_pos c8).symm.trans h
            refine v_iconst (pc := 100) O dX9_mapped_100 ic_m1 ?_
            refine v_sub [] rfl ?_
            exact w_X9_mapped_b101 O hm hn hz (-1) p1.2 h
          · have h := (if_neg c8).symm.trans h
            refine v_aload_n (pc := 81) O dX9_mapped_81 1 rfl ?_
            refine v_getK (pc := 82) (a := 107) O hm gf_X9_0 fl_X9_33 kq_107 lk_107_0 dX9_mapped_82 ?_
            refine v_aload_n (pc := 85) O dX9_mapped_85 1 rfl ?_
            refine v_iload_n (pc := 86) O dX9_mapped_86 2 rfl ?_
            refine v_bipush (pc := 87) O dX9_mapped_87 bp_26 ?_
            refine v_iload_n (pc := 89) O dX9_mapped_89 0 rfl ?_
            refine v_iadd (pc := 90) O dX9_mapped_90 ?_
            obtain ⟨p9, e10, h⟩ := bind_some h
            refine v_callV (pc := 91) (a := 107) (As := [.int x1, .int ((26 : Int32) + ((x2 - (26 : Int32)) - (2 : Int32)))]) (rest := [.ref (bo X + pp 1)]) (r := (some (.int p9.1))) (D' := p9.2) O (bb0 hz) (c_X9_heldAt hm e10) mw_X9_heldAt im_X9_heldAt se_X9_heldAt ml_X9_74 kq_107 (by decide) rfl rfl rfl (by decide) (by decide) (Nat.le_of_ble_eq_true rfl) dX9_mapped_91 rfl rfl ?_
            obtain ⟨p11, e12, h⟩ := bind_some h
            refine v_callV (pc := 94) (a := 1) (As := [.int p9.1]) (rest := []) (r := (some (.int p11.1))) (D' := p11.2) O (bb0 hz) (c_X2_labelOf hm e12) mw_X2_labelOf im_X2_labelOf se_X2_labelOf ml_X9_78 kq_1 (by decide) rfl rfl rfl (by decide) (by decide) (Nat.le_of_ble_eq_true rfl) dX9_mapped_94 rfl rfl ?_
            refine v_goto (pc := 97) 101 O dX9_mapped_97 (by decide) ?_
            refine v_sub [] rfl ?_
            exact w_X9_mapped_b101 O hm hn hz p11.1 p11.2 h
        · have h := (if_pos c6).symm.trans h
          refine v_aload_n (pc := 57) O dX9_mapped_57 0 rfl ?_
          refine v_getK (pc := 58) (a := 107) O hm gf_X9_4 fl_X9_18 kq_107 lk_107_4 dX9_mapped_58 ?_
          refine v_iload_n (pc := 61) O dX9_mapped_61 1 rfl ?_
          obtain ⟨c13, h⟩ := or_none h
          refine v_iald (pc := 62) (a := 113) O kq_113 (inq lq_113 c13) dX9_mapped_62 ?_
          obtain rfl := Option.some.inj h
          exact v_iret (pc := 63) O hz dX9_mapped_63
      · have h := (if_pos c5).symm.trans h
        refine v_aload_n (pc := 37) O dX9_mapped_37 0 rfl ?_
        refine v_getK (pc := 38) (a := 107) O hm gf_X9_0 fl_X9_33 kq_107 lk_107_0 dX9_mapped_38 ?_
        refine v_aload_n (pc := 41) O dX9_mapped_41 0 rfl ?_
        refine v_getK (pc := 42) (a := 107) O hm gf_X9_6 fl_X9_22 kq_107 lk_107_6 dX9_mapped_42 ?_
        refine v_iload_n (pc := 45) O dX9_mapped_45 1 rfl ?_
        obtain ⟨c14, h⟩ := or_none h
        refine v_iald (pc := 46) (a := 114) O kq_114 (inq lq_114 c14) dX9_mapped_46 ?_
        obtain ⟨p15, e16, h⟩ := bind_some h
        refine v_callV (pc := 47) (a := 1) (As := [.int (dI p1.2 114 (x1).toNatClampNeg)]) (rest := []) (r := (some (.int p15.1))) (D' := p15.2) O (bb0 hz) (c_X2_labelOf hm e16) mw_X2_labelOf im_X2_labelOf se_X2_labelOf ml_X9_78 kq_1 (by decide) rfl rfl rfl (by decide) (by decide) (Nat.le_of_ble_eq_true rfl) dX9_mapped_47 rfl rfl ?_
        obtain rfl := Option.some.inj h
        exact v_iret (pc := 50) O hz dX9_mapped_50
    · have h := (if_neg c4).symm.trans h
      refine v_aload_n (pc := 17) O dX9_mapped_17 0 rfl ?_
      refine v_getK (pc := 18) (a := 107) O hm gf_X9_0 fl_X9_33 kq_107 lk_107_0 dX9_mapped_18 ?_
      refine v_aload_n (pc := 21) O dX9_mapped_21 0 rfl ?_
      refine v_iload_n (pc := 22) O dX9_mapped_22 1 rfl ?_
      refine v_iload_n (pc := 23) O dX9_mapped_23 2 rfl ?_
      obtain ⟨p17, e18, h⟩ := bind_some h
      refine v_callV (pc := 24) (a := 107) (As := [.int x1, .int x2]) (rest := [.ref (bo X + pp 1)]) (r := (some (.int p17.1))) (D' := p17.2) O (bb0 hz) (c_X9_heldAt hm e18) mw_X9_heldAt im_X9_heldAt se_X9_heldAt ml_X9_74 kq_107 (by decide) rfl rfl rfl (by decide) (by decide) (Nat.le_of_ble_eq_true rfl) dX9_mapped_24 rfl rfl ?_
      obtain ⟨p19, e20, h⟩ := bind_some h
      refine v_callV (pc := 27) (a := 1) (As := [.int p17.1]) (rest := []) (r := (some (.int p19.1))) (D' := p19.2) O (bb0 hz) (c_X2_labelOf hm e20) mw_X2_labelOf im_X2_labelOf se_X2_labelOf ml_X9_78 kq_1 (by decide) rfl rfl rfl (by decide) (by decide) (Nat.le_of_ble_eq_true rfl) dX9_mapped_27 rfl rfl ?_
      obtain rfl := Option.some.inj h
      exact v_iret (pc := 30) O hz dX9_mapped_30
  · have h := (if_pos c3).symm.trans h
    refine v_bipush (pc := 8) O dX9_mapped_8 bp_m2 ?_
    obtain rfl := Option.some.inj h
    exact v_iret (pc := 10) O hz dX9_mapped_10
theorem c_X9_mapped {l : Launch} {w : Wx} {n nu c u : Nat} {K : Nat → Nat} {N : Nat} (hm : wlm w = true) {x1 : Int32} {x2 : Int32} {D : Dat} {z : Int32 × Dat} (h : f_X9_mapped N nu K x1 x2 D = some z) : C0 l w yX9_mapped cX9_mapped 4 (some .int) 3 64 [.ref (wb w + pp 107), .int x1, .int x2] n (Ax nu K c u) D (some (.int z.1)) z.2 :=
  C0.of (by decide) (Nat.le_of_ble_eq_true rfl) (fun X e1 e2 e3 hz O => by
  subst e1
  subst e2
  exact w_X9_mapped O hm e3 hz x1 x2 D h)
def f_X9_argumentsFit_b2 (N : Nat) : Nat → Int32 → Dat → Option (Int32 × Dat)
  | 0, _, _ => none
  | g + 1, x1, D => ((dR D 107 2)).bind (fun a1 => if a1 = 201 ∨ a1 = 204 then ((f_X0_size a1 D).bind (fun p4 => if p4.1 ≤ x1 then (some (1, p4.2)) else (((dR p4.2 107 2)).bind (fun a7 => if a7 = 201 ∨ a7 = 204 then ((f_X0_operation a7 x1 p4.2).bind (fun p10 => ((dR p10.2 107 2)).bind (fun a12 => if a12 = 201 ∨ a12 = 204 then ((f_X0_argument a12 x1 p10.2).bind (fun p15 => (f_X9_argumentFits p10.1 p15.1 p15.2).bind (fun p17 => if p17.1 = 0 then ((f_X9_refuse x1 1 p17.2).bind (fun p20 => if p20.1 &&& 1 = p20.1 then some (p20.1, p20.2) else none)) else ((f_X9_argumentsFit_b2 N g) (x1 + 1) p17.2)))) else none))) else none)))) else none)
set_option maxHeartbeats 4000000 in
theorem w_X9_argumentsFit_b2 {X : Cx} {n nu c u : Nat} {K : Nat → Nat} {N : Nat} {z : Int32 × Dat} (O : Ok X cX9_argumentsFit RX9 (some .boolean) 2 43) (hm : wlm (xw X) = true) (hn : xn X = 2) (hz : Z0 X (Ax nu K c u)) : ∀ (g : Nat) (x1 : Int32) (D : Dat), f_X9_argumentsFit_b2 N g x1 D = some z → V X (Q0 X n (Ax nu K c u) (some (.int z.1)) z.2) n (Ax nu K c u) D 2 [(0, .ref (bo X + pp 107)), (1, .int x1)] [] := by
  intro g
  induction g with
  | zero => intro x1 D h; exact absurd h (by simp [f_X9_argumentsFit_b2])
  | succ g ih =>
    intro x1 D h
    rw [f_X9_argumentsFit_b2] at h
    refine v_iload_n (pc := 2) O dX9_argumentsFit_2 1 rfl ?_
    refine v_aload_n (pc := 3) O dX9_argumentsFit_3 0 rfl ?_
    refine v_getR (pc := 4) (a := 107) O gf_X9_2 fl_X9_83 kq_107 dX9_argumentsFit_4 ?_
    obtain ⟨a1, e2, h⟩ := bind_some h
    rw [e2]
    obtain ⟨c3, h⟩ := if_none h
    obtain ⟨p4, e5, h⟩ := bind_some h
    refine v_callV (pc := 7) (a := a1) (As := []) (rest := [.int x1]) (r := (some (.int p4.1))) (D' := p4.2) O (bb0 hz) (c_X0_size hm c3 e5) mw_X0_size im_X0_size se_X0_size ml_X9_110 (kt_X0 c3) (by decide) rfl rfl rfl (by decide) (by decide) (Nat.le_of_ble_eq_true rfl) dX9_argumentsFit_7 rfl rfl ?_
    refine v_icmpge (pc := 10) 49 O dX9_argumentsFit_10 (by decide) (fun c6 => ?_) (fun c6 => ?_)
    · have h := (if_pos c6).symm.trans h
      refine v_iconst (pc := 49) O dX9_argumentsFit_49 ic_1 ?_
      obtain rfl := Option.some.inj h
      exact v_zret (pc := 50) O hz narrow_b1 dX9_argumentsFit_50
    · have h := (if_neg c6).symm.trans h
      refine v_aload_n (pc := 13) O dX9_argumentsFit_13 0 rfl ?_
      refine v_aload_n (pc := 14) O dX9_argumentsFit_14 0 rfl ?_
      refine v_getR (pc := 15) (a := 107) O gf_X9_2 fl_X9_83 kq_107 dX9_argumentsFit_15 ?_
      refine v_iload_n (pc := 18) O dX9_argumentsFit_18 1 rfl ?_
      obtain ⟨a7, e8, h⟩ := bind_some h
      rw [e8]
      obtain ⟨c9, h⟩ := if_none h
      obtain ⟨p10, e11, h⟩ := bind_some h
      refine v_callV (pc := 19) (a := a7) (As := [.int x1]) (rest := [.ref (bo X + pp 107)]) (r := (some (.int p10.1))) (D' := p10.2) O (bb0 hz) (c_X0_operation hm c9 e11) mw_X0_operation im_X0_operation se_X0_operation ml_X9_116 (kt_X0 c9) (by decide) rfl rfl rfl (by decide) (by decide) (Nat.le_of_ble_eq_true rfl) dX9_argumentsFit_19 rfl rfl ?_
      refine v_aload_n (pc := 22) O dX9_argumentsFit_22 0 rfl ?_
      refine v_getR (pc := 23) (a := 107) O gf_X9_2 fl_X9_83 kq_107 dX9_argumentsFit_23 ?_
      refine v_iload_n (pc := 26) O dX9_argumentsFit_26 1 rfl ?_
      obtain ⟨a12, e13, h⟩ := bind_some h
      rw [e13]
      obtain ⟨c14, h⟩ := if_none h
      obtain ⟨p15, e16, h⟩ := bind_some h
      refine v_callV (pc := 27) (a := a12) (As := [.int x1]) (rest := [.int p10.1, .ref (bo X + pp 107)]) (r := (some (.int p15.1))) (D' := p15.2) O (bb0 hz) (c_X0_argument hm c14 e16) mw_X0_argument im_X0_argument se_X0_argument ml_X9_119 (kt_X0 c14) (by decide) rfl rfl rfl (by decide) (by decide) (Nat.le_of_ble_eq_true rfl) dX9_argumentsFit_27 rfl rfl ?_
      obtain ⟨p17, e18, h⟩ := bind_some h
      refine v_callV (pc := 30) (a := 107) (As := [.int p10.1, .int p15.1]) (rest := []) (r := (some (.int p17.1))) (D' := p17.2) O (bb0 hz) (c_X9_argumentFits hm e18) mw_X9_argumentFits im_X9_argumentFits se_X9_argumentFits ml_X9_122 kq_107 (by decide) rfl rfl rfl (by decide) (by decide) (Nat.le_of_ble_eq_true rfl) dX9_argumentsFit_30 rfl rfl ?_
      refine v_ifne (pc := 33) 43 O dX9_argumentsFit_33 (by decide) (fun c19 => ?_) (fun c19 => ?_)
      · have h := (if_neg c19).symm.trans h
        refine v_iinc (pc := 43) (lv' := [(1, .int (x1 + 1)), (0, .ref (bo X + pp 107))]) O dX9_argumentsFit_43 1 rfl (congrArg (fun q => x1 + q) ic_1) (by rw [hn]; decide) rfl ?_
        refine v_goto (pc := 46) 2 O dX9_argumentsFit_46 (by decide) ?_
        refine v_sub [1, 0] rfl ?_
        exact ih (x1 + 1) p17.2 h
      · have h := (if_pos c19).symm.trans h
        refine v_aload_n (pc := 36) O dX9_argumentsFit_36 0 rfl ?_
        refine v_iload_n (pc := 37) O dX9_argumentsFit_37 1 rfl ?_
        refine v_iconst (pc := 38) O dX9_argumentsFit_38 ic_1 ?_
        obtain ⟨p20, e21, h⟩ := bind_some h
        refine v_callV (pc := 39) (a := 107) (As := [.int x1, .int 1]) (rest := []) (r := (some (.int p20.1))) (D' := p20.2) O (bb0 hz) (c_X9_refuse hm e21) mw_X9_refuse im_X9_refuse se_X9_refuse ml_X9_125 kq_107 (by decide) rfl rfl rfl (by decide) (by decide) (Nat.le_of_ble_eq_true rfl) dX9_argumentsFit_39 rfl rfl ?_
        obtain ⟨c22, h⟩ := if_none h
        obtain rfl := Option.some.inj h
        exact v_zret (pc := 42) O hz (congrArg Value.int c22) dX9_argumentsFit_42
def f_X9_argumentsFit (N : Nat) (D : Dat) : Option (Int32 × Dat) :=
  f_X9_argumentsFit_b2 N N 0 D
set_option maxHeartbeats 4000000 in
theorem w_X9_argumentsFit {X : Cx} {n nu c u : Nat} {K : Nat → Nat} {N : Nat} {z : Int32 × Dat} (O : Ok X cX9_argumentsFit RX9 (some .boolean) 2 43) (hm : wlm (xw X) = true) (hn : xn X = 2) (hz : Z0 X (Ax nu K c u)) (D : Dat) (h : f_X9_argumentsFit N D = some z) : V X (Q0 X n (Ax nu K c u) (some (.int z.1)) z.2) n (Ax nu K c u) D 0 [(0, .ref (bo X + pp 107))] [] := by
  unfold f_X9_argumentsFit at h
  refine v_iconst (pc := 0) O dX9_argumentsFit_0 ic_0 ?_
  refine v_istore_n (pc := 1) (lv' := [(1, .int 0), (0, .ref (bo X + pp 107))]) O dX9_argumentsFit_1 rfl (by rw [hn]; decide) rfl ?_
  refine v_sub [1, 0] rfl ?_
  exact w_X9_argumentsFit_b2 O hm hn hz N 0 D h
theorem c_X9_argumentsFit {l : Launch} {w : Wx} {n nu c u : Nat} {K : Nat → Nat} {N : Nat} (hm : wlm w = true) {D : Dat} {z : Int32 × Dat} (h : f_X9_argumentsFit N D = some z) : C0 l w yX9_argumentsFit cX9_argumentsFit 2 (some .boolean) 2 43 [.ref (wb w + pp 107)] n (Ax nu K c u) D (some (.int z.1)) z.2 :=
  C0.of (by decide) (Nat.le_of_ble_eq_true rfl) (fun X e1 e2 e3 hz O => by
  subst e1
  subst e2
  exact w_X9_argumentsFit O hm e3 hz  D h)
