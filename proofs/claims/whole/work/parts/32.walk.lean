theorem cw_X12_fuelled : Cond.code yX12_fuelled cX12_fuelled 2 (some .boolean) ∈ tb := tb_of 2331 (by decide +kernel) (by decide +kernel)
theorem mw_X12_fuelled : MW yX12_fuelled cX12_fuelled 2 (some .boolean) 1 := ⟨cw_X12_fuelled, ini_X12, by decide +kernel⟩
theorem im_X12_fuelled : Cond.instanceMethod yX12_fuelled ∈ tb := tb_of 2330 (by decide +kernel) (by decide +kernel)
theorem se_X12_fuelled : Cond.selects (yX12_fuelled).cls yX12_fuelled yX12_fuelled ∈ tb := tb_of 155 (by decide +kernel) (by decide +kernel)
theorem ml_X12_505 : Cond.methodLink RX12 505 yX12_fuelled ∈ tb := tb_of 2328 (by decide +kernel) (by decide +kernel)
theorem ml_X0_36 : Cond.methodLink RX0 36 yX0_argument ∈ tb := tb_of 1370 (by decide +kernel) (by decide +kernel)
theorem cw_X12_step : Cond.code yX12_step cX12_step 5 (some .int) ∈ tb := tb_of 2335 (by decide +kernel) (by decide +kernel)
theorem mw_X12_step : MW yX12_step cX12_step 5 (some .int) 1 := ⟨cw_X12_step, ini_X12, by decide +kernel⟩
theorem im_X12_step : Cond.instanceMethod yX12_step ∈ tb := tb_of 2334 (by decide +kernel) (by decide +kernel)
theorem se_X12_step : Cond.selects (yX12_step).cls yX12_step yX12_step ∈ tb := tb_of 156 (by decide +kernel) (by decide +kernel)
theorem ml_X12_508 : Cond.methodLink RX12 508 yX12_step ∈ tb := tb_of 2332 (by decide +kernel) (by decide +kernel)
theorem cw_X2_isLeastAbove : Cond.code yX2_isLeastAbove cX2_isLeastAbove 5 (some .boolean) ∈ tb := tb_of 701 (by decide +kernel) (by decide +kernel)
theorem mw_X2_isLeastAbove : MW yX2_isLeastAbove cX2_isLeastAbove 5 (some .boolean) 3 := ⟨cw_X2_isLeastAbove, ini_X2, by decide +kernel⟩
theorem im_X2_isLeastAbove : Cond.instanceMethod yX2_isLeastAbove ∈ tb := tb_of 700 (by decide +kernel) (by decide +kernel)
theorem se_X2_isLeastAbove : Cond.selects (yX2_isLeastAbove).cls yX2_isLeastAbove yX2_isLeastAbove ∈ tb := tb_of 2 (by decide +kernel) (by decide +kernel)
theorem ml_X2_40 : Cond.methodLink RX2 40 yX2_isLeastAbove ∈ tb := tb_of 698 (by decide +kernel) (by decide +kernel)
theorem cw_X2_isGreatestUnder : Cond.code yX2_isGreatestUnder cX2_isGreatestUnder 5 (some .boolean) ∈ tb := tb_of 709 (by decide +kernel) (by decide +kernel)
theorem mw_X2_isGreatestUnder : MW yX2_isGreatestUnder cX2_isGreatestUnder 5 (some .boolean) 3 := ⟨cw_X2_isGreatestUnder, ini_X2, by decide +kernel⟩
theorem im_X2_isGreatestUnder : Cond.instanceMethod yX2_isGreatestUnder ∈ tb := tb_of 708 (by decide +kernel) (by decide +kernel)
theorem se_X2_isGreatestUnder : Cond.selects (yX2_isGreatestUnder).cls yX2_isGreatestUnder yX2_isGreatestUnder ∈ tb := tb_of 3 (by decide +kernel) (by decide +kernel)
theorem ml_X2_44 : Cond.methodLink RX2 44 yX2_isGreatestUnder ∈ tb := tb_of 706 (by decide +kernel) (by decide +kernel)
theorem cw_X2_join : Cond.code yX2_join cX2_join 4 (some .int) ∈ tb := tb_of 697 (by decide +kernel) (by decide +kernel)
theorem mw_X2_join : MW yX2_join cX2_join 4 (some .int) 2 := ⟨cw_X2_join, ini_X2, by decide +kernel⟩
theorem im_X2_join : Cond.instanceMethod yX2_join ∈ tb := tb_of 695 (by decide +kernel) (by decide +kernel)
theorem se_X2_join : Cond.selects (yX2_join).cls yX2_join yX2_join ∈ tb := tb_of 696 (by decide +kernel) (by decide +kernel)
theorem ml_X2_47 : Cond.methodLink RX2 47 yX2_join ∈ tb := tb_of 694 (by decide +kernel) (by decide +kernel)
theorem cw_X2_meet : Cond.code yX2_meet cX2_meet 4 (some .int) ∈ tb := tb_of 705 (by decide +kernel) (by decide +kernel)
theorem mw_X2_meet : MW yX2_meet cX2_meet 4 (some .int) 2 := ⟨cw_X2_meet, ini_X2, by decide +kernel⟩
theorem im_X2_meet : Cond.instanceMethod yX2_meet ∈ tb := tb_of 703 (by decide +kernel) (by decide +kernel)
theorem se_X2_meet : Cond.selects (yX2_meet).cls yX2_meet yX2_meet ∈ tb := tb_of 704 (by decide +kernel) (by decide +kernel)
theorem ml_X2_51 : Cond.methodLink RX2 51 yX2_meet ∈ tb := tb_of 702 (by decide +kernel) (by decide +kernel)
theorem nl_X0_39 : (RX0, 39, yX11_bit) ∈ nestl := by decide +kernel
theorem ini_X11 : Cond.initialized RX11 ∈ tb := tb_of 160 (by decide +kernel) (by decide +kernel)
theorem cw_X11_bit : Cond.code yX11_bit cX11_bit 1 (some .long) ∈ tb := tb_of 1334 (by decide +kernel) (by decide +kernel)
theorem mw_X11_bit : MW yX11_bit cX11_bit 1 (some .long) 1 := ⟨cw_X11_bit, ini_X11, by decide +kernel⟩
theorem sm_X11_bit : Cond.static yX11_bit ∈ tb := tb_of 1333 (by decide +kernel) (by decide +kernel)
theorem nl_X3_115 : (RX3, 115, yX11_asNumber) ∈ nestl := by decide +kernel
theorem cw_X11_asNumber : Cond.code yX11_asNumber cX11_asNumber 1 (some .int) ∈ tb := tb_of 747 (by decide +kernel) (by decide +kernel)
theorem mw_X11_asNumber : MW yX11_asNumber cX11_asNumber 1 (some .int) 1 := ⟨cw_X11_asNumber, ini_X11, by decide +kernel⟩
theorem sm_X11_asNumber : Cond.static yX11_asNumber ∈ tb := tb_of 746 (by decide +kernel) (by decide +kernel)
def f_X12_walk_b17 (N : Nat) (D : Dat) : Option (Int32 × Dat) :=
  (f_X12_fail 1 D).bind (fun p1 => some (p1.1, p1.2))
set_option maxHeartbeats 4000000 in
theorem w_X12_walk_b17 {X : Cx} {n nu c u : Nat} {K : Nat → Nat} {N : Nat} {z : Int32 × Dat} (O : Ok X cX12_walk RX12 (some .int) 6 135) (hm : wlm (xw X) = true) (hn : xn X = 3) (hz : Z0 X (Ax nu K c u)) (D : Dat) (h : f_X12_walk_b17 N D = some z) : V X (Q0 X n (Ax nu K c u) (some (.int z.1)) z.2) n (Ax nu K c u) D 17 [(0, .ref (bo X + pp 207))] [] := by
  unfold f_X12_walk_b17 at h
  refine v_aload_n (pc := 17) O dX12_walk_17 0 rfl ?_
  refine v_iconst (pc := 18) O dX12_walk_18 ic_1 ?_
  obtain ⟨p1, e2, h⟩ := bind_some h
  refine v_callV (pc := 19) (a := 207) (As := [.int 1]) (rest := []) (r := (some (.int p1.1))) (D' := p1.2) O (bb0 hz) (c_X12_fail hm e2) mw_X12_fail im_X12_fail se_X12_fail ml_X12_190 kq_207 (by decide) rfl rfl rfl (by decide) (by decide) (Nat.le_of_ble_eq_true rfl) dX12_walk_19 rfl rfl ?_
  obtain rfl := Option.some.inj h
  exact v_iret (pc := 22) O hz dX12_walk_22
def f_X12_walk_b142 (N : Nat) (rec_55 : Int32 → Int32 → Dat → Option (Int32 × Dat)) (x1 : Int32) (x2 : Int32) (D : Dat) : Option (Int32 × Dat) :=
  rec_55 x1 x2 D
set_option maxHeartbeats 4000000 in
theorem w_X12_walk_b142 {X : Cx} {n nu c u : Nat} {K : Nat → Nat} {N : Nat} {rec_55 : Int32 → Int32 → Dat → Option (Int32 × Dat)} {z : Int32 × Dat} (O : Ok X cX12_walk RX12 (some .int) 6 135) (hm : wlm (xw X) = true) (hn : xn X = 3) (hz : Z0 X (Ax nu K c u)) (hrec_55 : ∀ (x1 : Int32) (x2 : Int32) (D : Dat), rec_55 x1 x2 D = some z → V X (Q0 X n (Ax nu K c u) (some (.int z.1)) z.2) n (Ax nu K c u) D 55 [(0, .ref (bo X + pp 207)), (1, .int x1), (2, .int x2)] []) (x1 : Int32) (x2 : Int32) (D : Dat) (h : f_X12_walk_b142 N rec_55 x1 x2 D = some z) : V X (Q0 X n (Ax nu K c u) (some (.int z.1)) z.2) n (Ax nu K c u) D 142 [(0, .ref (bo X + pp 207)), (1, .int x1), (2, .int x2)] [] := by
  unfold f_X12_walk_b142 at h
  refine v_goto (pc := 142) 55 O dX12_walk_142 (by decide) ?_
  refine v_sub [0, 1, 2] rfl ?_
  exact hrec_55 x1 x2 D h
def f_X12_walk_b81 (N : Nat) (rec_55 : Int32 → Int32 → Dat → Option (Int32 × Dat)) (x1 : Int32) (x2 : Int32) (D : Dat) : Option (Int32 × Dat) :=
  if x2 < 0 then (if (dI (sI D 207 55 ((dI D 207 55) - (1 : Int32))) 207 55) < 0 ∨ 300 ≤ ((dI (sI D 207 55 ((dI D 207 55) - (1 : Int32))) 207 55)).toNatClampNeg then none else (if (dI (sI D 207 55 ((dI D 207 55) - (1 : Int32))) 207 55) < 0 ∨ 300 ≤ ((dI (sI D 207 55 ((dI D 207 55) - (1 : Int32))) 207 55)).toNatClampNeg then none else (if (dI (sI D 207 55 ((dI D 207 55) - (1 : Int32))) 238 (dI (sI D 207 55 ((dI D 207 55) - (1 : Int32))) 207 55).toNatClampNeg) = 4 then ((f_X12_fuelled x1 (sI D 207 55 ((dI D 207 55) - (1 : Int32)))).bind (fun p7 => if p7.1 = 0 then (rec_55 x1 (dI (sI D 207 55 ((dI D 207 55) - (1 : Int32))) 239 (dI (sI D 207 55 ((dI D 207 55) - (1 : Int32))) 207 55).toNatClampNeg) p7.2) else ((f_X12_round N (dI (sI D 207 55 ((dI D 207 55) - (1 : Int32))) 239 (dI (sI D 207 55 ((dI D 207 55) - (1 : Int32))) 207 55).toNatClampNeg) p7.2).bind (fun p10 => rec_55 x1 p10.1 p10.2)))) else (if (dI (sI D 207 55 ((dI D 207 55) - (1 : Int32))) 239 (dI (sI D 207 55 ((dI D 207 55) - (1 : Int32))) 207 55).toNatClampNeg) < 0 ∨ 128 ≤ ((dI (sI D 207 55 ((dI D 207 55) - (1 : Int32))) 239 (dI (sI D 207 55 ((dI D 207 55) - (1 : Int32))) 207 55).toNatClampNeg)).toNatClampNeg then none else (f_X12_walk_b142 N rec_55 x1 (dI (sI D 207 55 ((dI D 207 55) - (1 : Int32))) 224 (dI (sI D 207 55 ((dI D 207 55) - (1 : Int32))) 239 (dI (sI D 207 55 ((dI D 207 55) - (1 : Int32))) 207 55).toNatClampNeg).toNatClampNeg) (sI D 207 55 ((dI D 207 55) - (1 : Int32)))))))) else ((f_X12_fuelled x1 D).bind (fun p13 => if p13.1 = 0 then (rec_55 x1 x2 p13.2) else ((f_X12_step N x2 p13.2).bind (fun p16 => rec_55 x1 p16.1 p16.2))))
set_option maxHeartbeats 4000000 in
theorem w_X12_walk_b81 {X : Cx} {n nu c u : Nat} {K : Nat → Nat} {N : Nat} {rec_55 : Int32 → Int32 → Dat → Option (Int32 × Dat)} {z : Int32 × Dat} (O : Ok X cX12_walk RX12 (some .int) 6 135) (hm : wlm (xw X) = true) (hn : xn X = 3) (hz : Z0 X (Ax nu K c u)) (hrec_55 : ∀ (x1 : Int32) (x2 : Int32) (D : Dat), rec_55 x1 x2 D = some z → V X (Q0 X n (Ax nu K c u) (some (.int z.1)) z.2) n (Ax nu K c u) D 55 [(0, .ref (bo X + pp 207)), (1, .int x1), (2, .int x2)] []) (x1 : Int32) (x2 : Int32) (D : Dat) (h : f_X12_walk_b81 N rec_55 x1 x2 D = some z) : V X (Q0 X n (Ax nu K c u) (some (.int z.1)) z.2) n (Ax nu K c u) D 81 [(0, .ref (bo X + pp 207)), (1, .int x1), (2, .int x2)] [] := by
  unfold f_X12_walk_b81 at h
  refine v_iload_n (pc := 81) O dX12_walk_81 2 rfl ?_
  refine v_iflt (pc := 82) 102 O dX12_walk_82 (by decide) (fun c3 => ?_) (fun c3 => ?_)
  · have h := (if_pos c3).symm.trans h
    refine v_aload_n (pc := 102) O dX12_walk_102 0 rfl ?_
    refine v_dup (pc := 103) O dX12_walk_103 rfl ?_
    refine v_getI (pc := 104) (a := 207) O gf_X12_55 fl_X12_351 kq_207 dX12_walk_104 ?_
    refine v_iconst (pc := 107) O dX12_walk_107 ic_1 ?_
    refine v_isub (pc := 108) O dX12_walk_108 ?_
    refine v_putI (pc := 109) (a := 207) O pf_X12_55 fl_X12_351 kq_207 dX12_walk_109 ?_
    refine v_aload_n (pc := 112) O dX12_walk_112 0 rfl ?_
    refine v_getK (pc := 113) (a := 207) O hm gf_X12_58 fl_X12_111 kq_207 lk_207_58 dX12_walk_113 ?_
    refine v_aload_n (pc := 116) O dX12_walk_116 0 rfl ?_
    refine v_getI (pc := 117) (a := 207) O gf_X12_55 fl_X12_351 kq_207 dX12_walk_117 ?_
    obtain ⟨c4, h⟩ := or_none h
    refine v_iald (pc := 120) (a := 239) O kq_239 (inq lq_239 c4) dX12_walk_120 ?_
    refine v_istore_n (pc := 121) (lv' := [(2, .int (dI (sI D 207 55 ((dI D 207 55) - (1 : Int32))) 239 (dI (sI D 207 55 ((dI D 207 55) - (1 : Int32))) 207 55).toNatClampNeg)), (0, .ref (bo X + pp 207)), (1, .int x1)]) O dX12_walk_121 rfl (by rw [hn]; decide) rfl ?_
    refine v_aload_n (pc := 122) O dX12_walk_122 1 rfl ?_
    refine v_getK (pc := 123) (a := 207) O hm gf_X12_57 fl_X12_108 kq_207 lk_207_57 dX12_walk_123 ?_
    refine v_aload_n (pc := 126) O dX12_walk_126 1 rfl ?_
    refine v_getI (pc := 127) (a := 207) O gf_X12_55 fl_X12_351 kq_207 dX12_walk_127 ?_
    obtain ⟨c5, h⟩ := or_none h
    refine v_iald (pc := 130) (a := 238) O kq_238 (inq lq_238 c5) dX12_walk_130 ?_
    refine v_iconst (pc := 131) O dX12_walk_131 ic_4 ?_
    refine v_icmpeq (pc := 132) 145 O dX12_walk_132 (by decide) (fun c6 => ?_) (fun c6 => ?_)
    · have h := (if_pos c6).symm.trans h
      refine v_aload_n (pc := 145) O dX12_walk_145 1 rfl ?_
      refine v_iload_n (pc := 146) O dX12_walk_146 2 rfl ?_
      obtain ⟨p7, e8, h⟩ := bind_some h
      refine v_callV (pc := 147) (a := 207) (As := [.int x1]) (rest := []) (r := (some (.int p7.1))) (D' := p7.2) O (bb0 hz) (c_X12_fuelled hm e8) mw_X12_fuelled im_X12_fuelled se_X12_fuelled ml_X12_505 kq_207 (by decide) rfl rfl rfl (by decide) (by decide) (Nat.le_of_ble_eq_true rfl) dX12_walk_147 rfl rfl ?_
      refine v_ifeq (pc := 150) 55 O dX12_walk_150 (by decide) (fun c9 => ?_) (fun c9 => ?_)
      · have h := (if_pos c9).symm.trans h
        refine v_sub [1, 2, 0] rfl ?_
        exact hrec_55 x1 (dI (sI D 207 55 ((dI D 207 55) - (1 : Int32))) 239 (dI (sI D 207 55 ((dI D 207 55) - (1 : Int32))) 207 55).toNatClampNeg) p7.2 h
      · have h := (if_neg c9).symm.trans h
        refine v_aload_n (pc := 153) O dX12_walk_153 1 rfl ?_
        refine v_iload_n (pc := 154) O dX12_walk_154 0 rfl ?_
        obtain ⟨p10, e11, h⟩ := bind_some h
        refine v_callV (pc := 155) (a := 207) (As := [.int (dI (sI D 207 55 ((dI D 207 55) - (1 : Int32))) 239 (dI (sI D 207 55 ((dI D 207 55) - (1 : Int32))) 207 55).toNatClampNeg)]) (rest := []) (r := (some (.int p10.1))) (D' := p10.2) O (bb0 hz) (c_X12_round hm e11) mw_X12_round im_X12_round se_X12_round ml_X12_502 kq_207 (by decide) rfl rfl rfl (by decide) (by decide) (Nat.le_of_ble_eq_true rfl) dX12_walk_155 rfl rfl ?_
        refine v_istore_n (pc := 158) (lv' := [(2, .int p10.1), (0, .ref (bo X + pp 207)), (1, .int x1)]) O dX12_walk_158 rfl (by rw [hn]; decide) rfl ?_
        refine v_goto (pc := 159) 55 O dX12_walk_159 (by decide) ?_
        refine v_sub [1, 2, 0] rfl ?_
        exact hrec_55 x1 p10.1 p10.2 h
    · have h := (if_neg c6).symm.trans h
      refine v_aload_n (pc := 135) O dX12_walk_135 1 rfl ?_
      refine v_getK (pc := 136) (a := 207) O hm gf_X12_28 fl_X12_66 kq_207 lk_207_28 dX12_walk_136 ?_
      refine v_iload_n (pc := 139) O dX12_walk_139 0 rfl ?_
      obtain ⟨c12, h⟩ := or_none h
      refine v_iald (pc := 140) (a := 224) O kq_224 (inq lq_224 c12) dX12_walk_140 ?_
      refine v_istore_n (pc := 141) (lv' := [(2, .int (dI (sI D 207 55 ((dI D 207 55) - (1 : Int32))) 224 (dI (sI D 207 55 ((dI D 207 55) - (1 : Int32))) 239 (dI (sI D 207 55 ((dI D 207 55) - (1 : Int32))) 207 55).toNatClampNeg).toNatClampNeg)), (0, .ref (bo X + pp 207)), (1, .int x1)]) O dX12_walk_141 rfl (by rw [hn]; decide) rfl ?_
      refine v_sub [1, 2, 0] rfl ?_
      exact w_X12_walk_b142 O hm hn hz hrec_55 x1 (dI (sI D 207 55 ((dI D 207 55) - (1 : Int32))) 224 (dI (sI D 207 55 ((dI D 207 55) - (1 : Int32))) 239 (dI (sI D 207 55 ((dI D 207 55) - (1 : Int32))) 207 55).toNatClampNeg).toNatClampNeg) (sI D 207 55 ((dI D 207 55) - (1 : Int32))) h
  · have h := (if_neg c3).symm.trans h
    refine v_aload_n (pc := 85) O dX12_walk_85 0 rfl ?_
    refine v_iload_n (pc := 86) O dX12_walk_86 1 rfl ?_
    obtain ⟨p13, e14, h⟩ := bind_some h
    refine v_callV (pc := 87) (a := 207) (As := [.int x1]) (rest := []) (r := (some (.int p13.1))) (D' := p13.2) O (bb0 hz) (c_X12_fuelled hm e14) mw_X12_fuelled im_X12_fuelled se_X12_fuelled ml_X12_505 kq_207 (by decide) rfl rfl rfl (by decide) (by decide) (Nat.le_of_ble_eq_true rfl) dX12_walk_87 rfl rfl ?_
    refine v_ifeq (pc := 90) 55 O dX12_walk_90 (by decide) (fun c15 => ?_) (fun c15 => ?_)
    · have h := (if_pos c15).symm.trans h
      refine v_sub [0, 1, 2] rfl ?_
      exact hrec_55 x1 x2 p13.2 h
    · have h := (if_neg c15).symm.trans h
      refine v_aload_n (pc := 93) O dX12_walk_93 0 rfl ?_
      refine v_iload_n (pc := 94) O dX12_walk_94 2 rfl ?_
      obtain ⟨p16, e17, h⟩ := bind_some h
      refine v_callV (pc := 95) (a := 207) (As := [.int x2]) (rest := []) (r := (some (.int p16.1))) (D' := p16.2) O (bb0 hz) (c_X12_step hm e17) mw_X12_step im_X12_step se_X12_step ml_X12_508 kq_207 (by decide) rfl rfl rfl (by decide) (by decide) (Nat.le_of_ble_eq_true rfl) dX12_walk_95 rfl rfl ?_
      refine v_istore_n (pc := 98) (lv' := [(2, .int p16.1), (0, .ref (bo X + pp 207)), (1, .int x1)]) O dX12_walk_98 rfl (by rw [hn]; decide) rfl ?_
      refine v_goto (pc := 99) 55 O dX12_walk_99 (by decide) ?_
      refine v_sub [1, 2, 0] rfl ?_
      exact hrec_55 x1 p16.1 p16.2 h
def f_X12_walk_b55 (N : Nat) : Nat → Int32 → Int32 → Dat → Option (Int32 × Dat)
  | 0, _, _, _ => none
  | g + 1, x1, x2, D => if 0 ≤ (dI D 207 84) then (some ((dI D 207 84), D)) else (if 0 ≤ x2 then (f_X12_walk_b81 N (f_X12_walk_b55 N g) x1 x2 D) else (if (dI D 207 55) = 0 then ((f_X12_walk_b55 N g) x1 x2 (sI D 207 84 0)) else (f_X12_walk_b81 N (f_X12_walk_b55 N g) x1 x2 D)))
set_option maxHeartbeats 4000000 in
theorem w_X12_walk_b55 {X : Cx} {n nu c u : Nat} {K : Nat → Nat} {N : Nat} {z : Int32 × Dat} (O : Ok X cX12_walk RX12 (some .int) 6 135) (hm : wlm (xw X) = true) (hn : xn X = 3) (hz : Z0 X (Ax nu K c u)) : ∀ (g : Nat) (x1 : Int32) (x2 : Int32) (D : Dat), f_X12_walk_b55 N g x1 x2 D = some z → V X (Q0 X n (Ax nu K c u) (some (.int z.1)) z.2) n (Ax nu K c u) D 55 [(0, .ref (bo X + pp 207)), (1, .int x1), (2, .int x2)] [] := by
  intro g
  induction g with
  | zero => intro x1 x2 D h; exact absurd h (by simp [f_X12_walk_b55])
  | succ g ih =>
    intro x1 x2 D h
    rw [f_X12_walk_b55] at h
    refine v_aload_n (pc := 55) O dX12_walk_55 0 rfl ?_
    refine v_getI (pc := 56) (a := 207) O gf_X12_84 fl_X12_475 kq_207 dX12_walk_56 ?_
    refine v_ifge (pc := 59) 162 O dX12_walk_59 (by decide) (fun c18 => ?_) (fun c18 => ?_)
    · have h := (if_pos c18).symm.trans h
      refine v_aload_n (pc := 162) O dX12_walk_162 0 rfl ?_
      refine v_getI (pc := 163) (a := 207) O gf_X12_84 fl_X12_475 kq_207 dX12_walk_163 ?_
      obtain rfl := Option.some.inj h
      exact v_iret (pc := 166) O hz dX12_walk_166
    · have h := (if_neg c18).symm.trans h
      refine v_iload_n (pc := 62) O dX12_walk_62 2 rfl ?_
      refine v_ifge (pc := 63) 81 O dX12_walk_63 (by decide) (fun c19 => ?_) (fun c19 => ?_)
      · have h := (if_pos c19).symm.trans h
        refine v_sub [0, 1, 2] rfl ?_
        exact w_X12_walk_b81 O hm hn hz ih x1 x2 D h
      · have h := (if_neg c19).symm.trans h
        refine v_aload_n (pc := 66) O dX12_walk_66 0 rfl ?_
        refine v_getI (pc := 67) (a := 207) O gf_X12_55 fl_X12_351 kq_207 dX12_walk_67 ?_
        refine v_ifne (pc := 70) 81 O dX12_walk_70 (by decide) (fun c20 => ?_) (fun c20 => ?_)
        · have h := (if_neg c20).symm.trans h
          refine v_sub [0, 1, 2] rfl ?_
          exact w_X12_walk_b81 O hm hn hz ih x1 x2 D h
        · have h := (if_pos c20).symm.trans h
          refine v_aload_n (pc := 73) O dX12_walk_73 0 rfl ?_
          refine v_iconst (pc := 74) O dX12_walk_74 ic_0 ?_
          refine v_putI (pc := 75) (a := 207) O pf_X12_84 fl_X12_475 kq_207 dX12_walk_75 ?_
          refine v_goto (pc := 78) 55 O dX12_walk_78 (by decide) ?_
          refine v_sub [0, 1, 2] rfl ?_
          exact ih x1 x2 (sI D 207 84 0) h
def f_X12_walk (N : Nat) (x1 : Int32) (D : Dat) : Option (Int32 × Dat) :=
  if x1 < 1 then (f_X12_walk_b17 N (sI D 207 0 0)) else (if x1 ≤ 600 then (if (dI (sI D 207 0 0) 207 18) = 0 then ((f_X12_fail 2 (sI D 207 0 0)).bind (fun p27 => some (p27.1, p27.2))) else ((f_X12_begin N (sI D 207 0 0)).bind (fun p24 => if (dI (sI p24 207 55 0) 207 19) < 0 ∨ 2 ≤ ((dI (sI p24 207 55 0) 207 19)).toNatClampNeg then none else (f_X12_walk_b55 N N x1 (dI (sI p24 207 55 0) 228 (dI (sI p24 207 55 0) 207 19).toNatClampNeg) (sI p24 207 55 0))))) else (f_X12_walk_b17 N (sI D 207 0 0)))
set_option maxHeartbeats 4000000 in
theorem w_X12_walk {X : Cx} {n nu c u : Nat} {K : Nat → Nat} {N : Nat} {z : Int32 × Dat} (O : Ok X cX12_walk RX12 (some .int) 6 135) (hm : wlm (xw X) = true) (hn : xn X = 3) (hz : Z0 X (Ax nu K c u)) (x1 : Int32) (D : Dat) (h : f_X12_walk N x1 D = some z) : V X (Q0 X n (Ax nu K c u) (some (.int z.1)) z.2) n (Ax nu K c u) D 0 [(0, .ref (bo X + pp 207)), (1, .int x1)] [] := by
  unfold f_X12_walk at h
  refine v_aload_n (pc := 0) O dX12_walk_0 0 rfl ?_
  refine v_iconst (pc := 1) O dX12_walk_1 ic_0 ?_
  refine v_putI (pc := 2) (a := 207) O pf_X12_0 fl_X12_183 kq_207 dX12_walk_2 ?_
  refine v_iload_n (pc := 5) O dX12_walk_5 1 rfl ?_
  refine v_iconst (pc := 6) O dX12_walk_6 ic_1 ?_
  refine v_icmplt (pc := 7) 17 O dX12_walk_7 (by decide) (fun c21 => ?_) (fun c21 => ?_)
  · have h := (if_pos c21).symm.trans h
    refine v_sub [0] rfl ?_
    exact w_X12_walk_b17 O hm hn hz (sI D 207 0 0) h
  · have h := (if_neg c21).symm.trans h
    refine v_iload_n (pc := 10) O dX12_walk_10 1 rfl ?_
    refine v_sipush (pc := 11) O dX12_walk_11 sp_600 ?_
    refine v_icmple (pc := 14) 23 O dX12_walk_14 (by decide) (fun c22 => ?_) (fun c22 => ?_)
    · have h := (if_pos c22).symm.trans h
      refine v_aload_n (pc := 23) O dX12_walk_23 0 rfl ?_
      refine v_getI (pc := 24) (a := 207) O gf_X12_18 fl_X12_332 kq_207 dX12_walk_24 ?_
      refine v_ifne (pc := 27) 36 O dX12_walk_27 (by decide) (fun c23 => ?_) (fun c23 => ?_)
      · have h := (if_neg c23).symm.trans h
        refine v_aload_n (pc := 36) O dX12_walk_36 0 rfl ?_
        obtain ⟨p24, e25, h⟩ := bind_some h
        refine v_callV (pc := 37) (a := 207) (As := []) (rest := []) (r := none) (D' := p24) O (bb0 hz) (c_X12_begin hm e25) mw_X12_begin im_X12_begin se_X12_begin ml_X12_493 kq_207 (by decide) rfl rfl rfl (by decide) (by decide) (Nat.le_of_ble_eq_true rfl) dX12_walk_37 rfl rfl ?_
        refine v_aload_n (pc := 40) O dX12_walk_40 0 rfl ?_
        refine v_iconst (pc := 41) O dX12_walk_41 ic_0 ?_
        refine v_putI (pc := 42) (a := 207) O pf_X12_55 fl_X12_351 kq_207 dX12_walk_42 ?_
        refine v_aload_n (pc := 45) O dX12_walk_45 0 rfl ?_
        refine v_getK (pc := 46) (a := 207) O hm gf_X12_32 fl_X12_78 kq_207 lk_207_32 dX12_walk_46 ?_
        refine v_aload_n (pc := 49) O dX12_walk_49 0 rfl ?_
        refine v_getI (pc := 50) (a := 207) O gf_X12_19 fl_X12_335 kq_207 dX12_walk_50 ?_
        obtain ⟨c26, h⟩ := or_none h
        refine v_iald (pc := 53) (a := 228) O kq_228 (inq lq_228 c26) dX12_walk_53 ?_
        refine v_istore_n (pc := 54) (lv' := [(2, .int (dI (sI p24 207 55 0) 228 (dI (sI p24 207 55 0) 207 19).toNatClampNeg)), (0, .ref (bo X + pp 207)), (1, .int x1)]) O dX12_walk_54 rfl (by rw [hn]; decide) rfl ?_
        refine v_sub [1, 2, 0] rfl ?_
        exact w_X12_walk_b55 O hm hn hz N x1 (dI (sI p24 207 55 0) 228 (dI (sI p24 207 55 0) 207 19).toNatClampNeg) (sI p24 207 55 0) h
      · have h := (if_pos c23).symm.trans h
        refine v_aload_n (pc := 30) O dX12_walk_30 0 rfl ?_
        refine v_iconst (pc := 31) O dX12_walk_31 ic_2 ?_
        obtain ⟨p27, e28, h⟩ := bind_some h
        refine v_callV (pc := 32) (a := 207) (As := [.int 2]) (rest := []) (r := (some (.int p27.1))) (D' := p27.2) O (bb0 hz) (c_X12_fail hm e28) mw_X12_fail im_X12_fail se_X12_fail ml_X12_190 kq_207 (by decide) rfl rfl rfl (by decide) (by decide) (Nat.le_of_ble_eq_true rfl) dX12_walk_32 rfl rfl ?_
        obtain rfl := Option.some.inj h
        exact v_iret (pc := 35) O hz dX12_walk_35
    · have h := (if_neg c22).symm.trans h
      refine v_sub [0] rfl ?_
      exact w_X12_walk_b17 O hm hn hz (sI D 207 0 0) h
theorem c_X12_walk {l : Launch} {w : Wx} {n nu c u : Nat} {K : Nat → Nat} {N : Nat} (hm : wlm w = true) {x1 : Int32} {D : Dat} {z : Int32 × Dat} (h : f_X12_walk N x1 D = some z) : C0 l w yX12_walk cX12_walk 3 (some .int) 6 135 [.ref (wb w + pp 207), .int x1] n (Ax nu K c u) D (some (.int z.1)) z.2 :=
  C0.of (by decide) (Nat.le_of_ble_eq_true rfl) (fun X e1 e2 e3 hz O => by
  subst e1
  subst e2
  exact w_X12_walk O hm e3 hz x1 D h)
def f_X2_join_b40 (N : Nat) (nu : Nat) (K : Nat → Nat) (rec_2 : Int32 → Int32 → Int32 → Dat → Option (Int32 × Dat)) (x1 : Int32) (x2 : Int32) (x3 : Int32) (D : Dat) : Option (Int32 × Dat) :=
  rec_2 x1 x2 (x3 + 1) D
set_option maxHeartbeats 4000000 in
theorem w_X2_join_b40 {X : Cx} {n nu c u : Nat} {K : Nat → Nat} {N : Nat} {rec_2 : Int32 → Int32 → Int32 → Dat → Option (Int32 × Dat)} {z : Int32 × Dat} (O : Ok X cX2_join RX2 (some .int) 3 67) (hm : wlm (xw X) = true) (hn : xn X = 4) (hz : Z0 X (Ax nu K c u)) (hrec_2 : ∀ (x1 : Int32) (x2 : Int32) (x3 : Int32) (D : Dat), rec_2 x1 x2 x3 D = some z → V X (Q0 X n (Ax nu K c u) (some (.int z.1)) z.2) n (Ax nu K c u) D 2 [(0, .ref (bo X + pp 1)), (1, .int x1), (2, .int x2), (3, .int x3)] []) (x1 : Int32) (x2 : Int32) (x3 : Int32) (D : Dat) (h : f_X2_join_b40 N nu K rec_2 x1 x2 x3 D = some z) : V X (Q0 X n (Ax nu K c u) (some (.int z.1)) z.2) n (Ax nu K c u) D 40 [(0, .ref (bo X + pp 1)), (1, .int x1), (2, .int x2), (3, .int x3)] [] := by
  unfold f_X2_join_b40 at h
  refine v_iinc (pc := 40) (lv' := [(3, .int (x3 + 1)), (0, .ref (bo X + pp 1)), (1, .int x1), (2, .int x2)]) O dX2_join_40 3 rfl (congrArg (fun q => x3 + q) ic_1) (by rw [hn]; decide) rfl ?_
  refine v_goto (pc := 43) 2 O dX2_join_43 (by decide) ?_
  refine v_sub [1, 2, 3, 0] rfl ?_
  exact hrec_2 x1 x2 (x3 + 1) D h
def f_X2_join_b2 (N : Nat) (nu : Nat) (K : Nat → Nat) : Nat → Int32 → Int32 → Int32 → Dat → Option (Int32 × Dat)
  | 0, _, _, _, _ => none
  | g + 1, x1, x2, x3, D => if (dI D 1 0) ≤ x3 then (some ((-1), D)) else ((f_X2_leads nu K x1 x3 D).bind (fun p2 => if p2.1 = 0 then (f_X2_join_b40 N nu K (f_X2_join_b2 N nu K g) x1 x2 x3 p2.2) else ((f_X2_leads nu K x2 x3 p2.2).bind (fun p5 => if p5.1 = 0 then (f_X2_join_b40 N nu K (f_X2_join_b2 N nu K g) x1 x2 x3 p5.2) else ((f_X2_isLeastAbove N nu K x3 x1 x2 p5.2).bind (fun p8 => if p8.1 = 0 then (f_X2_join_b40 N nu K (f_X2_join_b2 N nu K g) x1 x2 x3 p8.2) else (some (x3, p8.2))))))))
set_option maxHeartbeats 4000000 in
theorem w_X2_join_b2 {X : Cx} {n nu c u : Nat} {K : Nat → Nat} {N : Nat} {z : Int32 × Dat} (O : Ok X cX2_join RX2 (some .int) 3 67) (hm : wlm (xw X) = true) (hn : xn X = 4) (hz : Z0 X (Ax nu K c u)) : ∀ (g : Nat) (x1 : Int32) (x2 : Int32) (x3 : Int32) (D : Dat), f_X2_join_b2 N nu K g x1 x2 x3 D = some z → V X (Q0 X n (Ax nu K c u) (some (.int z.1)) z.2) n (Ax nu K c u) D 2 [(0, .ref (bo X + pp 1)), (1, .int x1), (2, .int x2), (3, .int x3)] [] := by
  intro g
  induction g with
  | zero => intro x1 x2 x3 D h; exact absurd h (by simp [f_X2_join_b2])
  | succ g ih =>
    intro x1 x2 x3 D h
    rw [f_X2_join_b2] at h
    refine v_iload_n (pc := 2) O dX2_join_2 3 rfl ?_
    refine v_aload_n (pc := 3) O dX2_join_3 0 rfl ?_
    refine v_getI (pc := 4) (a := 1) O gf_X2_0 fl_X2_9 kq_1 dX2_join_4 ?_
    refine v_icmpge (pc := 7) 46 O dX2_join_7 (by decide) (fun c1 => ?_) (fun c1 => ?_)
    · have h := (if_pos c1).symm.trans h
      refine v_iconst (pc := 46) O dX2_join_46 ic_m1 ?_
      obtain rfl := Option.some.inj h
      exact v_iret (pc := 47) O hz dX2_join_47
    · have h := (if_neg c1).symm.trans h
      refine v_aload_n (pc := 10) O dX2_join_10 0 rfl ?_
      refine v_iload_n (pc := 11) O dX2_join_11 1 rfl ?_
      refine v_iload_n (pc := 12) O dX2_join_12 3 rfl ?_
      obtain ⟨p2, e3, h⟩ := bind_some h
      refine v_callV (pc := 13) (a := 1) (As := [.int x1, .int x3]) (rest := []) (r := (some (.int p2.1))) (D' := p2.2) O (bb0 hz) (c_X2_leads hm e3) mw_X2_leads im_X2_leads se_X2_leads ml_X2_30 kq_1 (by decide) rfl rfl rfl (by decide) (by decide) (Nat.le_of_ble_eq_true rfl) dX2_join_13 rfl rfl ?_
      refine v_ifeq (pc := 16) 40 O dX2_join_16 (by decide) (fun c4 => ?_) (fun c4 => ?_)
      · have h := (if_pos c4).symm.trans h
        refine v_sub [0, 1, 2, 3] rfl ?_
        exact w_X2_join_b40 O hm hn hz ih x1 x2 x3 p2.2 h
      · have h := (if_neg c4).symm.trans h
        refine v_aload_n (pc := 19) O dX2_join_19 0 rfl ?_
        refine v_iload_n (pc := 20) O dX2_join_20 2 rfl ?_
        refine v_iload_n (pc := 21) O dX2_join_21 3 rfl ?_
        obtain ⟨p5, e6, h⟩ := bind_some h
        refine v_callV (pc := 22) (a := 1) (As := [.int x2, .int x3]) (rest := []) (r := (some (.int p5.1))) (D' := p5.2) O (bb0 hz) (c_X2_leads hm e6) mw_X2_leads im_X2_leads se_X2_leads ml_X2_30 kq_1 (by decide) rfl rfl rfl (by decide) (by decide) (Nat.le_of_ble_eq_true rfl) dX2_join_22 rfl rfl ?_
        refine v_ifeq (pc := 25) 40 O dX2_join_25 (by decide) (fun c7 => ?_) (fun c7 => ?_)
        · have h := (if_pos c7).symm.trans h
          refine v_sub [0, 1, 2, 3] rfl ?_
          exact w_X2_join_b40 O hm hn hz ih x1 x2 x3 p5.2 h
        · have h := (if_neg c7).symm.trans h
          refine v_aload_n (pc := 28) O dX2_join_28 0 rfl ?_
          refine v_iload_n (pc := 29) O dX2_join_29 3 rfl ?_
          refine v_iload_n (pc := 30) O dX2_join_30 1 rfl ?_
          refine v_iload_n (pc := 31) O dX2_join_31 2 rfl ?_
          obtain ⟨p8, e9, h⟩ := bind_some h
          refine v_callV (pc := 32) (a := 1) (As := [.int x3, .int x1, .int x2]) (rest := []) (r := (some (.int p8.1))) (D' := p8.2) O (bb0 hz) (c_X2_isLeastAbove hm e9) mw_X2_isLeastAbove im_X2_isLeastAbove se_X2_isLeastAbove ml_X2_40 kq_1 (by decide) rfl rfl rfl (by decide) (by decide) (Nat.le_of_ble_eq_true rfl) dX2_join_32 rfl rfl ?_
          refine v_ifeq (pc := 35) 40 O dX2_join_35 (by decide) (fun c10 => ?_) (fun c10 => ?_)
          · have h := (if_pos c10).symm.trans h
            refine v_sub [0, 1, 2, 3] rfl ?_
            exact w_X2_join_b40 O hm hn hz ih x1 x2 x3 p8.2 h
          · have h := (if_neg c10).symm.trans h
            refine v_iload_n (pc := 38) O dX2_join_38 3 rfl ?_
            obtain rfl := Option.some.inj h
            exact v_iret (pc := 39) O hz dX2_join_39
def f_X2_join (N : Nat) (nu : Nat) (K : Nat → Nat) (x1 : Int32) (x2 : Int32) (D : Dat) : Option (Int32 × Dat) :=
  f_X2_join_b2 N nu K N x1 x2 0 D
set_option maxHeartbeats 4000000 in
theorem w_X2_join {X : Cx} {n nu c u : Nat} {K : Nat → Nat} {N : Nat} {z : Int32 × Dat} (O : Ok X cX2_join RX2 (some .int) 3 67) (hm : wlm (xw X) = true) (hn : xn X = 4) (hz : Z0 X (Ax nu K c u)) (x1 : Int32) (x2 : Int32) (D : Dat) (h : f_X2_join N nu K x1 x2 D = some z) : V X (Q0 X n (Ax nu K c u) (some (.int z.1)) z.2) n (Ax nu K c u) D 0 [(0, .ref (bo X + pp 1)), (1, .int x1), (2, .int x2)] [] := by
  unfold f_X2_join at h
  refine v_iconst (pc := 0) O dX2_join_0 ic_0 ?_
  refine v_istore_n (pc := 1) (lv' := [(3, .int 0), (0, .ref (bo X + pp 1)), (1, .int x1), (2, .int x2)]) O dX2_join_1 rfl (by rw [hn]; decide) rfl ?_
  refine v_sub [1, 2, 3, 0] rfl ?_
  exact w_X2_join_b2 O hm hn hz N x1 x2 0 D h
theorem c_X2_join {l : Launch} {w : Wx} {n nu c u : Nat} {K : Nat → Nat} {N : Nat} (hm : wlm w = true) {x1 : Int32} {x2 : Int32} {D : Dat} {z : Int32 × Dat} (h : f_X2_join N nu K x1 x2 D = some z) : C0 l w yX2_join cX2_join 4 (some .int) 3 67 [.ref (wb w + pp 1), .int x1, .int x2] n (Ax nu K c u) D (some (.int z.1)) z.2 :=
  C0.of (by decide) (Nat.le_of_ble_eq_true rfl) (fun X e1 e2 e3 hz O => by
  subst e1
  subst e2
  exact w_X2_join O hm e3 hz x1 x2 D h)
def f_X2_meet_b40 (N : Nat) (nu : Nat) (K : Nat → Nat) (rec_2 : Int32 → Int32 → Int32 → Dat → Option (Int32 × Dat)) (x1 : Int32) (x2 : Int32) (x3 : Int32) (D : Dat) : Option (Int32 × Dat) :=
  rec_2 x1 x2 (x3 + 1) D
set_option maxHeartbeats 4000000 in
theorem w_X2_meet_b40 {X : Cx} {n nu c u : Nat} {K : Nat → Nat} {N : Nat} {rec_2 : Int32 → Int32 → Int32 → Dat → Option (Int32 × Dat)} {z : Int32 × Dat} (O : Ok X cX2_meet RX2 (some .int) 3 67) (hm : wlm (xw X) = true) (hn : xn X = 4) (hz : Z0 X (Ax nu K c u)) (hrec_2 : ∀ (x1 : Int32) (x2 : Int32) (x3 : Int32) (D : Dat), rec_2 x1 x2 x3 D = some z → V X (Q0 X n (Ax nu K c u) (some (.int z.1)) z.2) n (Ax nu K c u) D 2 [(0, .ref (bo X + pp 1)), (1, .int x1), (2, .int x2), (3, .int x3)] []) (x1 : Int32) (x2 : Int32) (x3 : Int32) (D : Dat) (h : f_X2_meet_b40 N nu K rec_2 x1 x2 x3 D = some z) : V X (Q0 X n (Ax nu K c u) (some (.int z.1)) z.2) n (Ax nu K c u) D 40 [(0, .ref (bo X + pp 1)), (1, .int x1), (2, .int x2), (3, .int x3)] [] := by
  unfold f_X2_meet_b40 at h
  refine v_iinc (pc := 40) (lv' := [(3, .int (x3 + 1)), (0, .ref (bo X + pp 1)), (1, .int x1), (2, .int x2)]) O dX2_meet_40 3 rfl (congrArg (fun q => x3 + q) ic_1) (by rw [hn]; decide) rfl ?_
  refine v_goto (pc := 43) 2 O dX2_meet_43 (by decide) ?_
  refine v_sub [1, 2, 3, 0] rfl ?_
  exact hrec_2 x1 x2 (x3 + 1) D h
def f_X2_meet_b2 (N : Nat) (nu : Nat) (K : Nat → Nat) : Nat → Int32 → Int32 → Int32 → Dat → Option (Int32 × Dat)
  | 0, _, _, _, _ => none
  | g + 1, x1, x2, x3, D => if (dI D 1 0) ≤ x3 then (some ((-1), D)) else ((f_X2_leads nu K x3 x1 D).bind (fun p2 => if p2.1 = 0 then (f_X2_meet_b40 N nu K (f_X2_meet_b2 N nu K g) x1 x2 x3 p2.2) else ((f_X2_leads nu K x3 x2 p2.2).bind (fun p5 => if p5.1 = 0 then (f_X2_meet_b40 N nu K (f_X2_meet_b2 N nu K g) x1 x2 x3 p5.2) else ((f_X2_isGreatestUnder N nu K x3 x1 x2 p5.2).bind (fun p8 => if p8.1 = 0 then (f_X2_meet_b40 N nu K (f_X2_meet_b2 N nu K g) x1 x2 x3 p8.2) else (some (x3, p8.2))))))))
set_option maxHeartbeats 4000000 in
theorem w_X2_meet_b2 {X : Cx} {n nu c u : Nat} {K : Nat → Nat} {N : Nat} {z : Int32 × Dat} (O : Ok X cX2_meet RX2 (some .int) 3 67) (hm : wlm (xw X) = true) (hn : xn X = 4) (hz : Z0 X (Ax nu K c u)) : ∀ (g : Nat) (x1 : Int32) (x2 : Int32) (x3 : Int32) (D : Dat), f_X2_meet_b2 N nu K g x1 x2 x3 D = some z → V X (Q0 X n (Ax nu K c u) (some (.int z.1)) z.2) n (Ax nu K c u) D 2 [(0, .ref (bo X + pp 1)), (1, .int x1), (2, .int x2), (3, .int x3)] [] := by
  intro g
  induction g with
  | zero => intro x1 x2 x3 D h; exact absurd h (by simp [f_X2_meet_b2])
  | succ g ih =>
    intro x1 x2 x3 D h
    rw [f_X2_meet_b2] at h
    refine v_iload_n (pc := 2) O dX2_meet_2 3 rfl ?_
    refine v_aload_n (pc := 3) O dX2_meet_3 0 rfl ?_
    refine v_getI (pc := 4) (a := 1) O gf_X2_0 fl_X2_9 kq_1 dX2_meet_4 ?_
    refine v_icmpge (pc := 7) 46 O dX2_meet_7 (by decide) (fun c1 => ?_) (fun c1 => ?_)
    · have h := (if_pos c1).symm.trans h
      refine v_iconst (pc := 46) O dX2_meet_46 ic_m1 ?_
      obtain rfl := Option.some.inj h
      exact v_iret (pc := 47) O hz dX2_meet_47
    · have h := (if_neg c1).symm.trans h
      refine v_aload_n (pc := 10) O dX2_meet_10 0 rfl ?_
      refine v_iload_n (pc := 11) O dX2_meet_11 3 rfl ?_
      refine v_iload_n (pc := 12) O dX2_meet_12 1 rfl ?_
      obtain ⟨p2, e3, h⟩ := bind_some h
      refine v_callV (pc := 13) (a := 1) (As := [.int x3, .int x1]) (rest := []) (r := (some (.int p2.1))) (D' := p2.2) O (bb0 hz) (c_X2_leads hm e3) mw_X2_leads im_X2_leads se_X2_leads ml_X2_30 kq_1 (by decide) rfl rfl rfl (by decide) (by decide) (Nat.le_of_ble_eq_true rfl) dX2_meet_13 rfl rfl ?_
      refine v_ifeq (pc := 16) 40 O dX2_meet_16 (by decide) (fun c4 => ?_) (fun c4 => ?_)
      · have h := (if_pos c4).symm.trans h
        refine v_sub [0, 1, 2, 3] rfl ?_
        exact w_X2_meet_b40 O hm hn hz ih x1 x2 x3 p2.2 h
      · have h := (if_neg c4).symm.trans h
        refine v_aload_n (pc := 19) O dX2_meet_19 0 rfl ?_
        refine v_iload_n (pc := 20) O dX2_meet_20 3 rfl ?_
        refine v_iload_n (pc := 21) O dX2_meet_21 2 rfl ?_
        obtain ⟨p5, e6, h⟩ := bind_some h
        refine v_callV (pc := 22) (a := 1) (As := [.int x3, .int x2]) (rest := []) (r := (some (.int p5.1))) (D' := p5.2) O (bb0 hz) (c_X2_leads hm e6) mw_X2_leads im_X2_leads se_X2_leads ml_X2_30 kq_1 (by decide) rfl rfl rfl (by decide) (by decide) (Nat.le_of_ble_eq_true rfl) dX2_meet_22 rfl rfl ?_
        refine v_ifeq (pc := 25) 40 O dX2_meet_25 (by decide) (fun c7 => ?_) (fun c7 => ?_)
        · have h := (if_pos c7).symm.trans h
          refine v_sub [0, 1, 2, 3] rfl ?_
          exact w_X2_meet_b40 O hm hn hz ih x1 x2 x3 p5.2 h
        · have h := (if_neg c7).symm.trans h
          refine v_aload_n (pc := 28) O dX2_meet_28 0 rfl ?_
          refine v_iload_n (pc := 29) O dX2_meet_29 3 rfl ?_
          refine v_iload_n (pc := 30) O dX2_meet_30 1 rfl ?_
          refine v_iload_n (pc := 31) O dX2_meet_31 2 rfl ?_
          obtain ⟨p8, e9, h⟩ := bind_some h
          refine v_callV (pc := 32) (a := 1) (As := [.int x3, .int x1, .int x2]) (rest := []) (r := (some (.int p8.1))) (D' := p8.2) O (bb0 hz) (c_X2_isGreatestUnder hm e9) mw_X2_isGreatestUnder im_X2_isGreatestUnder se_X2_isGreatestUnder ml_X2_44 kq_1 (by decide) rfl rfl rfl (by decide) (by decide) (Nat.le_of_ble_eq_true rfl) dX2_meet_32 rfl rfl ?_
          refine v_ifeq (pc := 35) 40 O dX2_meet_35 (by decide) (fun c10 => ?_) (fun c10 => ?_)
          · have h := (if_pos c10).symm.trans h
            refine v_sub [0, 1, 2, 3] rfl ?_
            exact w_X2_meet_b40 O hm hn hz ih x1 x2 x3 p8.2 h
          · have h := (if_neg c10).symm.trans h
            refine v_iload_n (pc := 38) O dX2_meet_38 3 rfl ?_
            obtain rfl := Option.some.inj h
            exact v_iret (pc := 39) O hz dX2_meet_39
def f_X2_meet (N : Nat) (nu : Nat) (K : Nat → Nat) (x1 : Int32) (x2 : Int32) (D : Dat) : Option (Int32 × Dat) :=
  f_X2_meet_b2 N nu K N x1 x2 0 D
set_option maxHeartbeats 4000000 in
theorem w_X2_meet {X : Cx} {n nu c u : Nat} {K : Nat → Nat} {N : Nat} {z : Int32 × Dat} (O : Ok X cX2_meet RX2 (some .int) 3 67) (hm : wlm (xw X) = true) (hn : xn X = 4) (hz : Z0 X (Ax nu K c u)) (x1 : Int32) (x2 : Int32) (D : Dat) (h : f_X2_meet N nu K x1 x2 D = some z) : V X (Q0 X n (Ax nu K c u) (some (.int z.1)) z.2) n (Ax nu K c u) D 0 [(0, .ref (bo X + pp 1)), (1, .int x1), (2, .int x2)] [] := by
  unfold f_X2_meet at h
  refine v_iconst (pc := 0) O dX2_meet_0 ic_0 ?_
  refine v_istore_n (pc := 1) (lv' := [(3, .int 0), (0, .ref (bo X + pp 1)), (1, .int x1), (2, .int x2)]) O dX2_meet_1 rfl (by rw [hn]; decide) rfl ?_
  refine v_sub [1, 2, 3, 0] rfl ?_
  exact w_X2_meet_b2 O hm hn hz N x1 x2 0 D h
theorem c_X2_meet {l : Launch} {w : Wx} {n nu c u : Nat} {K : Nat → Nat} {N : Nat} (hm : wlm w = true) {x1 : Int32} {x2 : Int32} {D : Dat} {z : Int32 × Dat} (h : f_X2_meet N nu K x1 x2 D = some z) : C0 l w yX2_meet cX2_meet 4 (some .int) 3 67 [.ref (wb w + pp 1), .int x1, .int x2] n (Ax nu K c u) D (some (.int z.1)) z.2 :=
  C0.of (by decide) (Nat.le_of_ble_eq_true rfl) (fun X e1 e2 e3 hz O => by
  subst e1
  subst e2
  exact w_X2_meet O hm e3 hz x1 x2 D h)
def f_X2_unfitPair_b109 (N : Nat) (nu : Nat) (K : Nat → Nat) (s0 : Int32) (D : Dat) : Option (Int32 × Dat) :=
  some (s0, D)
set_option maxHeartbeats 4000000 in
theorem w_X2_unfitPair_b109 {X : Cx} {n nu c u : Nat} {K : Nat → Nat} {N : Nat} {z : Int32 × Dat} (O : Ok X cX2_unfitPair RX2 (some .int) 4 90) (hm : wlm (xw X) = true) (hn : xn X = 5) (hz : Z0 X (Ax nu K c u)) (s0 : Int32) (D : Dat) (h : f_X2_unfitPair_b109 N nu K s0 D = some z) : V X (Q0 X n (Ax nu K c u) (some (.int z.1)) z.2) n (Ax nu K c u) D 109 [] [.int s0] := by
  unfold f_X2_unfitPair_b109 at h
  obtain rfl := Option.some.inj h
  exact v_iret (pc := 109) O hz dX2_unfitPair_109
def f_X2_unfitPair_b87 (N : Nat) (nu : Nat) (K : Nat → Nat) (rec_11 : Int32 → Int32 → Int32 → Dat → Option (Int32 × Dat)) (rec_23 : Int32 → Int32 → Int32 → Int32 → Dat → Option (Int32 × Dat)) (x1 : Int32) (x2 : Int32) (x3 : Int32) (x4 : Int32) (D : Dat) : Option (Int32 × Dat) :=
  rec_23 x1 x2 x3 (x4 + (-1)) D
set_option maxHeartbeats 4000000 in
theorem w_X2_unfitPair_b87 {X : Cx} {n nu c u : Nat} {K : Nat → Nat} {N : Nat} {rec_11 : Int32 → Int32 → Int32 → Dat → Option (Int32 × Dat)} {rec_23 : Int32 → Int32 → Int32 → Int32 → Dat → Option (Int32 × Dat)} {z : Int32 × Dat} (O : Ok X cX2_unfitPair RX2 (some .int) 4 90) (hm : wlm (xw X) = true) (hn : xn X = 5) (hz : Z0 X (Ax nu K c u)) (hrec_11 : ∀ (x1 : Int32) (x2 : Int32) (x3 : Int32) (D : Dat), rec_11 x1 x2 x3 D = some z → V X (Q0 X n (Ax nu K c u) (some (.int z.1)) z.2) n (Ax nu K c u) D 11 [(0, .ref (bo X + pp 1)), (1, .int x1), (2, .int x2), (3, .int x3)] []) (hrec_23 : ∀ (x1 : Int32) (x2 : Int32) (x3 : Int32) (x4 : Int32) (D : Dat), rec_23 x1 x2 x3 x4 D = some z → V X (Q0 X n (Ax nu K c u) (some (.int z.1)) z.2) n (Ax nu K c u) D 23 [(0, .ref (bo X + pp 1)), (1, .int x1), (2, .int x2), (3, .int x3), (4, .int x4)] []) (x1 : Int32) (x2 : Int32) (x3 : Int32) (x4 : Int32) (D : Dat) (h : f_X2_unfitPair_b87 N nu K rec_11 rec_23 x1 x2 x3 x4 D = some z) : V X (Q0 X n (Ax nu K c u) (some (.int z.1)) z.2) n (Ax nu K c u) D 87 [(0, .ref (bo X + pp 1)), (1, .int x1), (2, .int x2), (3, .int x3), (4, .int x4)] [] := by
  unfold f_X2_unfitPair_b87 at h
  refine v_iinc (pc := 87) (lv' := [(4, .int (x4 + (-1))), (0, .ref (bo X + pp 1)), (1, .int x1), (2, .int x2), (3, .int x3)]) O dX2_unfitPair_87 4 rfl (congrArg (fun q => x4 + q) ic_m1) (by rw [hn]; decide) rfl ?_
  refine v_goto (pc := 90) 23 O dX2_unfitPair_90 (by decide) ?_
  refine v_sub [1, 2, 3, 4, 0] rfl ?_
  exact hrec_23 x1 x2 x3 (x4 + (-1)) D h
def f_X2_unfitPair_b79 (N : Nat) (nu : Nat) (K : Nat → Nat) (rec_11 : Int32 → Int32 → Int32 → Dat → Option (Int32 × Dat)) (rec_23 : Int32 → Int32 → Int32 → Int32 → Dat → Option (Int32 × Dat)) (x1 : Int32) (x3 : Int32) (x4 : Int32) (D : Dat) : Option (Int32 × Dat) :=
  f_X2_unfitPair_b87 N nu K rec_11 rec_23 x1 (((10 : Int32) * x3) + x4) x3 x4 D
set_option maxHeartbeats 4000000 in
theorem w_X2_unfitPair_b79 {X : Cx} {n nu c u : Nat} {K : Nat → Nat} {N : Nat} {rec_11 : Int32 → Int32 → Int32 → Dat → Option (Int32 × Dat)} {rec_23 : Int32 → Int32 → Int32 → Int32 → Dat → Option (Int32 × Dat)} {z : Int32 × Dat} (O : Ok X cX2_unfitPair RX2 (some .int) 4 90) (hm : wlm (xw X) = true) (hn : xn X = 5) (hz : Z0 X (Ax nu K c u)) (hrec_11 : ∀ (x1 : Int32) (x2 : Int32) (x3 : Int32) (D : Dat), rec_11 x1 x2 x3 D = some z → V X (Q0 X n (Ax nu K c u) (some (.int z.1)) z.2) n (Ax nu K c u) D 11 [(0, .ref (bo X + pp 1)), (1, .int x1), (2, .int x2), (3, .int x3)] []) (hrec_23 : ∀ (x1 : Int32) (x2 : Int32) (x3 : Int32) (x4 : Int32) (D : Dat), rec_23 x1 x2 x3 x4 D = some z → V X (Q0 X n (Ax nu K c u) (some (.int z.1)) z.2) n (Ax nu K c u) D 23 [(0, .ref (bo X + pp 1)), (1, .int x1), (2, .int x2), (3, .int x3), (4, .int x4)] []) (x1 : Int32) (x3 : Int32) (x4 : Int32) (D : Dat) (h : f_X2_unfitPair_b79 N nu K rec_11 rec_23 x1 x3 x4 D = some z) : V X (Q0 X n (Ax nu K c u) (some (.int z.1)) z.2) n (Ax nu K c u) D 79 [(0, .ref (bo X + pp 1)), (1, .int x1), (3, .int x3), (4, .int x4)] [] := by
  unfold f_X2_unfitPair_b79 at h
  refine v_bipush (pc := 79) O dX2_unfitPair_79 bp_10 ?_
  refine v_iload_n (pc := 81) O dX2_unfitPair_81 2 rfl ?_
  refine v_imul (pc := 82) O dX2_unfitPair_82 ?_
  refine v_iload (pc := 83) O dX2_unfitPair_83 3 rfl ?_
  refine v_iadd (pc := 85) O dX2_unfitPair_85 ?_
  refine v_istore_n (pc := 86) (lv' := [(2, .int (((10 : Int32) * x3) + x4)), (0, .ref (bo X + pp 1)), (1, .int x1), (3, .int x3), (4, .int x4)]) O dX2_unfitPair_86 rfl (by rw [hn]; decide) rfl ?_
  refine v_sub [1, 2, 0, 3, 4] rfl ?_
  exact w_X2_unfitPair_b87 O hm hn hz hrec_11 hrec_23 x1 (((10 : Int32) * x3) + x4) x3 x4 D h
def f_X2_unfitPair_b57 (N : Nat) (nu : Nat) (K : Nat → Nat) (rec_11 : Int32 → Int32 → Int32 → Dat → Option (Int32 × Dat)) (rec_23 : Int32 → Int32 → Int32 → Int32 → Dat → Option (Int32 × Dat)) (x1 : Int32) (x2 : Int32) (x3 : Int32) (x4 : Int32) (D : Dat) : Option (Int32 × Dat) :=
  (f_X2_join N nu K x3 x4 D).bind (fun p1 => if p1.1 = (-1) then (f_X2_unfitPair_b79 N nu K rec_11 rec_23 x1 x3 x4 p1.2) else ((f_X2_meet N nu K x3 x4 p1.2).bind (fun p4 => if p4.1 = (-1) then (f_X2_unfitPair_b79 N nu K rec_11 rec_23 x1 x3 x4 p4.2) else (f_X2_unfitPair_b87 N nu K rec_11 rec_23 x1 x2 x3 x4 p4.2))))
set_option maxHeartbeats 4000000 in
theorem w_X2_unfitPair_b57 {X : Cx} {n nu c u : Nat} {K : Nat → Nat} {N : Nat} {rec_11 : Int32 → Int32 → Int32 → Dat → Option (Int32 × Dat)} {rec_23 : Int32 → Int32 → Int32 → Int32 → Dat → Option (Int32 × Dat)} {z : Int32 × Dat} (O : Ok X cX2_unfitPair RX2 (some .int) 4 90) (hm : wlm (xw X) = true) (hn : xn X = 5) (hz : Z0 X (Ax nu K c u)) (hrec_11 : ∀ (x1 : Int32) (x2 : Int32) (x3 : Int32) (D : Dat), rec_11 x1 x2 x3 D = some z → V X (Q0 X n (Ax nu K c u) (some (.int z.1)) z.2) n (Ax nu K c u) D 11 [(0, .ref (bo X + pp 1)), (1, .int x1), (2, .int x2), (3, .int x3)] []) (hrec_23 : ∀ (x1 : Int32) (x2 : Int32) (x3 : Int32) (x4 : Int32) (D : Dat), rec_23 x1 x2 x3 x4 D = some z → V X (Q0 X n (Ax nu K c u) (some (.int z.1)) z.2) n (Ax nu K c u) D 23 [(0, .ref (bo X + pp 1)), (1, .int x1), (2, .int x2), (3, .int x3), (4, .int x4)] []) (x1 : Int32) (x2 : Int32) (x3 : Int32) (x4 : Int32) (D : Dat) (h : f_X2_unfitPair_b57 N nu K rec_11 rec_23 x1 x2 x3 x4 D = some z) : V X (Q0 X n (Ax nu K c u) (some (.int z.1)) z.2) n (Ax nu K c u) D 57 [(0, .ref (bo X + pp 1)), (1, .int x1), (2, .int x2), (3, .int x3), (4, .int x4)] [] := by
  unfold f_X2_unfitPair_b57 at h
  refine v_aload_n (pc := 57) O dX2_unfitPair_57 0 rfl ?_
  refine v_iload_n (pc := 58) O dX2_unfitPair_58 3 rfl ?_
  refine v_iload (pc := 59) O dX2_unfitPair_59 4 rfl ?_
  obtain ⟨p1, e2, h⟩ := bind_some h
  refine v_callV (pc := 61) (a := 1) (As := [.int x3, .int x4]) (rest := []) (r := (some (.int p1.1))) (D' := p1.2) O (bb0 hz) (c_X2_join hm e2) mw_X2_join im_X2_join se_X2_join ml_X2_47 kq_1 (by decide) rfl rfl rfl (by decide) (by decide) (Nat.le_of_ble_eq_true rfl) dX2_unfitPair_61 rfl rfl ?_
  refine v_iconst (pc := 64) O dX2_unfitPair_64 ic_m1 ?_
  refine v_icmpeq (pc := 65) 79 O dX2_unfitPair_65 (by decide) (fun c3 => ?_) (fun c3 => ?_)
  · have h := (if_pos c3).symm.trans h
    refine v_sub [0, 1, 3, 4] rfl ?_
    exact w_X2_unfitPair_b79 O hm hn hz hrec_11 hrec_23 x1 x3 x4 p1.2 h
  · have h := (if_neg c3).symm.trans h
    refine v_aload_n (pc := 68) O dX2_unfitPair_68 0 rfl ?_
    refine v_iload_n (pc := 69) O dX2_unfitPair_69 3 rfl ?_
    refine v_iload (pc := 70) O dX2_unfitPair_70 4 rfl ?_
    obtain ⟨p4, e5, h⟩ := bind_some h
    refine v_callV (pc := 72) (a := 1) (As := [.int x3, .int x4]) (rest := []) (r := (some (.int p4.1))) (D' := p4.2) O (bb0 hz) (c_X2_meet hm e5) mw_X2_meet im_X2_meet se_X2_meet ml_X2_51 kq_1 (by decide) rfl rfl rfl (by decide) (by decide) (Nat.le_of_ble_eq_true rfl) dX2_unfitPair_72 rfl rfl ?_
    refine v_iconst (pc := 75) O dX2_unfitPair_75 ic_m1 ?_
    refine v_icmpne (pc := 76) 87 O dX2_unfitPair_76 (by decide) (fun c6 => ?_) (fun c6 => ?_)
    · have h := (if_neg c6).symm.trans h
      refine v_sub [0, 1, 2, 3, 4] rfl ?_
      exact w_X2_unfitPair_b87 O hm hn hz hrec_11 hrec_23 x1 x2 x3 x4 p4.2 h
    · have h := (if_pos c6).symm.trans h
      refine v_sub [0, 1, 3, 4] rfl ?_
      exact w_X2_unfitPair_b79 O hm hn hz hrec_11 hrec_23 x1 x3 x4 p4.2 h
def f_X2_unfitPair_b23 (N : Nat) (nu : Nat) (K : Nat → Nat) (rec_11 : Int32 → Int32 → Int32 → Dat → Option (Int32 × Dat)) : Nat → Int32 → Int32 → Int32 → Int32 → Dat → Option (Int32 × Dat)
  | 0, _, _, _, _, _ => none
  | g + 1, x1, x2, x3, x4, D => if x4 ≤ x3 then (rec_11 x1 x2 (x3 + (-1)) D) else ((f_X2_leads nu K x3 x4 D).bind (fun p8 => if p8.1 = 0 then (f_X2_unfitPair_b57 N nu K rec_11 (f_X2_unfitPair_b23 N nu K rec_11 g) x1 x2 x3 x4 p8.2) else ((f_X2_leads nu K x4 x3 p8.2).bind (fun p11 => if p11.1 = 0 then (f_X2_unfitPair_b57 N nu K rec_11 (f_X2_unfitPair_b23 N nu K rec_11 g) x1 x2 x3 x4 p11.2) else (f_X2_unfitPair_b57 N nu K rec_11 (f_X2_unfitPair_b23 N nu K rec_11 g) (((10 : Int32) * x3) + x4) x2 x3 x4 p11.2)))))
set_option maxHeartbeats 4000000 in
theorem w_X2_unfitPair_b23 {X : Cx} {n nu c u : Nat} {K : Nat → Nat} {N : Nat} {rec_11 : Int32 → Int32 → Int32 → Dat → Option (Int32 × Dat)} {z : Int32 × Dat} (O : Ok X cX2_unfitPair RX2 (some .int) 4 90) (hm : wlm (xw X) = true) (hn : xn X = 5) (hz : Z0 X (Ax nu K c u)) (hrec_11 : ∀ (x1 : Int32) (x2 : Int32) (x3 : Int32) (D : Dat), rec_11 x1 x2 x3 D = some z → V X (Q0 X n (Ax nu K c u) (some (.int z.1)) z.2) n (Ax nu K c u) D 11 [(0, .ref (bo X + pp 1)), (1, .int x1), (2, .int x2), (3, .int x3)] []) : ∀ (g : Nat) (x1 : Int32) (x2 : Int32) (x3 : Int32) (x4 : Int32) (D : Dat), f_X2_unfitPair_b23 N nu K rec_11 g x1 x2 x3 x4 D = some z → V X (Q0 X n (Ax nu K c u) (some (.int z.1)) z.2) n (Ax nu K c u) D 23 [(0, .ref (bo X + pp 1)), (1, .int x1), (2, .int x2), (3, .int x3), (4, .int x4)] [] := by
  intro g
  induction g with
  | zero => intro x1 x2 x3 x4 D h; exact absurd h (by simp [f_X2_unfitPair_b23])
  | succ g ih =>
    intro x1 x2 x3 x4 D h
    rw [f_X2_unfitPair_b23] at h
    refine v_iload (pc := 23) O dX2_unfitPair_23 4 rfl ?_
    refine v_iload_n (pc := 25) O dX2_unfitPair_25 3 rfl ?_
    refine v_icmple (pc := 26) 93 O dX2_unfitPair_26 (by decide) (fun c7 => ?_) (fun c7 => ?_)
    · have h := (if_pos c7).symm.trans h
      refine v_iinc (pc := 93) (lv' := [(3, .int (x3 + (-1))), (0, .ref (bo X + pp 1)), (1, .int x1), (2, .int x2), (4, .int x4)]) O dX2_unfitPair_93 3 rfl (congrArg (fun q => x3 + q) ic_m1) (by rw [hn]; decide) rfl ?_
      refine v_goto (pc := 96) 11 O dX2_unfitPair_96 (by decide) ?_
      refine v_sub [1, 2, 3, 0] rfl ?_
      exact hrec_11 x1 x2 (x3 + (-1)) D h
    · have h := (if_neg c7).symm.trans h
      refine v_aload_n (pc := 29) O dX2_unfitPair_29 0 rfl ?_
      refine v_iload_n (pc := 30) O dX2_unfitPair_30 3 rfl ?_
      refine v_iload (pc := 31) O dX2_unfitPair_31 4 rfl ?_
      obtain ⟨p8, e9, h⟩ := bind_some h
      refine v_callV (pc := 33) (a := 1) (As := [.int x3, .int x4]) (rest := []) (r := (some (.int p8.1))) (D' := p8.2) O (bb0 hz) (c_X2_leads hm e9) mw_X2_leads im_X2_leads se_X2_leads ml_X2_30 kq_1 (by decide) rfl rfl rfl (by decide) (by decide) (Nat.le_of_ble_eq_true rfl) dX2_unfitPair_33 rfl rfl ?_
      refine v_ifeq (pc := 36) 57 O dX2_unfitPair_36 (by decide) (fun c10 => ?_) (fun c10 => ?_)
      · have h := (if_pos c10).symm.trans h
        refine v_sub [0, 1, 2, 3, 4] rfl ?_
        exact w_X2_unfitPair_b57 O hm hn hz hrec_11 ih x1 x2 x3 x4 p8.2 h
      · have h := (if_neg c10).symm.trans h
        refine v_aload_n (pc := 39) O dX2_unfitPair_39 0 rfl ?_
        refine v_iload (pc := 40) O dX2_unfitPair_40 4 rfl ?_
        refine v_iload_n (pc := 42) O dX2_unfitPair_42 3 rfl ?_
        obtain ⟨p11, e12, h⟩ := bind_some h
        refine v_callV (pc := 43) (a := 1) (As := [.int x4, .int x3]) (rest := []) (r := (some (.int p11.1))) (D' := p11.2) O (bb0 hz) (c_X2_leads hm e12) mw_X2_leads im_X2_leads se_X2_leads ml_X2_30 kq_1 (by decide) rfl rfl rfl (by decide) (by decide) (Nat.le_of_ble_eq_true rfl) dX2_unfitPair_43 rfl rfl ?_
        refine v_ifeq (pc := 46) 57 O dX2_unfitPair_46 (by decide) (fun c13 => ?_) (fun c13 => ?_)
        · have h := (if_pos c13).symm.trans h
          refine v_sub [0, 1, 2, 3, 4] rfl ?_
          exact w_X2_unfitPair_b57 O hm hn hz hrec_11 ih x1 x2 x3 x4 p11.2 h
        · have h := (if_neg c13).symm.trans h
          refine v_bipush (pc := 49) O dX2_unfitPair_49 bp_10 ?_
          refine v_iload_n (pc := 51) O dX2_unfitPair_51 3 rfl ?_
          refine v_imul (pc := 52) O dX2_unfitPair_52 ?_
          refine v_iload (pc := 53) O dX2_unfitPair_53 4 rfl ?_
          refine v_iadd (pc := 55) O dX2_unfitPair_55 ?_
          refine v_istore_n (pc := 56) (lv' := [(1, .int (((10 : Int32) * x3) + x4)), (0, .ref (bo X + pp 1)), (2, .int x2), (3, .int x3), (4, .int x4)]) O dX2_unfitPair_56 rfl (by rw [hn]; decide) rfl ?_
          refine v_sub [1, 0, 2, 3, 4] rfl ?_
          exact w_X2_unfitPair_b57 O hm hn hz hrec_11 ih (((10 : Int32) * x3) + x4) x2 x3 x4 p11.2 h
def f_X2_unfitPair_b11 (N : Nat) (nu : Nat) (K : Nat → Nat) : Nat → Int32 → Int32 → Int32 → Dat → Option (Int32 × Dat)
  | 0, _, _, _, _ => none
  | g + 1, x1, x2, x3, D => if x3 < 0 then (if x1 = (-1) then (f_X2_unfitPair_b109 N nu K x2 D) else (f_X2_unfitPair_b109 N nu K x1 D)) else (f_X2_unfitPair_b23 N nu K (f_X2_unfitPair_b11 N nu K g) N x1 x2 x3 ((dI D 1 0) - (1 : Int32)) D)
set_option maxHeartbeats 4000000 in
theorem w_X2_unfitPair_b11 {X : Cx} {n nu c u : Nat} {K : Nat → Nat} {N : Nat} {z : Int32 × Dat} (O : Ok X cX2_unfitPair RX2 (some .int) 4 90) (hm : wlm (xw X) = true) (hn : xn X = 5) (hz : Z0 X (Ax nu K c u)) : ∀ (g : Nat) (x1 : Int32) (x2 : Int32) (x3 : Int32) (D : Dat), f_X2_unfitPair_b11 N nu K g x1 x2 x3 D = some z → V X (Q0 X n (Ax nu K c u) (some (.int z.1)) z.2) n (Ax nu K c u) D 11 [(0, .ref (bo X + pp 1)), (1, .int x1), (2, .int x2), (3, .int x3)] [] := by
  intro g
  induction g with
  | zero => intro x1 x2 x3 D h; exact absurd h (by simp [f_X2_unfitPair_b11])
  | succ g ih =>
    intro x1 x2 x3 D h
    rw [f_X2_unfitPair_b11] at h
    refine v_iload_n (pc := 11) O dX2_unfitPair_11 3 rfl ?_
    refine v_iflt (pc := 12) 99 O dX2_unfitPair_12 (by decide) (fun c14 => ?_) (fun c14 => ?_)
    · have h := (if_pos c14).symm.trans h
      refine v_iload_n (pc := 99) O dX2_unfitPair_99 1 rfl ?_
      refine v_iconst (pc := 100) O dX2_unfitPair_100 ic_m1 ?_
      refine v_icmpeq (pc := 101) 108 O dX2_unfitPair_101 (by decide) (fun c15 => ?_) (fun c15 => ?_)
      · have h := (if_pos c15).symm.trans h
        refine v_iload_n (pc := 108) O dX2_unfitPair_108 2 rfl ?_
        refine v_sub [] rfl ?_
        exact w_X2_unfitPair_b109 O hm hn hz x2 D h
      · have h := (if_neg c15).symm.trans h
        refine v_iload_n (pc := 104) O dX2_unfitPair_104 1 rfl ?_
        refine v_goto (pc := 105) 109 O dX2_unfitPair_105 (by decide) ?_
        refine v_sub [] rfl ?_
        exact w_X2_unfitPair_b109 O hm hn hz x1 D h
    · have h := (if_neg c14).symm.trans h
      refine v_aload_n (pc := 15) O dX2_unfitPair_15 0 rfl ?_
      refine v_getI (pc := 16) (a := 1) O gf_X2_0 fl_X2_9 kq_1 dX2_unfitPair_16 ?_
      refine v_iconst (pc := 19) O dX2_unfitPair_19 ic_1 ?_
      refine v_isub (pc := 20) O dX2_unfitPair_20 ?_
      refine v_istore (pc := 21) (lv' := [(4, .int ((dI D 1 0) - (1 : Int32))), (0, .ref (bo X + pp 1)), (1, .int x1), (2, .int x2), (3, .int x3)]) O dX2_unfitPair_21 (by rw [hn]; decide) rfl ?_
      refine v_sub [1, 2, 3, 4, 0] rfl ?_
      exact w_X2_unfitPair_b23 O hm hn hz ih N x1 x2 x3 ((dI D 1 0) - (1 : Int32)) D h
def f_X2_unfitPair (N : Nat) (nu : Nat) (K : Nat → Nat) (D : Dat) : Option (Int32 × Dat) :=
  f_X2_unfitPair_b11 N nu K N (-1) (-1) ((dI D 1 0) - (1 : Int32)) D
set_option maxHeartbeats 4000000 in
theorem w_X2_unfitPair {X : Cx} {n nu c u : Nat} {K : Nat → Nat} {N : Nat} {z : Int32 × Dat} (O : Ok X cX2_unfitPair RX2 (some .int) 4 90) (hm : wlm (xw X) = true) (hn : xn X = 5) (hz : Z0 X (Ax nu K c u)) (D : Dat) (h : f_X2_unfitPair N nu K D = some z) : V X (Q0 X n (Ax nu K c u) (some (.int z.1)) z.2) n (Ax nu K c u) D 0 [(0, .ref (bo X + pp 1))] [] := by
  unfold f_X2_unfitPair at h
  refine v_iconst (pc := 0) O dX2_unfitPair_0 ic_m1 ?_
  refine v_istore_n (pc := 1) (lv' := [(1, .int (-1)), (0, .ref (bo X + pp 1))]) O dX2_unfitPair_1 rfl (by rw [hn]; decide) rfl ?_
  refine v_iconst (pc := 2) O dX2_unfitPair_2 ic_m1 ?_
  refine v_istore_n (pc := 3) (lv' := [(2, .int (-1)), (1, .int (-1)), (0, .ref (bo X + pp 1))]) O dX2_unfitPair_3 rfl (by rw [hn]; decide) rfl ?_
  refine v_aload_n (pc := 4) O dX2_unfitPair_4 2 rfl ?_
  refine v_getI (pc := 5) (a := 1) O gf_X2_0 fl_X2_9 kq_1 dX2_unfitPair_5 ?_
  refine v_iconst (pc := 8) O dX2_unfitPair_8 ic_1 ?_
  refine v_isub (pc := 9) O dX2_unfitPair_9 ?_
  refine v_istore_n (pc := 10) (lv' := [(3, .int ((dI D 1 0) - (1 : Int32))), (2, .int (-1)), (1, .int (-1)), (0, .ref (bo X + pp 1))]) O dX2_unfitPair_10 rfl (by rw [hn]; decide) rfl ?_
  refine v_sub [3, 2, 1, 0] rfl ?_
  exact w_X2_unfitPair_b11 O hm hn hz N (-1) (-1) ((dI D 1 0) - (1 : Int32)) D h
theorem c_X2_unfitPair {l : Launch} {w : Wx} {n nu c u : Nat} {K : Nat → Nat} {N : Nat} (hm : wlm w = true) {D : Dat} {z : Int32 × Dat} (h : f_X2_unfitPair N nu K D = some z) : C0 l w yX2_unfitPair cX2_unfitPair 5 (some .int) 4 90 [.ref (wb w + pp 1)] n (Ax nu K c u) D (some (.int z.1)) z.2 :=
  C0.of (by decide) (Nat.le_of_ble_eq_true rfl) (fun X e1 e2 e3 hz O => by
  subst e1
  subst e2
  exact w_X2_unfitPair O hm e3 hz  D h)
def f_X0_nexts_b77 (t : Nat) (x4 : Int64) (D : Dat) : Option (Int64 × Dat) :=
  some (x4, D)
set_option maxHeartbeats 4000000 in
theorem w_X0_nexts_b77 {X : Cx} {n nu c u : Nat} {K : Nat → Nat} {t : Nat} {z : Int64 × Dat} (O : Ok X cX0_nexts RX0 (some .long) 2 42) (hm : wlm (xw X) = true) (hn : xn X = 6) (hz : Z0 X (Ax nu K c u)) (ht : t = 201 ∨ t = 204) (x4 : Int64) (D : Dat) (h : f_X0_nexts_b77 t x4 D = some z) : V X (Q0 X n (Ax nu K c u) (some (.long z.1)) z.2) n (Ax nu K c u) D 77 [(4, .long x4)] [] := by
  unfold f_X0_nexts_b77 at h
  refine v_lload (pc := 77) O dX0_nexts_77 0 rfl ?_
  obtain rfl := Option.some.inj h
  exact v_lret (pc := 79) O hz dX0_nexts_79
def f_X0_nexts_b60 (t : Nat) (x3 : Int32) (x4 : Int64) (D : Dat) : Option (Int64 × Dat) :=
  (f_X0_has t x3 D).bind (fun p1 => if p1.1 = 0 then (f_X0_nexts_b77 t x4 p1.2) else ((f_X11_bit x3 p1.2).bind (fun p4 => f_X0_nexts_b77 t (x4 ||| p4.1) p4.2)))
set_option maxHeartbeats 4000000 in
theorem w_X0_nexts_b60 {X : Cx} {n nu c u : Nat} {K : Nat → Nat} {t : Nat} {z : Int64 × Dat} (O : Ok X cX0_nexts RX0 (some .long) 2 42) (hm : wlm (xw X) = true) (hn : xn X = 6) (hz : Z0 X (Ax nu K c u)) (ht : t = 201 ∨ t = 204) (x3 : Int32) (x4 : Int64) (D : Dat) (h : f_X0_nexts_b60 t x3 x4 D = some z) : V X (Q0 X n (Ax nu K c u) (some (.long z.1)) z.2) n (Ax nu K c u) D 60 [(0, .ref (bo X + pp t)), (3, .int x3), (4, .long x4)] [] := by
  unfold f_X0_nexts_b60 at h
  refine v_aload_n (pc := 60) O dX0_nexts_60 0 rfl ?_
  refine v_iload_n (pc := 61) O dX0_nexts_61 1 rfl ?_
  obtain ⟨p1, e2, h⟩ := bind_some h
  refine v_callV (pc := 62) (a := t) (As := [.int x3]) (rest := []) (r := (some (.int p1.1))) (D' := p1.2) O (bb0 hz) (c_X0_has hm ht e2) mw_X0_has im_X0_has se_X0_has ml_X0_22 (kt_X0 ht) (by decide) rfl rfl rfl (by decide) (by decide) (Nat.le_of_ble_eq_true rfl) dX0_nexts_62 rfl rfl ?_
  refine v_ifeq (pc := 65) 77 O dX0_nexts_65 (by decide) (fun c3 => ?_) (fun c3 => ?_)
  · have h := (if_pos c3).symm.trans h
    refine v_sub [2] rfl ?_
    exact w_X0_nexts_b77 O hm hn hz ht x4 p1.2 h
  · have h := (if_neg c3).symm.trans h
    refine v_lload (pc := 68) O dX0_nexts_68 2 rfl ?_
    refine v_iload_n (pc := 70) O dX0_nexts_70 1 rfl ?_
    obtain ⟨p4, e5, h⟩ := bind_some h
    refine v_callN (pc := 71) (As := [.int x3]) (rest := [.long x4]) (r := (some (.long p4.1))) (D' := p4.2) O (bb0 hz) (c_X11_bit hm e5) mw_X11_bit sm_X11_bit nl_X0_39 rfl (by decide) (by decide) (Nat.le_of_ble_eq_true rfl) dX0_nexts_71 rfl rfl ?_
    refine v_lor (pc := 74) O dX0_nexts_74 ?_
    refine v_lstore (pc := 75) (lv' := [(4, .long (x4 ||| p4.1)), (0, .ref (bo X + pp t)), (3, .int x3)]) O dX0_nexts_75 (by rw [hn]; decide) rfl ?_
    refine v_sub [0] rfl ?_
    exact w_X0_nexts_b77 O hm hn hz ht (x4 ||| p4.1) p4.2 h
def f_X0_nexts_b48 (t : Nat) (x2 : Int32) (x3 : Int32) (x4 : Int64) (D : Dat) : Option (Int64 × Dat) :=
  if x2 = 11 then (f_X0_nexts_b60 t x3 x4 D) else (if x2 = 12 then (f_X0_nexts_b60 t x3 x4 D) else (f_X0_nexts_b77 t x4 D))
set_option maxHeartbeats 4000000 in
theorem w_X0_nexts_b48 {X : Cx} {n nu c u : Nat} {K : Nat → Nat} {t : Nat} {z : Int64 × Dat} (O : Ok X cX0_nexts RX0 (some .long) 2 42) (hm : wlm (xw X) = true) (hn : xn X = 6) (hz : Z0 X (Ax nu K c u)) (ht : t = 201 ∨ t = 204) (x2 : Int32) (x3 : Int32) (x4 : Int64) (D : Dat) (h : f_X0_nexts_b48 t x2 x3 x4 D = some z) : V X (Q0 X n (Ax nu K c u) (some (.long z.1)) z.2) n (Ax nu K c u) D 48 [(0, .ref (bo X + pp t)), (2, .int x2), (3, .int x3), (4, .long x4)] [] := by
  unfold f_X0_nexts_b48 at h
  refine v_iload_n (pc := 48) O dX0_nexts_48 1 rfl ?_
  refine v_bipush (pc := 49) O dX0_nexts_49 bp_11 ?_
  refine v_icmpeq (pc := 51) 60 O dX0_nexts_51 (by decide) (fun c6 => ?_) (fun c6 => ?_)
  · have h := (if_pos c6).symm.trans h
    refine v_sub [0, 2, 3] rfl ?_
    exact w_X0_nexts_b60 O hm hn hz ht x3 x4 D h
  · have h := (if_neg c6).symm.trans h
    refine v_iload_n (pc := 54) O dX0_nexts_54 1 rfl ?_
    refine v_bipush (pc := 55) O dX0_nexts_55 bp_12 ?_
    refine v_icmpne (pc := 57) 77 O dX0_nexts_57 (by decide) (fun c7 => ?_) (fun c7 => ?_)
    · have h := (if_neg c7).symm.trans h
      refine v_sub [3] rfl ?_
      exact w_X0_nexts_b77 O hm hn hz ht x4 D h
    · have h := (if_pos c7).symm.trans h
      refine v_sub [0, 2, 3] rfl ?_
      exact w_X0_nexts_b60 O hm hn hz ht x3 x4 D h
def f_X0_nexts (t : Nat) (x1 : Int32) (D : Dat) : Option (Int64 × Dat) :=
  (f_X0_operation t x1 D).bind (fun p8 => (f_X0_argument t x1 p8.2).bind (fun p10 => if p8.1 = 12 then (f_X0_nexts_b48 t p8.1 p10.1 (0 : Int64) p10.2) else (if p8.1 = 15 then (f_X0_nexts_b48 t p8.1 p10.1 (0 : Int64) p10.2) else ((f_X0_has t (x1 + (1 : Int32)) p10.2).bind (fun p14 => if p14.1 = 0 then (f_X0_nexts_b48 t p8.1 p10.1 (0 : Int64) p14.2) else ((f_X11_bit (x1 + (1 : Int32)) p14.2).bind (fun p17 => f_X0_nexts_b48 t p8.1 p10.1 ((0 : Int64) ||| p17.1) p17.2)))))))
set_option maxHeartbeats 4000000 in
theorem w_X0_nexts {X : Cx} {n nu c u : Nat} {K : Nat → Nat} {t : Nat} {z : Int64 × Dat} (O : Ok X cX0_nexts RX0 (some .long) 2 42) (hm : wlm (xw X) = true) (hn : xn X = 6) (hz : Z0 X (Ax nu K c u)) (ht : t = 201 ∨ t = 204) (x1 : Int32) (D : Dat) (h : f_X0_nexts t x1 D = some z) : V X (Q0 X n (Ax nu K c u) (some (.long z.1)) z.2) n (Ax nu K c u) D 0 [(0, .ref (bo X + pp t)), (1, .int x1)] [] := by
  unfold f_X0_nexts at h
  refine v_aload_n (pc := 0) O dX0_nexts_0 0 rfl ?_
  refine v_iload_n (pc := 1) O dX0_nexts_1 1 rfl ?_
  obtain ⟨p8, e9, h⟩ := bind_some h
  refine v_callV (pc := 2) (a := t) (As := [.int x1]) (rest := []) (r := (some (.int p8.1))) (D' := p8.2) O (bb0 hz) (c_X0_operation hm ht e9) mw_X0_operation im_X0_operation se_X0_operation ml_X0_26 (kt_X0 ht) (by decide) rfl rfl rfl (by decide) (by decide) (Nat.le_of_ble_eq_true rfl) dX0_nexts_2 rfl rfl ?_
  refine v_istore_n (pc := 5) (lv' := [(2, .int p8.1), (0, .ref (bo X + pp t)), (1, .int x1)]) O dX0_nexts_5 rfl (by rw [hn]; decide) rfl ?_
  refine v_aload_n (pc := 6) O dX0_nexts_6 1 rfl ?_
  refine v_iload_n (pc := 7) O dX0_nexts_7 2 rfl ?_
  obtain ⟨p10, e11, h⟩ := bind_some h
  refine v_callV (pc := 8) (a := t) (As := [.int x1]) (rest := []) (r := (some (.int p10.1))) (D' := p10.2) O (bb0 hz) (c_X0_argument hm ht e11) mw_X0_argument im_X0_argument se_X0_argument ml_X0_36 (kt_X0 ht) (by decide) rfl rfl rfl (by decide) (by decide) (Nat.le_of_ble_eq_true rfl) dX0_nexts_8 rfl rfl ?_
  refine v_istore_n (pc := 11) (lv' := [(3, .int p10.1), (2, .int p8.1), (0, .ref (bo X + pp t)), (1, .int x1)]) O dX0_nexts_11 rfl (by rw [hn]; decide) rfl ?_
  refine v_lconst (pc := 12) (v := 0) O dX0_nexts_12 rfl ?_
  refine v_lstore (pc := 13) (lv' := [(4, .long (0 : Int64)), (3, .int p10.1), (2, .int p8.1), (0, .ref (bo X + pp t)), (1, .int x1)]) O dX0_nexts_13 (by rw [hn]; decide) rfl ?_
  refine v_iload_n (pc := 15) O dX0_nexts_15 2 rfl ?_
  refine v_bipush (pc := 16) O dX0_nexts_16 bp_12 ?_
  refine v_icmpeq (pc := 18) 48 O dX0_nexts_18 (by decide) (fun c12 => ?_) (fun c12 => ?_)
  · have h := (if_pos c12).symm.trans h
    refine v_sub [3, 2, 1, 0] rfl ?_
    exact w_X0_nexts_b48 O hm hn hz ht p8.1 p10.1 (0 : Int64) p10.2 h
  · have h := (if_neg c12).symm.trans h
    refine v_iload_n (pc := 21) O dX0_nexts_21 2 rfl ?_
    refine v_bipush (pc := 22) O dX0_nexts_22 bp_15 ?_
    refine v_icmpeq (pc := 24) 48 O dX0_nexts_24 (by decide) (fun c13 => ?_) (fun c13 => ?_)
    · have h := (if_pos c13).symm.trans h
      refine v_sub [3, 2, 1, 0] rfl ?_
      exact w_X0_nexts_b48 O hm hn hz ht p8.1 p10.1 (0 : Int64) p10.2 h
    · have h := (if_neg c13).symm.trans h
      refine v_aload_n (pc := 27) O dX0_nexts_27 3 rfl ?_
      refine v_iload_n (pc := 28) O dX0_nexts_28 4 rfl ?_
      refine v_iconst (pc := 29) O dX0_nexts_29 ic_1 ?_
      refine v_iadd (pc := 30) O dX0_nexts_30 ?_
      obtain ⟨p14, e15, h⟩ := bind_some h
      refine v_callV (pc := 31) (a := t) (As := [.int (x1 + (1 : Int32))]) (rest := []) (r := (some (.int p14.1))) (D' := p14.2) O (bb0 hz) (c_X0_has hm ht e15) mw_X0_has im_X0_has se_X0_has ml_X0_22 (kt_X0 ht) (by decide) rfl rfl rfl (by decide) (by decide) (Nat.le_of_ble_eq_true rfl) dX0_nexts_31 rfl rfl ?_
      refine v_ifeq (pc := 34) 48 O dX0_nexts_34 (by decide) (fun c16 => ?_) (fun c16 => ?_)
      · have h := (if_pos c16).symm.trans h
        refine v_sub [3, 2, 1, 0] rfl ?_
        exact w_X0_nexts_b48 O hm hn hz ht p8.1 p10.1 (0 : Int64) p14.2 h
      · have h := (if_neg c16).symm.trans h
        refine v_lload (pc := 37) O dX0_nexts_37 0 rfl ?_
        refine v_iload_n (pc := 39) O dX0_nexts_39 4 rfl ?_
        refine v_iconst (pc := 40) O dX0_nexts_40 ic_1 ?_
        refine v_iadd (pc := 41) O dX0_nexts_41 ?_
        obtain ⟨p17, e18, h⟩ := bind_some h
        refine v_callN (pc := 42) (As := [.int (x1 + (1 : Int32))]) (rest := [.long (0 : Int64)]) (r := (some (.long p17.1))) (D' := p17.2) O (bb0 hz) (c_X11_bit hm e18) mw_X11_bit sm_X11_bit nl_X0_39 rfl (by decide) (by decide) (Nat.le_of_ble_eq_true rfl) dX0_nexts_42 rfl rfl ?_
        refine v_lor (pc := 45) O dX0_nexts_45 ?_
        refine v_lstore (pc := 46) (lv' := [(4, .long ((0 : Int64) ||| p17.1)), (3, .int p10.1), (2, .int p8.1), (0, .ref (bo X + pp t)), (1, .int x1)]) O dX0_nexts_46 (by rw [hn]; decide) rfl ?_
        refine v_sub [3, 2, 1, 0] rfl ?_
        exact w_X0_nexts_b48 O hm hn hz ht p8.1 p10.1 ((0 : Int64) ||| p17.1) p17.2 h
theorem c_X0_nexts {l : Launch} {w : Wx} {n nu c u : Nat} {K : Nat → Nat} {t : Nat} (hm : wlm w = true) (ht : t = 201 ∨ t = 204) {x1 : Int32} {D : Dat} {z : Int64 × Dat} (h : f_X0_nexts t x1 D = some z) : C0 l w yX0_nexts cX0_nexts 6 (some .long) 2 42 [.ref (wb w + pp t), .int x1] n (Ax nu K c u) D (some (.long z.1)) z.2 :=
  C0.of (by decide) (Nat.le_of_ble_eq_true rfl) (fun X e1 e2 e3 hz O => by
  subst e1
  subst e2
  exact w_X0_nexts O hm e3 hz ht x1 D h)
def f_X3_reckon_b129 (D : Dat) : Option (Dat) :=
  some D
set_option maxHeartbeats 4000000 in
theorem w_X3_reckon_b129 {X : Cx} {n nu c u : Nat} {K : Nat → Nat} {z : Dat} (O : Ok X cX3_reckon RX3 none 1 21) (hm : wlm (xw X) = true) (hn : xn X = 4) (hz : Z0 X (Ax nu K c u)) (D : Dat) (h : f_X3_reckon_b129 D = some z) : V X (Q0 X n (Ax nu K c u) none z) n (Ax nu K c u) D 129 [] [] := by
  unfold f_X3_reckon_b129 at h
  obtain rfl := Option.some.inj h
  exact v_ret (pc := 129) O hz dX3_reckon_129
def f_X3_reckon_b81 (s0 : Int32) (D : Dat) : Option (Dat) :=
  (f_X11_asNumber s0 D).bind (fun p1 => (f_X3_push p1.1 p1.2).bind (fun p3 => f_X3_reckon_b129 p3))
set_option maxHeartbeats 4000000 in
theorem w_X3_reckon_b81 {X : Cx} {n nu c u : Nat} {K : Nat → Nat} {z : Dat} (O : Ok X cX3_reckon RX3 none 1 21) (hm : wlm (xw X) = true) (hn : xn X = 4) (hz : Z0 X (Ax nu K c u)) (s0 : Int32) (D : Dat) (h : f_X3_reckon_b81 s0 D = some z) : V X (Q0 X n (Ax nu K c u) none z) n (Ax nu K c u) D 81 [] [.int s0, .ref (bo X + pp 181)] := by
  unfold f_X3_reckon_b81 at h
  obtain ⟨p1, e2, h⟩ := bind_some h
  refine v_callN (pc := 81) (As := [.int s0]) (rest := [.ref (bo X + pp 181)]) (r := (some (.int p1.1))) (D' := p1.2) O (bb0 hz) (c_X11_asNumber hm e2) mw_X11_asNumber sm_X11_asNumber nl_X3_115 rfl (by decide) (by decide) (Nat.le_of_ble_eq_true rfl) dX3_reckon_81 rfl rfl ?_
  obtain ⟨p3, e4, h⟩ := bind_some h
  refine v_callV (pc := 84) (a := 181) (As := [.int p1.1]) (rest := []) (r := none) (D' := p3) O (bb0 hz) (c_X3_push hm e4) mw_X3_push im_X3_push se_X3_push ml_X3_89 kq_181 (by decide) rfl rfl rfl (by decide) (by decide) (Nat.le_of_ble_eq_true rfl) dX3_reckon_84 rfl rfl ?_
  refine v_goto (pc := 87) 129 O dX3_reckon_87 (by decide) ?_
  refine v_sub [] rfl ?_
  exact w_X3_reckon_b129 O hm hn hz p3 h
def f_X3_reckon_b101 (s0 : Int32) (D : Dat) : Option (Dat) :=
  (f_X11_asNumber s0 D).bind (fun p5 => (f_X3_push p5.1 p5.2).bind (fun p7 => f_X3_reckon_b129 p7))
set_option maxHeartbeats 4000000 in
theorem w_X3_reckon_b101 {X : Cx} {n nu c u : Nat} {K : Nat → Nat} {z : Dat} (O : Ok X cX3_reckon RX3 none 1 21) (hm : wlm (xw X) = true) (hn : xn X = 4) (hz : Z0 X (Ax nu K c u)) (s0 : Int32) (D : Dat) (h : f_X3_reckon_b101 s0 D = some z) : V X (Q0 X n (Ax nu K c u) none z) n (Ax nu K c u) D 101 [] [.int s0, .ref (bo X + pp 181)] := by
  unfold f_X3_reckon_b101 at h
  obtain ⟨p5, e6, h⟩ := bind_some h
  refine v_callN (pc := 101) (As := [.int s0]) (rest := [.ref (bo X + pp 181)]) (r := (some (.int p5.1))) (D' := p5.2) O (bb0 hz) (c_X11_asNumber hm e6) mw_X11_asNumber sm_X11_asNumber nl_X3_115 rfl (by decide) (by decide) (Nat.le_of_ble_eq_true rfl) dX3_reckon_101 rfl rfl ?_
  obtain ⟨p7, e8, h⟩ := bind_some h
  refine v_callV (pc := 104) (a := 181) (As := [.int p5.1]) (rest := []) (r := none) (D' := p7) O (bb0 hz) (c_X3_push hm e8) mw_X3_push im_X3_push se_X3_push ml_X3_89 kq_181 (by decide) rfl rfl rfl (by decide) (by decide) (Nat.le_of_ble_eq_true rfl) dX3_reckon_104 rfl rfl ?_
  refine v_goto (pc := 107) 129 O dX3_reckon_107 (by decide) ?_
  refine v_sub [] rfl ?_
  exact w_X3_reckon_b129 O hm hn hz p7 h
def f_X3_reckon_b110 (x2 : Int32) (x3 : Int32) (D : Dat) : Option (Dat) :=
  if x2 = 0 then (f_X3_reckon_b129 (sI D 181 10 1)) else (if x2 = 0 then none else (f_X3_push (x3 / x2) D).bind (fun p11 => f_X3_reckon_b129 p11))
set_option maxHeartbeats 4000000 in
theorem w_X3_reckon_b110 {X : Cx} {n nu c u : Nat} {K : Nat → Nat} {z : Dat} (O : Ok X cX3_reckon RX3 none 1 21) (hm : wlm (xw X) = true) (hn : xn X = 4) (hz : Z0 X (Ax nu K c u)) (x2 : Int32) (x3 : Int32) (D : Dat) (h : f_X3_reckon_b110 x2 x3 D = some z) : V X (Q0 X n (Ax nu K c u) none z) n (Ax nu K c u) D 110 [(0, .ref (bo X + pp 181)), (2, .int x2), (3, .int x3)] [] := by
  unfold f_X3_reckon_b110 at h
  refine v_iload_n (pc := 110) O dX3_reckon_110 1 rfl ?_
  refine v_ifne (pc := 111) 122 O dX3_reckon_111 (by decide) (fun c9 => ?_) (fun c9 => ?_)
  · have h := (if_neg c9).symm.trans h
    refine v_aload_n (pc := 122) O dX3_reckon_122 0 rfl ?_
    refine v_iload_n (pc := 123) O dX3_reckon_123 2 rfl ?_
    refine v_iload_n (pc := 124) O dX3_reckon_124 1 rfl ?_
    obtain ⟨c10, h⟩ := or_none h
    refine v_idiv (pc := 125) O dX3_reckon_125 c10 ?_
    obtain ⟨p11, e12, h⟩ := bind_some h
    refine v_callV (pc := 126) (a := 181) (As := [.int (x3 / x2)]) (rest := []) (r := none) (D' := p11) O (bb0 hz) (c_X3_push hm e12) mw_X3_push im_X3_push se_X3_push ml_X3_89 kq_181 (by decide) rfl rfl rfl (by decide) (by decide) (Nat.le_of_ble_eq_true rfl) dX3_reckon_126 rfl rfl ?_
    refine v_sub [] rfl ?_
    exact w_X3_reckon_b129 O hm hn hz p11 h
  · have h := (if_pos c9).symm.trans h
    refine v_aload_n (pc := 114) O dX3_reckon_114 0 rfl ?_
    refine v_iconst (pc := 115) O dX3_reckon_115 ic_1 ?_
    refine v_putI (pc := 116) (a := 181) O pf_X3_10 fl_X3_33 kq_181 dX3_reckon_116 ?_
    refine v_goto (pc := 119) 129 O dX3_reckon_119 (by decide) ?_
    refine v_sub [] rfl ?_
    exact w_X3_reckon_b129 O hm hn hz (sI D 181 10 1) h
def f_X3_reckon (x1 : Int32) (x2 : Int32) (x3 : Int32) (D : Dat) : Option (Dat) :=
  (if x1 = (5 : Int32) then ((f_X3_push (x3 + x2) D).bind (fun p14 => f_X3_reckon_b129 p14)) else (if x1 = (6 : Int32) then ((f_X3_push (x3 - x2) D).bind (fun p17 => f_X3_reckon_b129 p17)) else (if x1 = (7 : Int32) then ((f_X3_push (x3 * x2) D).bind (fun p20 => f_X3_reckon_b129 p20)) else (if x1 = (9 : Int32) then (if x2 ≤ x3 then (f_X3_reckon_b81 0 D) else (f_X3_reckon_b81 1 D)) else (if x1 = (10 : Int32) then (if x3 = x2 then (f_X3_reckon_b101 1 D) else (f_X3_reckon_b101 0 D)) else (f_X3_reckon_b110 x2 x3 D))))))
set_option maxHeartbeats 4000000 in
theorem w_X3_reckon {X : Cx} {n nu c u : Nat} {K : Nat → Nat} {z : Dat} (O : Ok X cX3_reckon RX3 none 1 21) (hm : wlm (xw X) = true) (hn : xn X = 4) (hz : Z0 X (Ax nu K c u)) (x1 : Int32) (x2 : Int32) (x3 : Int32) (D : Dat) (h : f_X3_reckon x1 x2 x3 D = some z) : V X (Q0 X n (Ax nu K c u) none z) n (Ax nu K c u) D 0 [(0, .ref (bo X + pp 181)), (1, .int x1), (2, .int x2), (3, .int x3)] [] := by
  unfold f_X3_reckon at h
  refine v_iload_n (pc := 0) O dX3_reckon_0 1 rfl ?_
  by_cases c13 : x1 = (5 : Int32)
  · have h := (if_pos c13).symm.trans h
    refine v_tableIn (pc := 1) 40 O dX3_reckon_1 (by rw [c13]; decide) (by rw [c13]; decide) (by rw [c13]; rfl) (by decide) ?_
    refine v_aload_n (pc := 40) O dX3_reckon_40 0 rfl ?_
    refine v_iload_n (pc := 41) O dX3_reckon_41 3 rfl ?_
    refine v_iload_n (pc := 42) O dX3_reckon_42 2 rfl ?_
    refine v_iadd (pc := 43) O dX3_reckon_43 ?_
    obtain ⟨p14, e15, h⟩ := bind_some h
    refine v_callV (pc := 44) (a := 181) (As := [.int (x3 + x2)]) (rest := []) (r := none) (D' := p14) O (bb0 hz) (c_X3_push hm e15) mw_X3_push im_X3_push se_X3_push ml_X3_89 kq_181 (by decide) rfl rfl rfl (by decide) (by decide) (Nat.le_of_ble_eq_true rfl) dX3_reckon_44 rfl rfl ?_
    refine v_goto (pc := 47) 129 O dX3_reckon_47 (by decide) ?_
    refine v_sub [] rfl ?_
    exact w_X3_reckon_b129 O hm hn hz p14 h
  · have h := (if_neg c13).symm.trans h
    by_cases c16 : x1 = (6 : Int32)
    · have h := (if_pos c16).symm.trans h
      refine v_tableIn (pc := 1) 50 O dX3_reckon_1 (by rw [c16]; decide) (by rw [c16]; decide) (by rw [c16]; rfl) (by decide) ?_
      refine v_aload_n (pc := 50) O dX3_reckon_50 0 rfl ?_
      refine v_iload_n (pc := 51) O dX3_reckon_51 3 rfl ?_
      refine v_iload_n (pc := 52) O dX3_reckon_52 2 rfl ?_
      refine v_isub (pc := 53) O dX3_reckon_53 ?_
      obtain ⟨p17, e18, h⟩ := bind_some h
      refine v_callV (pc := 54) (a := 181) (As := [.int (x3 - x2)]) (rest := []) (r := none) (D' := p17) O (bb0 hz) (c_X3_push hm e18) mw_X3_push im_X3_push se_X3_push ml_X3_89 kq_181 (by decide) rfl rfl rfl (by decide) (by decide) (Nat.le_of_ble_eq_true rfl) dX3_reckon_54 rfl rfl ?_
      refine v_goto (pc := 57) 129 O dX3_reckon_57 (by decide) ?_
      refine v_sub [] rfl ?_
      exact w_X3_reckon_b129 O hm hn hz p17 h
    · have h := (if_neg c16).symm.trans h
      by_cases c19 : x1 = (7 : Int32)
      · have h := (if_pos c19).symm.trans h
        refine v_tableIn (pc := 1) 60 O dX3_reckon_1 (by rw [c19]; decide) (by rw [c19]; decide) (by rw [c19]; rfl) (by decide) ?_
        refine v_aload_n (pc := 60) O dX3_reckon_60 0 rfl ?_
        refine v_iload_n (pc := 61) O dX3_reckon_61 3 rfl ?_
        refine v_iload_n (pc := 62) O dX3_reckon_62 2 rfl ?_
        refine v_imul (pc := 63) O dX3_reckon_63 ?_
        obtain ⟨p20, e21, h⟩ := bind_some h
        refine v_callV (pc := 64) (a := 181) (As := [.int (x3 * x2)]) (rest := []) (r := none) (D' := p20) O (bb0 hz) (c_X3_push hm e21) mw_X3_push im_X3_push se_X3_push ml_X3_89 kq_181 (by decide) rfl rfl rfl (by decide) (by decide) (Nat.le_of_ble_eq_true rfl) dX3_reckon_64 rfl rfl ?_
        refine v_goto (pc := 67) 129 O dX3_reckon_67 (by decide) ?_
        refine v_sub [] rfl ?_
        exact w_X3_reckon_b129 O hm hn hz p20 h
      · have h := (if_neg c19).symm.trans h
        by_cases c22 : x1 = (9 : Int32)
        · have h := (if_pos c22).symm.trans h
          refine v_tableIn (pc := 1) 70 O dX3_reckon_1 (by rw [c22]; decide) (by rw [c22]; decide) (by rw [c22]; rfl) (by decide) ?_
          refine v_aload_n (pc := 70) O dX3_reckon_70 0 rfl ?_
          refine v_iload_n (pc := 71) O dX3_reckon_71 3 rfl ?_
          refine v_iload_n (pc := 72) O dX3_reckon_72 2 rfl ?_
          refine v_icmpge (pc := 73) 80 O dX3_reckon_73 (by decide) (fun c23 => ?_) (fun c23 => ?_)
          · have h := (if_pos c23).symm.trans h
            refine v_iconst (pc := 80) O dX3_reckon_80 ic_0 ?_
            refine v_sub [] rfl ?_
            exact w_X3_reckon_b81 O hm hn hz 0 D h
          · have h := (if_neg c23).symm.trans h
            refine v_iconst (pc := 76) O dX3_reckon_76 ic_1 ?_
            refine v_goto (pc := 77) 81 O dX3_reckon_77 (by decide) ?_
            refine v_sub [] rfl ?_
            exact w_X3_reckon_b81 O hm hn hz 1 D h
        · have h := (if_neg c22).symm.trans h
          by_cases c24 : x1 = (10 : Int32)
          · have h := (if_pos c24).symm.trans h
            refine v_tableIn (pc := 1) 90 O dX3_reckon_1 (by rw [c24]; decide) (by rw [c24]; decide) (by rw [c24]; rfl) (by decide) ?_
            refine v_aload_n (pc := 90) O dX3_reckon_90 0 rfl ?_
            refine v_iload_n (pc := 91) O dX3_reckon_91 3 rfl ?_
            refine v_iload_n (pc := 92) O dX3_reckon_92 2 rfl ?_
            refine v_icmpne (pc := 93) 100 O dX3_reckon_93 (by decide) (fun c25 => ?_) (fun c25 => ?_)
            · have h := (if_neg c25).symm.trans h
              refine v_iconst (pc := 100) O dX3_reckon_100 ic_0 ?_
              refine v_sub [] rfl ?_
              exact w_X3_reckon_b101 O hm hn hz 0 D h
            · have h := (if_pos c25).symm.trans h
              refine v_iconst (pc := 96) O dX3_reckon_96 ic_1 ?_
              refine v_goto (pc := 97) 101 O dX3_reckon_97 (by decide) ?_
              refine v_sub [] rfl ?_
              exact w_X3_reckon_b101 O hm hn hz 1 D h
          · have h := (if_neg c24).symm.trans h
            refine v_table (pc := 1) 110 O dX3_reckon_1 (fun g1 g2 => by
                have c13i := ne_i (5) rfl c13
                have c16i := ne_i (6) rfl c16
                have c19i := ne_i (7) rfl c19
                have c22i := ne_i (9) rfl c22
                have c24i := ne_i (10) rfl c24
                have e9 : x1.toInt = 8 := by omega
                rw [e9]; exact ⟨_, rfl, by decide⟩) (by decide) ?_
            refine v_sub [0, 2, 3] rfl ?_
            exact w_X3_reckon_b110 O hm hn hz x2 x3 D h
theorem c_X3_reckon {l : Launch} {w : Wx} {n nu c u : Nat} {K : Nat → Nat} (hm : wlm w = true) {x1 : Int32} {x2 : Int32} {x3 : Int32} {D : Dat} {z : Dat} (h : f_X3_reckon x1 x2 x3 D = some z) : C0 l w yX3_reckon cX3_reckon 4 none 1 21 [.ref (wb w + pp 181), .int x1, .int x2, .int x3] n (Ax nu K c u) D none z :=
  C0.of (by decide) (Nat.le_of_ble_eq_true rfl) (fun X e1 e2 e3 hz O => by
  subst e1
  subst e2
  exact w_X3_reckon O hm e3 hz x1 x2 x3 D h)
